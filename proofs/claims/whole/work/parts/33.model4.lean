section GEN
variable {l : Launch} {G : va_G} {k : Nat → Nat} {h : hp} {n : Nat}
def F_X9_firstPlaceOffer_19 (x1 : Int32) : Nat → ob → Int32 → Int32 → Option (Int32 × Int32 × ob)
  | 0, _, _, _ => none
  | fu + 1, om, x2, x3 => (rx_ald 144 (om.2 1) ((8 : Int32))).bind fun v6 => if v6 ≤ x3 then (some (x2, x3, om)) else ((if x3 = x1 then (some (x2, om)) else ((F_X9_of om x3 ((1 : Int32))).bind fun y11 => (F_X9_of om x1 ((1 : Int32))).bind fun y12 => if y11 = y12 then ((F_X9_of om x3 ((6 : Int32))).bind fun y14 => if y14 ≤ x2 then (some (x2, om)) else ((F_X9_of om x3 ((6 : Int32))).bind fun y16 => some (y16, om))) else (some (x2, om)))).bind fun zj8 => F_X9_firstPlaceOffer_19 x1 fu zj8.2 zj8.1 ((x3 + 1)))
def F_X9_firstPlaceOffer (om : ob) (x1 : Int32) : Option (Int32 × ob) := rx_le (upd om.1 0 ((0 : Int32)), om.2) fun o_m_1 => (F_X9_noOne o_m_1 x1).bind fun y2 => if y2.1 = (0 : Int32) then ((F_X9_firstPlaceOffer_19 x1 100000 y2.2 ((0 : Int32)) ((0 : Int32))).bind fun zl17 => if zl17.1 ≤ (99 : Int32) then (some (zl17.1, zl17.2.2)) else (some ((-1 : Int32), zl17.2.2))) else (some ((0 : Int32), y2.2))
set_option maxRecDepth 100000 in
set_option maxHeartbeats 4000000 in
theorem w_X9_firstPlaceOffer {m : Nat} {om : ob} {x1 : Int32} {y : Int32 × ob} (hF : F_X9_firstPlaceOffer om x1 = some y) (b_m : bM k m om h) : Met l yX9_firstPlaceOffer (rx_ws yX9_firstPlaceOffer cX9_firstPlaceOffer 4 (some .int)) (rx_rm 2 43) (va_Pc [.ref m, .int x1] (rx_G G k h n)) (va_Qi (fun r u => y.1 = r ∧ u.2 = n ∧ bM k m y.2 u.1 ∧ rx_fr [(m, 9)] h u.1) (rx_B G k) (rx_A k)) 0 0 (rx_A k) := by
  refine rx_start [(0, .ref m), (1, .int x1)] rfl (Nat.le_of_ble_eq_true rfl) (by decide) rfl (fun P9 E9 S9 M9 A9 B9 me9 c9 C hname => ?_)
  unfold F_X9_firstPlaceOffer at hF
  have fr : rx_fr [(m, 9)] h h := rx_fr0
  refine rx_aload_n C dX9_firstPlaceOffer_0 0 rfl ?_
  refine rx_iconst C dX9_firstPlaceOffer_1 (0 : Int32) (by decide) ?_
  replace hF := rx_leE hF; obtain ⟨o_m_1, e_o_m_1, hF⟩ := hF
  refine rx_pM0 C f_X9_1 dX9_firstPlaceOffer_2 b_m e_o_m_1 (fun hh c_m ff => ?_)
  replace b_m := c_m
  replace fr := rx_frt fr ff (fun a ha => ⟨ha.1, trivial⟩)
  refine rx_aload_n C dX9_firstPlaceOffer_5 0 rfl ?_
  refine rx_iload_n C dX9_firstPlaceOffer_6 1 rfl ?_
  replace hF := rx_biE hF; obtain ⟨y2, e_y2, hF⟩ := hF
  refine rx_ci (rx_rV C (w_X9_noOne e_y2 b_m) Y_X9_noOne V_X9_noOne m_X9_263 (Or.inl ⟨_, _, _, _, b_m.1, rfl⟩) ⟨⟨rfl, rfl⟩, ⟨(Nat.le_of_ble_eq_true rfl), (Nat.le_of_ble_eq_true rfl)⟩, ⟨(Nat.le_of_ble_eq_true rfl), (Nat.le_of_ble_eq_true rfl)⟩⟩ rfl rfl (Nat.le_of_ble_eq_true rfl) dX9_firstPlaceOffer_7) (fun r hh n1 hpp => ?_)
  obtain ⟨rfl, bo_y2, hn, c_m, ff⟩ := hpp
  replace hn : n = n1 := Eq.symm hn
  subst hn
  replace b_m : bM k m y2.2 hh := c_m
  clear c_m
  replace ff : rx_fr [(m, 9)] _ hh := ff
  replace fr := rx_frt fr ff (fun a ha => ⟨ha.1, trivial⟩)
  refine rx_if_eq C dX9_firstPlaceOffer_10 15 (by decide) (fun c3 => ?_) (fun c3 => ?_)
  · rw [if_pos c3] at hF
    refine rx_iconst C dX9_firstPlaceOffer_15 (0 : Int32) (by decide) ?_
    refine rx_istore_n C dX9_firstPlaceOffer_16 (by decide) [(2, .int ((0 : Int32))), (0, .ref m), (1, .int x1)] rfl ?_
    refine rx_iconst C dX9_firstPlaceOffer_17 (0 : Int32) (by decide) ?_
    refine rx_istore_n C dX9_firstPlaceOffer_18 (by decide) [(3, .int ((0 : Int32))), (2, .int ((0 : Int32))), (0, .ref m), (1, .int x1)] rfl ?_
    have loop5 : ∀ (fu : Nat) (zz : Int32 × Int32 × ob) (om : ob) (x2 : Int32) (x3 : Int32) (hh : hp), F_X9_firstPlaceOffer_19 x1 fu om x2 x3 = some zz → bM k m om hh → rx_fr [(m, 9)] h hh → (∀ hh : hp, bM k m zz.2.2 hh → rx_fr [(m, 9)] h hh → rx_W P9 l E9 (rx_rm 2 43) S9 M9 A9 B9 me9 c9 (MQ B9 (va_Qi (fun r u => y.1 = r ∧ u.2 = n ∧ bM k m y.2 u.1 ∧ rx_fr [(m, 9)] h u.1) (rx_B G k) (rx_A k)) A9 S9 0 0 (rx_A k)) G k 4 0 0 hh n 75 [(0, .ref m), (1, .int x1), (2, .int zz.1), (3, .int zz.2.1)] []) → rx_W P9 l E9 (rx_rm 2 43) S9 M9 A9 B9 me9 c9 (MQ B9 (va_Qi (fun r u => y.1 = r ∧ u.2 = n ∧ bM k m y.2 u.1 ∧ rx_fr [(m, 9)] h u.1) (rx_B G k) (rx_A k)) A9 S9 0 0 (rx_A k)) G k 4 0 0 hh n 19 [(0, .ref m), (1, .int x1), (2, .int x2), (3, .int x3)] [] := by
      intro fu
      induction fu with
      | zero => intro zz om x2 x3 hh hF b_m fr KK; exact absurd hF (by simp [F_X9_firstPlaceOffer_19])
      | succ fu ih_loop5 =>
        intro zz om x2 x3 hh hF b_m fr KK
        unfold F_X9_firstPlaceOffer_19 at hF
        refine rx_iload_n C dX9_firstPlaceOffer_19 3 rfl ?_
        refine rx_aload_n C dX9_firstPlaceOffer_20 0 rfl ?_
        refine rx_getf C f_X9_13 dX9_firstPlaceOffer_21 b_m.1 rfl ?_
        refine rx_bipush C dX9_firstPlaceOffer_24 (8 : Int32) (by decide) ?_
        replace hF := rx_biE hF; obtain ⟨v6, e_v6, hF⟩ := hF
        refine rx_aldF C dX9_firstPlaceOffer_26 b_m.2.1 e_v6 ?_
        refine rx_icmp_ge C dX9_firstPlaceOffer_27 75 (by decide) (fun c7 => ?_) (fun c7 => ?_)
        · rw [if_pos c7] at hF
          obtain rfl := Option.some.inj hF
          refine rx_sub [0, 1, 2, 3] rfl ?_
          exact KK _ b_m fr
        · rw [if_neg c7] at hF
          refine rx_iload_n C dX9_firstPlaceOffer_30 3 rfl ?_
          refine rx_iload_n C dX9_firstPlaceOffer_31 1 rfl ?_
          replace hF := rx_biE hF; obtain ⟨zj8, e_zj8, hF⟩ := hF
          have KJ9 : ∀ hh : hp, bM k m zj8.2 hh → rx_fr [(m, 9)] h hh → rx_W P9 l E9 (rx_rm 2 43) S9 M9 A9 B9 me9 c9 (MQ B9 (va_Qi (fun r u => y.1 = r ∧ u.2 = n ∧ bM k m y.2 u.1 ∧ rx_fr [(m, 9)] h u.1) (rx_B G k) (rx_A k)) A9 S9 0 0 (rx_A k)) G k 4 0 0 hh n 69 [(0, .ref m), (1, .int x1), (2, .int zj8.1), (3, .int x3)] [] := by
            intro hh b_m fr
            refine rx_iinc C dX9_firstPlaceOffer_69 3 rfl (x3 + 1) rfl (by decide) [(3, .int ((x3 + 1))), (0, .ref m), (1, .int x1), (2, .int zj8.1)] rfl ?_
            refine rx_goto C dX9_firstPlaceOffer_72 19 (by decide) ?_
            refine rx_sub [1, 2, 3, 0] rfl ?_
            exact ih_loop5 _ _ _ _ _ hF b_m fr KK
          replace hF := e_zj8
          clear e_zj8
          refine rx_icmp_eq C dX9_firstPlaceOffer_32 69 (by decide) (fun c10 => ?_) (fun c10 => ?_)
          · rw [if_pos c10] at hF
            obtain rfl := Option.some.inj hF
            refine rx_sub [0, 1, 2, 3] rfl ?_
            exact KJ9 _ b_m fr
          · rw [if_neg c10] at hF
            refine rx_aload_n C dX9_firstPlaceOffer_35 0 rfl ?_
            refine rx_iload_n C dX9_firstPlaceOffer_36 3 rfl ?_
            refine rx_iconst C dX9_firstPlaceOffer_37 (1 : Int32) (by decide) ?_
            replace hF := rx_biE hF; obtain ⟨y11, e_y11, hF⟩ := hF
            refine rx_ci (rx_rV C (w_X9_of e_y11 b_m) Y_X9_of V_X9_of m_X9_60 (Or.inl ⟨_, _, _, _, b_m.1, rfl⟩) ⟨⟨rfl, rfl⟩, ⟨(Nat.le_of_ble_eq_true rfl), (Nat.le_of_ble_eq_true rfl)⟩, ⟨(Nat.le_of_ble_eq_true rfl), (Nat.le_of_ble_eq_true rfl)⟩⟩ rfl rfl (Nat.le_of_ble_eq_true rfl) dX9_firstPlaceOffer_38) (fun r hh n1 hpp => ?_)
            obtain ⟨rfl, hu⟩ := hpp
            cases hu
            refine rx_aload_n C dX9_firstPlaceOffer_41 0 rfl ?_
            refine rx_iload_n C dX9_firstPlaceOffer_42 1 rfl ?_
            refine rx_iconst C dX9_firstPlaceOffer_43 (1 : Int32) (by decide) ?_
            replace hF := rx_biE hF; obtain ⟨y12, e_y12, hF⟩ := hF
            refine rx_ci (rx_rV C (w_X9_of e_y12 b_m) Y_X9_of V_X9_of m_X9_60 (Or.inl ⟨_, _, _, _, b_m.1, rfl⟩) ⟨⟨rfl, rfl⟩, ⟨(Nat.le_of_ble_eq_true rfl), (Nat.le_of_ble_eq_true rfl)⟩, ⟨(Nat.le_of_ble_eq_true rfl), (Nat.le_of_ble_eq_true rfl)⟩⟩ rfl rfl (Nat.le_of_ble_eq_true rfl) dX9_firstPlaceOffer_44) (fun r hh n1 hpp => ?_)
            obtain ⟨rfl, hu⟩ := hpp
            cases hu
            refine rx_icmp_ne C dX9_firstPlaceOffer_47 69 (by decide) (fun c13 => ?_) (fun c13 => ?_)
            · rw [if_neg c13] at hF
              obtain rfl := Option.some.inj hF
              refine rx_sub [0, 1, 2, 3] rfl ?_
              exact KJ9 _ b_m fr
            · rw [if_pos c13] at hF
              refine rx_aload_n C dX9_firstPlaceOffer_50 0 rfl ?_
              refine rx_iload_n C dX9_firstPlaceOffer_51 3 rfl ?_
              refine rx_bipush C dX9_firstPlaceOffer_52 (6 : Int32) (by decide) ?_
              replace hF := rx_biE hF; obtain ⟨y14, e_y14, hF⟩ := hF
              refine rx_ci (rx_rV C (w_X9_of e_y14 b_m) Y_X9_of V_X9_of m_X9_60 (Or.inl ⟨_, _, _, _, b_m.1, rfl⟩) ⟨⟨rfl, rfl⟩, ⟨(Nat.le_of_ble_eq_true rfl), (Nat.le_of_ble_eq_true rfl)⟩, ⟨(Nat.le_of_ble_eq_true rfl), (Nat.le_of_ble_eq_true rfl)⟩⟩ rfl rfl (Nat.le_of_ble_eq_true rfl) dX9_firstPlaceOffer_54) (fun r hh n1 hpp => ?_)
              obtain ⟨rfl, hu⟩ := hpp
              cases hu
              refine rx_iload_n C dX9_firstPlaceOffer_57 2 rfl ?_
              refine rx_icmp_le C dX9_firstPlaceOffer_58 69 (by decide) (fun c15 => ?_) (fun c15 => ?_)
              · rw [if_pos c15] at hF
                obtain rfl := Option.some.inj hF
                refine rx_sub [0, 1, 2, 3] rfl ?_
                exact KJ9 _ b_m fr
              · rw [if_neg c15] at hF
                refine rx_aload_n C dX9_firstPlaceOffer_61 0 rfl ?_
                refine rx_iload_n C dX9_firstPlaceOffer_62 3 rfl ?_
                refine rx_bipush C dX9_firstPlaceOffer_63 (6 : Int32) (by decide) ?_
                replace hF := rx_biE hF; obtain ⟨y16, e_y16, hF⟩ := hF
                refine rx_ci (rx_rV C (w_X9_of e_y16 b_m) Y_X9_of V_X9_of m_X9_60 (Or.inl ⟨_, _, _, _, b_m.1, rfl⟩) ⟨⟨rfl, rfl⟩, ⟨(Nat.le_of_ble_eq_true rfl), (Nat.le_of_ble_eq_true rfl)⟩, ⟨(Nat.le_of_ble_eq_true rfl), (Nat.le_of_ble_eq_true rfl)⟩⟩ rfl rfl (Nat.le_of_ble_eq_true rfl) dX9_firstPlaceOffer_65) (fun r hh n1 hpp => ?_)
                obtain ⟨rfl, hu⟩ := hpp
                cases hu
                refine rx_istore_n C dX9_firstPlaceOffer_68 (by decide) [(2, .int y16), (0, .ref m), (1, .int x1), (3, .int x3)] rfl ?_
                obtain rfl := Option.some.inj hF
                refine rx_sub [1, 2, 0, 3] rfl ?_
                exact KJ9 _ b_m fr
    refine rx_sub [2, 3, 1, 0] rfl ?_
    replace hF := rx_biE hF; obtain ⟨zl17, e_zl17, hF⟩ := hF
    refine loop5 _ zl17 _ _ _ _ e_zl17 b_m fr (fun hh b_m fr => ?_)
    refine rx_iload_n C dX9_firstPlaceOffer_75 2 rfl ?_
    refine rx_bipush C dX9_firstPlaceOffer_76 (99 : Int32) (by decide) ?_
    refine rx_icmp_le C dX9_firstPlaceOffer_78 85 (by decide) (fun c18 => ?_) (fun c18 => ?_)
    · rw [if_pos c18] at hF
      refine rx_iload_n C dX9_firstPlaceOffer_85 2 rfl ?_
      obtain rfl := Option.some.inj hF
      exact rx_iret C dX9_firstPlaceOffer_86 (Nat.le_refl _) (Nat.le_refl _) ⟨rfl, rfl, b_m, fr⟩
    · rw [if_neg c18] at hF
      refine rx_iconst C dX9_firstPlaceOffer_81 (-1 : Int32) (by decide) ?_
      refine rx_goto C dX9_firstPlaceOffer_82 86 (by decide) ?_
      obtain rfl := Option.some.inj hF
      exact rx_iret C dX9_firstPlaceOffer_86 (Nat.le_refl _) (Nat.le_refl _) ⟨rfl, rfl, b_m, fr⟩
  · rw [if_neg c3] at hF
    refine rx_iconst C dX9_firstPlaceOffer_13 (0 : Int32) (by decide) ?_
    obtain rfl := Option.some.inj hF
    exact rx_iret C dX9_firstPlaceOffer_14 (Nat.le_refl _) (Nat.le_refl _) ⟨rfl, rfl, b_m, fr⟩
def F_X9_tries (om : ob) : Option (ob) := (F_X9_copies_1_4 om ((0 : Int32)) ((0 : Int32)) ((144 : Int32))).bind fun y1 => some y1
set_option maxRecDepth 100000 in
set_option maxHeartbeats 4000000 in
theorem w_X9_tries {m : Nat} {om : ob} {y : ob} (hF : F_X9_tries om = some y) (b_m : bM k m om h) : Met l yX9_tries (rx_ws yX9_tries cX9_tries 1 none) (rx_rm 1 25) (va_Pc [.ref m] (rx_G G k h n)) (va_Qv (fun u => u.2 = n ∧ bM k m y u.1 ∧ rx_fr [(m, 9)] h u.1) (rx_B G k) (rx_A k)) 0 0 (rx_A k) := by
  refine rx_start [(0, .ref m)] rfl (Nat.le_of_ble_eq_true rfl) (by decide) rfl (fun P9 E9 S9 M9 A9 B9 me9 c9 C hname => ?_)
  unfold F_X9_tries at hF
  have fr : rx_fr [(m, 9)] h h := rx_fr0
  refine rx_aload_n C dX9_tries_0 0 rfl ?_
  refine rx_getf C f_X9_13 dX9_tries_1 b_m.1 rfl ?_
  refine rx_iconst C dX9_tries_4 (0 : Int32) (by decide) ?_
  refine rx_aload_n C dX9_tries_5 0 rfl ?_
  refine rx_getf C f_X9_23 dX9_tries_6 b_m.1 rfl ?_
  refine rx_iconst C dX9_tries_9 (0 : Int32) (by decide) ?_
  refine rx_sipush C dX9_tries_10 (144 : Int32) (by decide) ?_
  replace hF := rx_biE hF; obtain ⟨y1, e_y1, hF⟩ := hF
  refine rx_cv (rx_rS C (w_X9_copies_1_4 e_y1 b_m) Y_X9_copies S_X9_copies m_X9_243 ⟨⟨rfl, rfl⟩, ⟨(Nat.le_of_ble_eq_true rfl), (Nat.le_of_ble_eq_true rfl)⟩, ⟨(Nat.le_of_ble_eq_true rfl), (Nat.le_of_ble_eq_true rfl)⟩⟩ rfl rfl (Nat.le_of_ble_eq_true rfl) dX9_tries_13) (fun hh n1 hpp => ?_)
  obtain ⟨hn, c_m, ff⟩ := hpp
  replace hn : n = n1 := Eq.symm hn
  subst hn
  replace b_m : bM k m y1 hh := c_m
  clear c_m
  replace ff : rx_fr [(m, 9)] _ hh := ff
  replace fr := rx_frt fr ff (fun a ha => ⟨ha.1, trivial⟩)
  obtain rfl := Option.some.inj hF
  exact rx_vret C dX9_tries_16 (Nat.le_refl _) (Nat.le_refl _) ⟨rfl, b_m, fr⟩
def F_X9_back (om : ob) (x1 : Int32) : Option (Int32 × ob) := (F_X9_copies_4_1 om ((0 : Int32)) ((0 : Int32)) ((144 : Int32))).bind fun y1 => some (x1, y1)
set_option maxRecDepth 100000 in
set_option maxHeartbeats 4000000 in
theorem w_X9_back {m : Nat} {om : ob} {x1 : Int32} {y : Int32 × ob} (hF : F_X9_back om x1 = some y) (b_m : bM k m om h) : Met l yX9_back (rx_ws yX9_back cX9_back 2 (some .int)) (rx_rm 1 25) (va_Pc [.ref m, .int x1] (rx_G G k h n)) (va_Qi (fun r u => y.1 = r ∧ u.2 = n ∧ bM k m y.2 u.1 ∧ rx_fr [(m, 9)] h u.1) (rx_B G k) (rx_A k)) 0 0 (rx_A k) := by
  refine rx_start [(0, .ref m), (1, .int x1)] rfl (Nat.le_of_ble_eq_true rfl) (by decide) rfl (fun P9 E9 S9 M9 A9 B9 me9 c9 C hname => ?_)
  unfold F_X9_back at hF
  have fr : rx_fr [(m, 9)] h h := rx_fr0
  refine rx_aload_n C dX9_back_0 0 rfl ?_
  refine rx_getf C f_X9_23 dX9_back_1 b_m.1 rfl ?_
  refine rx_iconst C dX9_back_4 (0 : Int32) (by decide) ?_
  refine rx_aload_n C dX9_back_5 0 rfl ?_
  refine rx_getf C f_X9_13 dX9_back_6 b_m.1 rfl ?_
  refine rx_iconst C dX9_back_9 (0 : Int32) (by decide) ?_
  refine rx_sipush C dX9_back_10 (144 : Int32) (by decide) ?_
  replace hF := rx_biE hF; obtain ⟨y1, e_y1, hF⟩ := hF
  refine rx_cv (rx_rS C (w_X9_copies_4_1 e_y1 b_m) Y_X9_copies S_X9_copies m_X9_243 ⟨⟨rfl, rfl⟩, ⟨(Nat.le_of_ble_eq_true rfl), (Nat.le_of_ble_eq_true rfl)⟩, ⟨(Nat.le_of_ble_eq_true rfl), (Nat.le_of_ble_eq_true rfl)⟩⟩ rfl rfl (Nat.le_of_ble_eq_true rfl) dX9_back_13) (fun hh n1 hpp => ?_)
  obtain ⟨hn, c_m, ff⟩ := hpp
  replace hn : n = n1 := Eq.symm hn
  subst hn
  replace b_m : bM k m y1 hh := c_m
  clear c_m
  replace ff : rx_fr [(m, 9)] _ hh := ff
  replace fr := rx_frt fr ff (fun a ha => ⟨ha.1, trivial⟩)
  refine rx_iload_n C dX9_back_16 1 rfl ?_
  obtain rfl := Option.some.inj hF
  exact rx_iret C dX9_back_17 (Nat.le_refl _) (Nat.le_refl _) ⟨rfl, rfl, b_m, fr⟩
def F_X9_turnsToCross_9 (x1 : Int32) (y1 : Int32) : Nat → ob → Int32 → Option (Int32 × ob)
  | 0, _, _ => none
  | fu + 1, om, x3 => if (100 : Int32) ≤ x3 then (some ((-1 : Int32), om)) else ((rx_ald 144 (om.2 1) ((0 : Int32))).bind fun v5 => if (10000 : Int32) ≤ v5 then (some ((-1 : Int32), om)) else ((F_X9_isQueued om x1).bind fun y7 => if y7 = (0 : Int32) then (some ((-1 : Int32), om)) else ((F_X9_passOne om).bind fun y9 => (F_X9_of y9.2 x1 ((5 : Int32))).bind fun y10 => if y10 ≤ y1 then (F_X9_turnsToCross_9 x1 y1 fu y9.2 ((x3 + 1))) else (some (x3, y9.2)))))
def F_X9_turnsToCross (om : ob) (x1 : Int32) : Option (Int32 × ob) := (F_X9_of om x1 ((5 : Int32))).bind fun y1 => F_X9_turnsToCross_9 x1 y1 100000 om ((0 : Int32))
set_option maxRecDepth 100000 in
set_option maxHeartbeats 4000000 in
theorem w_X9_turnsToCross {m : Nat} {om : ob} {x1 : Int32} {y : Int32 × ob} (hF : F_X9_turnsToCross om x1 = some y) (b_m : bM k m om h) : Met l yX9_turnsToCross (rx_ws yX9_turnsToCross cX9_turnsToCross 5 (some .int)) (rx_rm 6 136) (va_Pc [.ref m, .int x1] (rx_G G k h n)) (va_Qi (fun r u => y.1 = r ∧ u.2 = n ∧ bM k m y.2 u.1 ∧ rx_fr [(m, 9)] h u.1) (rx_B G k) (rx_A k)) 0 0 (rx_A k) := by
  refine rx_start [(0, .ref m), (1, .int x1)] rfl (Nat.le_of_ble_eq_true rfl) (by decide) rfl (fun P9 E9 S9 M9 A9 B9 me9 c9 C hname => ?_)
  unfold F_X9_turnsToCross at hF
  have fr : rx_fr [(m, 9)] h h := rx_fr0
  refine rx_aload_n C dX9_turnsToCross_0 0 rfl ?_
  refine rx_iload_n C dX9_turnsToCross_1 1 rfl ?_
  refine rx_iconst C dX9_turnsToCross_2 (5 : Int32) (by decide) ?_
  replace hF := rx_biE hF; obtain ⟨y1, e_y1, hF⟩ := hF
  refine rx_ci (rx_rV C (w_X9_of e_y1 b_m) Y_X9_of V_X9_of m_X9_60 (Or.inl ⟨_, _, _, _, b_m.1, rfl⟩) ⟨⟨rfl, rfl⟩, ⟨(Nat.le_of_ble_eq_true rfl), (Nat.le_of_ble_eq_true rfl)⟩, ⟨(Nat.le_of_ble_eq_true rfl), (Nat.le_of_ble_eq_true rfl)⟩⟩ rfl rfl (Nat.le_of_ble_eq_true rfl) dX9_turnsToCross_3) (fun r hh n1 hpp => ?_)
  obtain ⟨rfl, hu⟩ := hpp
  cases hu
  refine rx_istore_n C dX9_turnsToCross_6 (by decide) [(2, .int y1), (0, .ref m), (1, .int x1)] rfl ?_
  refine rx_iconst C dX9_turnsToCross_7 (0 : Int32) (by decide) ?_
  refine rx_istore_n C dX9_turnsToCross_8 (by decide) [(3, .int ((0 : Int32))), (2, .int y1), (0, .ref m), (1, .int x1)] rfl ?_
  have loop3 : ∀ (fu : Nat) (om : ob) (x3 : Int32) (hh : hp), F_X9_turnsToCross_9 x1 y1 fu om x3 = some y → bM k m om hh → rx_fr [(m, 9)] h hh → rx_W P9 l E9 (rx_rm 6 136) S9 M9 A9 B9 me9 c9 (MQ B9 (va_Qi (fun r u => y.1 = r ∧ u.2 = n ∧ bM k m y.2 u.1 ∧ rx_fr [(m, 9)] h u.1) (rx_B G k) (rx_A k)) A9 S9 0 0 (rx_A k)) G k 5 0 0 hh n 9 [(0, .ref m), (1, .int x1), (2, .int y1), (3, .int x3)] [] := by
    intro fu
    induction fu with
    | zero => intro om x3 hh hF b_m fr; exact absurd hF (by simp [F_X9_turnsToCross_9])
    | succ fu ih_loop3 =>
      intro om x3 hh hF b_m fr
      unfold F_X9_turnsToCross_9 at hF
      refine rx_iload_n C dX9_turnsToCross_9 3 rfl ?_
      refine rx_bipush C dX9_turnsToCross_10 (100 : Int32) (by decide) ?_
      refine rx_icmp_ge C dX9_turnsToCross_12 59 (by decide) (fun c4 => ?_) (fun c4 => ?_)
      · rw [if_pos c4] at hF
        refine rx_iconst C dX9_turnsToCross_59 (-1 : Int32) (by decide) ?_
        obtain rfl := Option.some.inj hF
        exact rx_iret C dX9_turnsToCross_60 (Nat.le_refl _) (Nat.le_refl _) ⟨rfl, rfl, b_m, fr⟩
      · rw [if_neg c4] at hF
        refine rx_aload_n C dX9_turnsToCross_15 0 rfl ?_
        refine rx_getf C f_X9_13 dX9_turnsToCross_16 b_m.1 rfl ?_
        refine rx_iconst C dX9_turnsToCross_19 (0 : Int32) (by decide) ?_
        replace hF := rx_biE hF; obtain ⟨v5, e_v5, hF⟩ := hF
        refine rx_aldF C dX9_turnsToCross_20 b_m.2.1 e_v5 ?_
        refine rx_sipush C dX9_turnsToCross_21 (10000 : Int32) (by decide) ?_
        refine rx_icmp_ge C dX9_turnsToCross_24 59 (by decide) (fun c6 => ?_) (fun c6 => ?_)
        · rw [if_pos c6] at hF
          refine rx_iconst C dX9_turnsToCross_59 (-1 : Int32) (by decide) ?_
          obtain rfl := Option.some.inj hF
          exact rx_iret C dX9_turnsToCross_60 (Nat.le_refl _) (Nat.le_refl _) ⟨rfl, rfl, b_m, fr⟩
        · rw [if_neg c6] at hF
          refine rx_aload_n C dX9_turnsToCross_27 0 rfl ?_
          refine rx_iload_n C dX9_turnsToCross_28 1 rfl ?_
          replace hF := rx_biE hF; obtain ⟨y7, e_y7, hF⟩ := hF
          refine rx_ci (rx_rV C (w_X9_isQueued e_y7 b_m) Y_X9_isQueued V_X9_isQueued m_X9_79 (Or.inl ⟨_, _, _, _, b_m.1, rfl⟩) ⟨⟨rfl, rfl⟩, ⟨(Nat.le_of_ble_eq_true rfl), (Nat.le_of_ble_eq_true rfl)⟩, ⟨(Nat.le_of_ble_eq_true rfl), (Nat.le_of_ble_eq_true rfl)⟩⟩ rfl rfl (Nat.le_of_ble_eq_true rfl) dX9_turnsToCross_29) (fun r hh n1 hpp => ?_)
          obtain ⟨rfl, bo_y7, hu⟩ := hpp
          cases hu
          refine rx_if_eq C dX9_turnsToCross_32 59 (by decide) (fun c8 => ?_) (fun c8 => ?_)
          · rw [if_pos c8] at hF
            refine rx_iconst C dX9_turnsToCross_59 (-1 : Int32) (by decide) ?_
            obtain rfl := Option.some.inj hF
            exact rx_iret C dX9_turnsToCross_60 (Nat.le_refl _) (Nat.le_refl _) ⟨rfl, rfl, b_m, fr⟩
          · rw [if_neg c8] at hF
            refine rx_aload_n C dX9_turnsToCross_35 0 rfl ?_
            replace hF := rx_biE hF; obtain ⟨y9, e_y9, hF⟩ := hF
            refine rx_ci (rx_rV C (w_X9_passOne e_y9 b_m) Y_X9_passOne V_X9_passOne m_X9_124 (Or.inl ⟨_, _, _, _, b_m.1, rfl⟩) ⟨⟨rfl, rfl⟩, ⟨(Nat.le_of_ble_eq_true rfl), (Nat.le_of_ble_eq_true rfl)⟩, ⟨(Nat.le_of_ble_eq_true rfl), (Nat.le_of_ble_eq_true rfl)⟩⟩ rfl rfl (Nat.le_of_ble_eq_true rfl) dX9_turnsToCross_36) (fun r hh n1 hpp => ?_)
            obtain ⟨rfl, hn, c_m, ff⟩ := hpp
            replace hn : n = n1 := Eq.symm hn
            subst hn
            replace b_m : bM k m y9.2 hh := c_m
            clear c_m
            replace ff : rx_fr [(m, 9)] _ hh := ff
            replace fr := rx_frt fr ff (fun a ha => ⟨ha.1, trivial⟩)
            refine rx_istore C dX9_turnsToCross_39 (by decide) [(4, .int y9.1), (0, .ref m), (1, .int x1), (2, .int y1), (3, .int x3)] rfl ?_
            refine rx_aload_n C dX9_turnsToCross_41 1 rfl ?_
            refine rx_iload_n C dX9_turnsToCross_42 2 rfl ?_
            refine rx_iconst C dX9_turnsToCross_43 (5 : Int32) (by decide) ?_
            replace hF := rx_biE hF; obtain ⟨y10, e_y10, hF⟩ := hF
            refine rx_ci (rx_rV C (w_X9_of e_y10 b_m) Y_X9_of V_X9_of m_X9_60 (Or.inl ⟨_, _, _, _, b_m.1, rfl⟩) ⟨⟨rfl, rfl⟩, ⟨(Nat.le_of_ble_eq_true rfl), (Nat.le_of_ble_eq_true rfl)⟩, ⟨(Nat.le_of_ble_eq_true rfl), (Nat.le_of_ble_eq_true rfl)⟩⟩ rfl rfl (Nat.le_of_ble_eq_true rfl) dX9_turnsToCross_44) (fun r hh n1 hpp => ?_)
            obtain ⟨rfl, hu⟩ := hpp
            cases hu
            refine rx_iload_n C dX9_turnsToCross_47 3 rfl ?_
            refine rx_icmp_le C dX9_turnsToCross_48 53 (by decide) (fun c11 => ?_) (fun c11 => ?_)
            · rw [if_pos c11] at hF
              refine rx_iinc C dX9_turnsToCross_53 4 rfl (x3 + 1) rfl (by decide) [(3, .int ((x3 + 1))), (4, .int y9.1), (0, .ref m), (1, .int x1), (2, .int y1)] rfl ?_
              refine rx_goto C dX9_turnsToCross_56 9 (by decide) ?_
              refine rx_sub [2, 3, 4, 0] rfl ?_
              exact ih_loop3 _ _ _ hF b_m fr
            · rw [if_neg c11] at hF
              refine rx_iload_n C dX9_turnsToCross_51 4 rfl ?_
              obtain rfl := Option.some.inj hF
              exact rx_iret C dX9_turnsToCross_52 (Nat.le_refl _) (Nat.le_refl _) ⟨rfl, rfl, b_m, fr⟩
  refine rx_sub [2, 3, 1, 0] rfl ?_
  exact loop3 _ _ _ _ hF b_m fr
def F_X9_turnsUntilCrossing (om : ob) (x1 : Int32) : Option (Int32 × ob) := rx_le (upd om.1 0 ((0 : Int32)), om.2) fun o_m_1 => (F_X9_noOne o_m_1 x1).bind fun y2 => if y2.1 = (0 : Int32) then ((F_X9_tries y2.2).bind fun y4 => (F_X9_turnsToCross y4 x1).bind fun y5 => (F_X9_back y5.2 y5.1).bind fun y6 => some (y6.1, y6.2)) else (some ((0 : Int32), y2.2))
set_option maxRecDepth 100000 in
set_option maxHeartbeats 4000000 in
theorem w_X9_turnsUntilCrossing {m : Nat} {om : ob} {x1 : Int32} {y : Int32 × ob} (hF : F_X9_turnsUntilCrossing om x1 = some y) (b_m : bM k m om h) : Met l yX9_turnsUntilCrossing (rx_ws yX9_turnsUntilCrossing cX9_turnsUntilCrossing 2 (some .int)) (rx_rm 7 160) (va_Pc [.ref m, .int x1] (rx_G G k h n)) (va_Qi (fun r u => y.1 = r ∧ u.2 = n ∧ bM k m y.2 u.1 ∧ rx_fr [(m, 9)] h u.1) (rx_B G k) (rx_A k)) 0 0 (rx_A k) := by
  refine rx_start [(0, .ref m), (1, .int x1)] rfl (Nat.le_of_ble_eq_true rfl) (by decide) rfl (fun P9 E9 S9 M9 A9 B9 me9 c9 C hname => ?_)
  unfold F_X9_turnsUntilCrossing at hF
  have fr : rx_fr [(m, 9)] h h := rx_fr0
  refine rx_aload_n C dX9_turnsUntilCrossing_0 0 rfl ?_
  refine rx_iconst C dX9_turnsUntilCrossing_1 (0 : Int32) (by decide) ?_
  replace hF := rx_leE hF; obtain ⟨o_m_1, e_o_m_1, hF⟩ := hF
  refine rx_pM0 C f_X9_1 dX9_turnsUntilCrossing_2 b_m e_o_m_1 (fun hh c_m ff => ?_)
  replace b_m := c_m
  replace fr := rx_frt fr ff (fun a ha => ⟨ha.1, trivial⟩)
  refine rx_aload_n C dX9_turnsUntilCrossing_5 0 rfl ?_
  refine rx_iload_n C dX9_turnsUntilCrossing_6 1 rfl ?_
  replace hF := rx_biE hF; obtain ⟨y2, e_y2, hF⟩ := hF
  refine rx_ci (rx_rV C (w_X9_noOne e_y2 b_m) Y_X9_noOne V_X9_noOne m_X9_263 (Or.inl ⟨_, _, _, _, b_m.1, rfl⟩) ⟨⟨rfl, rfl⟩, ⟨(Nat.le_of_ble_eq_true rfl), (Nat.le_of_ble_eq_true rfl)⟩, ⟨(Nat.le_of_ble_eq_true rfl), (Nat.le_of_ble_eq_true rfl)⟩⟩ rfl rfl (Nat.le_of_ble_eq_true rfl) dX9_turnsUntilCrossing_7) (fun r hh n1 hpp => ?_)
  obtain ⟨rfl, bo_y2, hn, c_m, ff⟩ := hpp
  replace hn : n = n1 := Eq.symm hn
  subst hn
  replace b_m : bM k m y2.2 hh := c_m
  clear c_m
  replace ff : rx_fr [(m, 9)] _ hh := ff
  replace fr := rx_frt fr ff (fun a ha => ⟨ha.1, trivial⟩)
  refine rx_if_eq C dX9_turnsUntilCrossing_10 15 (by decide) (fun c3 => ?_) (fun c3 => ?_)
  · rw [if_pos c3] at hF
    refine rx_aload_n C dX9_turnsUntilCrossing_15 0 rfl ?_
    replace hF := rx_biE hF; obtain ⟨y4, e_y4, hF⟩ := hF
    refine rx_cv (rx_rV C (w_X9_tries e_y4 b_m) Y_X9_tries V_X9_tries m_X9_284 (Or.inl ⟨_, _, _, _, b_m.1, rfl⟩) ⟨⟨rfl, rfl⟩, ⟨(Nat.le_of_ble_eq_true rfl), (Nat.le_of_ble_eq_true rfl)⟩, ⟨(Nat.le_of_ble_eq_true rfl), (Nat.le_of_ble_eq_true rfl)⟩⟩ rfl rfl (Nat.le_of_ble_eq_true rfl) dX9_turnsUntilCrossing_16) (fun hh n1 hpp => ?_)
    obtain ⟨hn, c_m, ff⟩ := hpp
    replace hn : n = n1 := Eq.symm hn
    subst hn
    replace b_m : bM k m y4 hh := c_m
    clear c_m
    replace ff : rx_fr [(m, 9)] _ hh := ff
    replace fr := rx_frt fr ff (fun a ha => ⟨ha.1, trivial⟩)
    refine rx_aload_n C dX9_turnsUntilCrossing_19 0 rfl ?_
    refine rx_aload_n C dX9_turnsUntilCrossing_20 0 rfl ?_
    refine rx_iload_n C dX9_turnsUntilCrossing_21 1 rfl ?_
    replace hF := rx_biE hF; obtain ⟨y5, e_y5, hF⟩ := hF
    refine rx_ci (rx_rV C (w_X9_turnsToCross e_y5 b_m) Y_X9_turnsToCross V_X9_turnsToCross m_X9_287 (Or.inl ⟨_, _, _, _, b_m.1, rfl⟩) ⟨⟨rfl, rfl⟩, ⟨(Nat.le_of_ble_eq_true rfl), (Nat.le_of_ble_eq_true rfl)⟩, ⟨(Nat.le_of_ble_eq_true rfl), (Nat.le_of_ble_eq_true rfl)⟩⟩ rfl rfl (Nat.le_of_ble_eq_true rfl) dX9_turnsUntilCrossing_22) (fun r hh n1 hpp => ?_)
    obtain ⟨rfl, hn, c_m, ff⟩ := hpp
    replace hn : n = n1 := Eq.symm hn
    subst hn
    replace b_m : bM k m y5.2 hh := c_m
    clear c_m
    replace ff : rx_fr [(m, 9)] _ hh := ff
    replace fr := rx_frt fr ff (fun a ha => ⟨ha.1, trivial⟩)
    replace hF := rx_biE hF; obtain ⟨y6, e_y6, hF⟩ := hF
    refine rx_ci (rx_rV C (w_X9_back e_y6 b_m) Y_X9_back V_X9_back m_X9_290 (Or.inl ⟨_, _, _, _, b_m.1, rfl⟩) ⟨⟨rfl, rfl⟩, ⟨(Nat.le_of_ble_eq_true rfl), (Nat.le_of_ble_eq_true rfl)⟩, ⟨(Nat.le_of_ble_eq_true rfl), (Nat.le_of_ble_eq_true rfl)⟩⟩ rfl rfl (Nat.le_of_ble_eq_true rfl) dX9_turnsUntilCrossing_25) (fun r hh n1 hpp => ?_)
    obtain ⟨rfl, hn, c_m, ff⟩ := hpp
    replace hn : n = n1 := Eq.symm hn
    subst hn
    replace b_m : bM k m y6.2 hh := c_m
    clear c_m
    replace ff : rx_fr [(m, 9)] _ hh := ff
    replace fr := rx_frt fr ff (fun a ha => ⟨ha.1, trivial⟩)
    obtain rfl := Option.some.inj hF
    exact rx_iret C dX9_turnsUntilCrossing_28 (Nat.le_refl _) (Nat.le_refl _) ⟨rfl, rfl, b_m, fr⟩
  · rw [if_neg c3] at hF
    refine rx_iconst C dX9_turnsUntilCrossing_13 (0 : Int32) (by decide) ?_
    obtain rfl := Option.some.inj hF
    exact rx_iret C dX9_turnsUntilCrossing_14 (Nat.le_refl _) (Nat.le_refl _) ⟨rfl, rfl, b_m, fr⟩
def F_X9_tollBoxAfter (om : ob) (x1 : Int32) : Option (Int32 × ob) := rx_le (upd om.1 0 ((0 : Int32)), om.2) fun o_m_1 => (F_X9_in x1 ((0 : Int32)) ((100 : Int32))).bind fun y2 => (F_X9_fails o_m_1 y2 ((1 : Int32))).bind fun y3 => if y3.1 = (0 : Int32) then ((F_X9_tries y3.2).bind fun y5 => (F_X9_passesUpTo y5 x1).bind fun y6 => (rx_ald 144 (y6.2 1) ((5 : Int32))).bind fun v7 => (F_X9_back y6 v7).bind fun y8 => some (y8.1, y8.2)) else (some ((0 : Int32), y3.2))
set_option maxRecDepth 100000 in
set_option maxHeartbeats 4000000 in
theorem w_X9_tollBoxAfter {m : Nat} {om : ob} {x1 : Int32} {y : Int32 × ob} (hF : F_X9_tollBoxAfter om x1 = some y) (b_m : bM k m om h) : Met l yX9_tollBoxAfter (rx_ws yX9_tollBoxAfter cX9_tollBoxAfter 2 (some .int)) (rx_rm 7 159) (va_Pc [.ref m, .int x1] (rx_G G k h n)) (va_Qi (fun r u => y.1 = r ∧ u.2 = n ∧ bM k m y.2 u.1 ∧ rx_fr [(m, 9)] h u.1) (rx_B G k) (rx_A k)) 0 0 (rx_A k) := by
  refine rx_start [(0, .ref m), (1, .int x1)] rfl (Nat.le_of_ble_eq_true rfl) (by decide) rfl (fun P9 E9 S9 M9 A9 B9 me9 c9 C hname => ?_)
  unfold F_X9_tollBoxAfter at hF
  have fr : rx_fr [(m, 9)] h h := rx_fr0
  refine rx_aload_n C dX9_tollBoxAfter_0 0 rfl ?_
  refine rx_iconst C dX9_tollBoxAfter_1 (0 : Int32) (by decide) ?_
  replace hF := rx_leE hF; obtain ⟨o_m_1, e_o_m_1, hF⟩ := hF
  refine rx_pM0 C f_X9_1 dX9_tollBoxAfter_2 b_m e_o_m_1 (fun hh c_m ff => ?_)
  replace b_m := c_m
  replace fr := rx_frt fr ff (fun a ha => ⟨ha.1, trivial⟩)
  refine rx_aload_n C dX9_tollBoxAfter_5 0 rfl ?_
  refine rx_iload_n C dX9_tollBoxAfter_6 1 rfl ?_
  refine rx_iconst C dX9_tollBoxAfter_7 (0 : Int32) (by decide) ?_
  refine rx_bipush C dX9_tollBoxAfter_8 (100 : Int32) (by decide) ?_
  replace hF := rx_biE hF; obtain ⟨y2, e_y2, hF⟩ := hF
  refine rx_ci (rx_rS C (w_X9_in e_y2 ) Y_X9_in S_X9_in m_X9_200 ⟨⟨rfl, rfl⟩, ⟨(Nat.le_of_ble_eq_true rfl), (Nat.le_of_ble_eq_true rfl)⟩, ⟨(Nat.le_of_ble_eq_true rfl), (Nat.le_of_ble_eq_true rfl)⟩⟩ rfl rfl (Nat.le_of_ble_eq_true rfl) dX9_tollBoxAfter_10) (fun r hh n1 hpp => ?_)
  obtain ⟨rfl, bo_y2, hu⟩ := hpp
  cases hu
  refine rx_iconst C dX9_tollBoxAfter_13 (1 : Int32) (by decide) ?_
  replace hF := rx_biE hF; obtain ⟨y3, e_y3, hF⟩ := hF
  refine rx_ci (rx_rV C (w_X9_fails e_y3 b_m) Y_X9_fails V_X9_fails m_X9_239 (Or.inl ⟨_, _, _, _, b_m.1, rfl⟩) ⟨⟨rfl, rfl⟩, ⟨(Nat.le_of_ble_eq_true rfl), (Nat.le_of_ble_eq_true rfl)⟩, ⟨(Nat.le_of_ble_eq_true rfl), (Nat.le_of_ble_eq_true rfl)⟩⟩ rfl rfl (Nat.le_of_ble_eq_true rfl) dX9_tollBoxAfter_14) (fun r hh n1 hpp => ?_)
  obtain ⟨rfl, bo_y3, hn, c_m, ff⟩ := hpp
  replace hn : n = n1 := Eq.symm hn
  subst hn
  replace b_m : bM k m y3.2 hh := c_m
  clear c_m
  replace ff : rx_fr [(m, 9)] _ hh := ff
  replace fr := rx_frt fr ff (fun a ha => ⟨ha.1, trivial⟩)
  refine rx_if_eq C dX9_tollBoxAfter_17 22 (by decide) (fun c4 => ?_) (fun c4 => ?_)
  · rw [if_pos c4] at hF
    refine rx_aload_n C dX9_tollBoxAfter_22 0 rfl ?_
    replace hF := rx_biE hF; obtain ⟨y5, e_y5, hF⟩ := hF
    refine rx_cv (rx_rV C (w_X9_tries e_y5 b_m) Y_X9_tries V_X9_tries m_X9_284 (Or.inl ⟨_, _, _, _, b_m.1, rfl⟩) ⟨⟨rfl, rfl⟩, ⟨(Nat.le_of_ble_eq_true rfl), (Nat.le_of_ble_eq_true rfl)⟩, ⟨(Nat.le_of_ble_eq_true rfl), (Nat.le_of_ble_eq_true rfl)⟩⟩ rfl rfl (Nat.le_of_ble_eq_true rfl) dX9_tollBoxAfter_23) (fun hh n1 hpp => ?_)
    obtain ⟨hn, c_m, ff⟩ := hpp
    replace hn : n = n1 := Eq.symm hn
    subst hn
    replace b_m : bM k m y5 hh := c_m
    clear c_m
    replace ff : rx_fr [(m, 9)] _ hh := ff
    replace fr := rx_frt fr ff (fun a ha => ⟨ha.1, trivial⟩)
    refine rx_aload_n C dX9_tollBoxAfter_26 0 rfl ?_
    refine rx_iload_n C dX9_tollBoxAfter_27 1 rfl ?_
    replace hF := rx_biE hF; obtain ⟨y6, e_y6, hF⟩ := hF
    refine rx_cv (rx_rV C (w_X9_passesUpTo e_y6 b_m) Y_X9_passesUpTo V_X9_passesUpTo m_X9_293 (Or.inl ⟨_, _, _, _, b_m.1, rfl⟩) ⟨⟨rfl, rfl⟩, ⟨(Nat.le_of_ble_eq_true rfl), (Nat.le_of_ble_eq_true rfl)⟩, ⟨(Nat.le_of_ble_eq_true rfl), (Nat.le_of_ble_eq_true rfl)⟩⟩ rfl rfl (Nat.le_of_ble_eq_true rfl) dX9_tollBoxAfter_28) (fun hh n1 hpp => ?_)
    obtain ⟨hn, c_m, ff⟩ := hpp
    replace hn : n = n1 := Eq.symm hn
    subst hn
    replace b_m : bM k m y6 hh := c_m
    clear c_m
    replace ff : rx_fr [(m, 9)] _ hh := ff
    replace fr := rx_frt fr ff (fun a ha => ⟨ha.1, trivial⟩)
    refine rx_aload_n C dX9_tollBoxAfter_31 0 rfl ?_
    refine rx_aload_n C dX9_tollBoxAfter_32 0 rfl ?_
    refine rx_getf C f_X9_13 dX9_tollBoxAfter_33 b_m.1 rfl ?_
    refine rx_iconst C dX9_tollBoxAfter_36 (5 : Int32) (by decide) ?_
    replace hF := rx_biE hF; obtain ⟨v7, e_v7, hF⟩ := hF
    refine rx_aldF C dX9_tollBoxAfter_37 b_m.2.1 e_v7 ?_
    replace hF := rx_biE hF; obtain ⟨y8, e_y8, hF⟩ := hF
    refine rx_ci (rx_rV C (w_X9_back e_y8 b_m) Y_X9_back V_X9_back m_X9_290 (Or.inl ⟨_, _, _, _, b_m.1, rfl⟩) ⟨⟨rfl, rfl⟩, ⟨(Nat.le_of_ble_eq_true rfl), (Nat.le_of_ble_eq_true rfl)⟩, ⟨(Nat.le_of_ble_eq_true rfl), (Nat.le_of_ble_eq_true rfl)⟩⟩ rfl rfl (Nat.le_of_ble_eq_true rfl) dX9_tollBoxAfter_38) (fun r hh n1 hpp => ?_)
    obtain ⟨rfl, hn, c_m, ff⟩ := hpp
    replace hn : n = n1 := Eq.symm hn
    subst hn
    replace b_m : bM k m y8.2 hh := c_m
    clear c_m
    replace ff : rx_fr [(m, 9)] _ hh := ff
    replace fr := rx_frt fr ff (fun a ha => ⟨ha.1, trivial⟩)
    obtain rfl := Option.some.inj hF
    exact rx_iret C dX9_tollBoxAfter_41 (Nat.le_refl _) (Nat.le_refl _) ⟨rfl, rfl, b_m, fr⟩
  · rw [if_neg c4] at hF
    refine rx_iconst C dX9_tollBoxAfter_20 (0 : Int32) (by decide) ?_
    obtain rfl := Option.some.inj hF
    exact rx_iret C dX9_tollBoxAfter_21 (Nat.le_refl _) (Nat.le_refl _) ⟨rfl, rfl, b_m, fr⟩
def F_X9_limitAngleAfter (om : ob) (x1 : Int32) : Option (Int32 × ob) := rx_le (upd om.1 0 ((0 : Int32)), om.2) fun o_m_1 => (F_X9_in x1 ((0 : Int32)) ((100 : Int32))).bind fun y2 => (F_X9_fails o_m_1 y2 ((1 : Int32))).bind fun y3 => if y3.1 = (0 : Int32) then ((F_X9_tries y3.2).bind fun y5 => (F_X9_passesUpTo y5 x1).bind fun y6 => (rx_ald 144 (y6.2 1) ((1 : Int32))).bind fun v7 => (F_X9_back y6 v7).bind fun y8 => some (y8.1, y8.2)) else (some ((0 : Int32), y3.2))
set_option maxRecDepth 100000 in
set_option maxHeartbeats 4000000 in
theorem w_X9_limitAngleAfter {m : Nat} {om : ob} {x1 : Int32} {y : Int32 × ob} (hF : F_X9_limitAngleAfter om x1 = some y) (b_m : bM k m om h) : Met l yX9_limitAngleAfter (rx_ws yX9_limitAngleAfter cX9_limitAngleAfter 2 (some .int)) (rx_rm 7 159) (va_Pc [.ref m, .int x1] (rx_G G k h n)) (va_Qi (fun r u => y.1 = r ∧ u.2 = n ∧ bM k m y.2 u.1 ∧ rx_fr [(m, 9)] h u.1) (rx_B G k) (rx_A k)) 0 0 (rx_A k) := by
  refine rx_start [(0, .ref m), (1, .int x1)] rfl (Nat.le_of_ble_eq_true rfl) (by decide) rfl (fun P9 E9 S9 M9 A9 B9 me9 c9 C hname => ?_)
  unfold F_X9_limitAngleAfter at hF
  have fr : rx_fr [(m, 9)] h h := rx_fr0
  refine rx_aload_n C dX9_limitAngleAfter_0 0 rfl ?_
  refine rx_iconst C dX9_limitAngleAfter_1 (0 : Int32) (by decide) ?_
  replace hF := rx_leE hF; obtain ⟨o_m_1, e_o_m_1, hF⟩ := hF
  refine rx_pM0 C f_X9_1 dX9_limitAngleAfter_2 b_m e_o_m_1 (fun hh c_m ff => ?_)
  replace b_m := c_m
  replace fr := rx_frt fr ff (fun a ha => ⟨ha.1, trivial⟩)
  refine rx_aload_n C dX9_limitAngleAfter_5 0 rfl ?_
  refine rx_iload_n C dX9_limitAngleAfter_6 1 rfl ?_
  refine rx_iconst C dX9_limitAngleAfter_7 (0 : Int32) (by decide) ?_
  refine rx_bipush C dX9_limitAngleAfter_8 (100 : Int32) (by decide) ?_
  replace hF := rx_biE hF; obtain ⟨y2, e_y2, hF⟩ := hF
  refine rx_ci (rx_rS C (w_X9_in e_y2 ) Y_X9_in S_X9_in m_X9_200 ⟨⟨rfl, rfl⟩, ⟨(Nat.le_of_ble_eq_true rfl), (Nat.le_of_ble_eq_true rfl)⟩, ⟨(Nat.le_of_ble_eq_true rfl), (Nat.le_of_ble_eq_true rfl)⟩⟩ rfl rfl (Nat.le_of_ble_eq_true rfl) dX9_limitAngleAfter_10) (fun r hh n1 hpp => ?_)
  obtain ⟨rfl, bo_y2, hu⟩ := hpp
  cases hu
  refine rx_iconst C dX9_limitAngleAfter_13 (1 : Int32) (by decide) ?_
  replace hF := rx_biE hF; obtain ⟨y3, e_y3, hF⟩ := hF
  refine rx_ci (rx_rV C (w_X9_fails e_y3 b_m) Y_X9_fails V_X9_fails m_X9_239 (Or.inl ⟨_, _, _, _, b_m.1, rfl⟩) ⟨⟨rfl, rfl⟩, ⟨(Nat.le_of_ble_eq_true rfl), (Nat.le_of_ble_eq_true rfl)⟩, ⟨(Nat.le_of_ble_eq_true rfl), (Nat.le_of_ble_eq_true rfl)⟩⟩ rfl rfl (Nat.le_of_ble_eq_true rfl) dX9_limitAngleAfter_14) (fun r hh n1 hpp => ?_)
  obtain ⟨rfl, bo_y3, hn, c_m, ff⟩ := hpp
  replace hn : n = n1 := Eq.symm hn
  subst hn
  replace b_m : bM k m y3.2 hh := c_m
  clear c_m
  replace ff : rx_fr [(m, 9)] _ hh := ff
  replace fr := rx_frt fr ff (fun a ha => ⟨ha.1, trivial⟩)
  refine rx_if_eq C dX9_limitAngleAfter_17 22 (by decide) (fun c4 => ?_) (fun c4 => ?_)
  · rw [if_pos c4] at hF
    refine rx_aload_n C dX9_limitAngleAfter_22 0 rfl ?_
    replace hF := rx_biE hF; obtain ⟨y5, e_y5, hF⟩ := hF
    refine rx_cv (rx_rV C (w_X9_tries e_y5 b_m) Y_X9_tries V_X9_tries m_X9_284 (Or.inl ⟨_, _, _, _, b_m.1, rfl⟩) ⟨⟨rfl, rfl⟩, ⟨(Nat.le_of_ble_eq_true rfl), (Nat.le_of_ble_eq_true rfl)⟩, ⟨(Nat.le_of_ble_eq_true rfl), (Nat.le_of_ble_eq_true rfl)⟩⟩ rfl rfl (Nat.le_of_ble_eq_true rfl) dX9_limitAngleAfter_23) (fun hh n1 hpp => ?_)
    obtain ⟨hn, c_m, ff⟩ := hpp
    replace hn : n = n1 := Eq.symm hn
    subst hn
    replace b_m : bM k m y5 hh := c_m
    clear c_m
    replace ff : rx_fr [(m, 9)] _ hh := ff
    replace fr := rx_frt fr ff (fun a ha => ⟨ha.1, trivial⟩)
    refine rx_aload_n C dX9_limitAngleAfter_26 0 rfl ?_
    refine rx_iload_n C dX9_limitAngleAfter_27 1 rfl ?_
    replace hF := rx_biE hF; obtain ⟨y6, e_y6, hF⟩ := hF
    refine rx_cv (rx_rV C (w_X9_passesUpTo e_y6 b_m) Y_X9_passesUpTo V_X9_passesUpTo m_X9_293 (Or.inl ⟨_, _, _, _, b_m.1, rfl⟩) ⟨⟨rfl, rfl⟩, ⟨(Nat.le_of_ble_eq_true rfl), (Nat.le_of_ble_eq_true rfl)⟩, ⟨(Nat.le_of_ble_eq_true rfl), (Nat.le_of_ble_eq_true rfl)⟩⟩ rfl rfl (Nat.le_of_ble_eq_true rfl) dX9_limitAngleAfter_28) (fun hh n1 hpp => ?_)
    obtain ⟨hn, c_m, ff⟩ := hpp
    replace hn : n = n1 := Eq.symm hn
    subst hn
    replace b_m : bM k m y6 hh := c_m
    clear c_m
    replace ff : rx_fr [(m, 9)] _ hh := ff
    replace fr := rx_frt fr ff (fun a ha => ⟨ha.1, trivial⟩)
    refine rx_aload_n C dX9_limitAngleAfter_31 0 rfl ?_
    refine rx_aload_n C dX9_limitAngleAfter_32 0 rfl ?_
    refine rx_getf C f_X9_13 dX9_limitAngleAfter_33 b_m.1 rfl ?_
    refine rx_iconst C dX9_limitAngleAfter_36 (1 : Int32) (by decide) ?_
    replace hF := rx_biE hF; obtain ⟨v7, e_v7, hF⟩ := hF
    refine rx_aldF C dX9_limitAngleAfter_37 b_m.2.1 e_v7 ?_
    replace hF := rx_biE hF; obtain ⟨y8, e_y8, hF⟩ := hF
    refine rx_ci (rx_rV C (w_X9_back e_y8 b_m) Y_X9_back V_X9_back m_X9_290 (Or.inl ⟨_, _, _, _, b_m.1, rfl⟩) ⟨⟨rfl, rfl⟩, ⟨(Nat.le_of_ble_eq_true rfl), (Nat.le_of_ble_eq_true rfl)⟩, ⟨(Nat.le_of_ble_eq_true rfl), (Nat.le_of_ble_eq_true rfl)⟩⟩ rfl rfl (Nat.le_of_ble_eq_true rfl) dX9_limitAngleAfter_38) (fun r hh n1 hpp => ?_)
    obtain ⟨rfl, hn, c_m, ff⟩ := hpp
    replace hn : n = n1 := Eq.symm hn
    subst hn
    replace b_m : bM k m y8.2 hh := c_m
    clear c_m
    replace ff : rx_fr [(m, 9)] _ hh := ff
    replace fr := rx_frt fr ff (fun a ha => ⟨ha.1, trivial⟩)
    obtain rfl := Option.some.inj hF
    exact rx_iret C dX9_limitAngleAfter_41 (Nat.le_refl _) (Nat.le_refl _) ⟨rfl, rfl, b_m, fr⟩
  · rw [if_neg c4] at hF
    refine rx_iconst C dX9_limitAngleAfter_20 (0 : Int32) (by decide) ?_
    obtain rfl := Option.some.inj hF
    exact rx_iret C dX9_limitAngleAfter_21 (Nat.le_refl _) (Nat.le_refl _) ⟨rfl, rfl, b_m, fr⟩
def F_X9_crossingObstacle (om : ob) (x1 : Int32) : Option (Int32 × ob) := rx_le (upd om.1 0 ((0 : Int32)), om.2) fun o_m_1 => (F_X9_noOne o_m_1 x1).bind fun y2 => if y2.1 = (0 : Int32) then ((rx_ald 144 (y2.2.2 1) ((0 : Int32))).bind fun v4 => if v4 = (10000 : Int32) then (some ((1 : Int32), y2.2)) else ((F_X9_of y2.2 x1 ((1 : Int32))).bind fun y6 => (rx_ald 144 (y2.2.2 1) ((0 : Int32))).bind fun v7 => if y6 = (v7 - v7 / (2 : Int32) * (2 : Int32)) then ((F_X9_roomNow y2.2).bind fun y9 => if y9 = (0 : Int32) then (some ((3 : Int32), y2.2)) else ((F_X9_isQueued y2.2 x1).bind fun y11 => if y11 = (0 : Int32) then ((F_X9_of y2.2 x1 ((2 : Int32))).bind fun y13 => (F_X9_rankOf y2.2 x1).bind fun y14 => (F_X9_tollWith y2.2 x1 y14).bind fun y15 => if (y15 + (0 : Int32)) ≤ y13 then (some ((0 : Int32), y2.2)) else (some ((4 : Int32), y2.2))) else ((F_X9_of y2.2 x1 ((6 : Int32))).bind fun y17 => rx_le ((y17 - (1 : Int32))) fun v18 => (F_X9_of y2.2 x1 ((2 : Int32))).bind fun y19 => (F_X9_rankOf y2.2 x1).bind fun y20 => (F_X9_tollWith y2.2 x1 y20).bind fun y21 => if (y21 + v18) ≤ y19 then (some ((0 : Int32), y2.2)) else (some ((4 : Int32), y2.2))))) else (some ((2 : Int32), y2.2)))) else (some ((0 : Int32), y2.2))
set_option maxRecDepth 100000 in
set_option maxHeartbeats 4000000 in
theorem w_X9_crossingObstacle {m : Nat} {om : ob} {x1 : Int32} {y : Int32 × ob} (hF : F_X9_crossingObstacle om x1 = some y) (b_m : bM k m om h) : Met l yX9_crossingObstacle (rx_ws yX9_crossingObstacle cX9_crossingObstacle 3 (some .int)) (rx_rm 5 109) (va_Pc [.ref m, .int x1] (rx_G G k h n)) (va_Qi (fun r u => y.1 = r ∧ u.2 = n ∧ bM k m y.2 u.1 ∧ rx_fr [(m, 9)] h u.1) (rx_B G k) (rx_A k)) 0 0 (rx_A k) := by
  refine rx_start [(0, .ref m), (1, .int x1)] rfl (Nat.le_of_ble_eq_true rfl) (by decide) rfl (fun P9 E9 S9 M9 A9 B9 me9 c9 C hname => ?_)
  unfold F_X9_crossingObstacle at hF
  have fr : rx_fr [(m, 9)] h h := rx_fr0
  refine rx_aload_n C dX9_crossingObstacle_0 0 rfl ?_
  refine rx_iconst C dX9_crossingObstacle_1 (0 : Int32) (by decide) ?_
  replace hF := rx_leE hF; obtain ⟨o_m_1, e_o_m_1, hF⟩ := hF
  refine rx_pM0 C f_X9_1 dX9_crossingObstacle_2 b_m e_o_m_1 (fun hh c_m ff => ?_)
  replace b_m := c_m
  replace fr := rx_frt fr ff (fun a ha => ⟨ha.1, trivial⟩)
  refine rx_aload_n C dX9_crossingObstacle_5 0 rfl ?_
  refine rx_iload_n C dX9_crossingObstacle_6 1 rfl ?_
  replace hF := rx_biE hF; obtain ⟨y2, e_y2, hF⟩ := hF
  refine rx_ci (rx_rV C (w_X9_noOne e_y2 b_m) Y_X9_noOne V_X9_noOne m_X9_263 (Or.inl ⟨_, _, _, _, b_m.1, rfl⟩) ⟨⟨rfl, rfl⟩, ⟨(Nat.le_of_ble_eq_true rfl), (Nat.le_of_ble_eq_true rfl)⟩, ⟨(Nat.le_of_ble_eq_true rfl), (Nat.le_of_ble_eq_true rfl)⟩⟩ rfl rfl (Nat.le_of_ble_eq_true rfl) dX9_crossingObstacle_7) (fun r hh n1 hpp => ?_)
  obtain ⟨rfl, bo_y2, hn, c_m, ff⟩ := hpp
  replace hn : n = n1 := Eq.symm hn
  subst hn
  replace b_m : bM k m y2.2 hh := c_m
  clear c_m
  replace ff : rx_fr [(m, 9)] _ hh := ff
  replace fr := rx_frt fr ff (fun a ha => ⟨ha.1, trivial⟩)
  refine rx_if_eq C dX9_crossingObstacle_10 15 (by decide) (fun c3 => ?_) (fun c3 => ?_)
  · rw [if_pos c3] at hF
    refine rx_aload_n C dX9_crossingObstacle_15 0 rfl ?_
    refine rx_getf C f_X9_13 dX9_crossingObstacle_16 b_m.1 rfl ?_
    refine rx_iconst C dX9_crossingObstacle_19 (0 : Int32) (by decide) ?_
    replace hF := rx_biE hF; obtain ⟨v4, e_v4, hF⟩ := hF
    refine rx_aldF C dX9_crossingObstacle_20 b_m.2.1 e_v4 ?_
    refine rx_sipush C dX9_crossingObstacle_21 (10000 : Int32) (by decide) ?_
    refine rx_icmp_ne C dX9_crossingObstacle_24 29 (by decide) (fun c5 => ?_) (fun c5 => ?_)
    · rw [if_neg c5] at hF
      refine rx_aload_n C dX9_crossingObstacle_29 0 rfl ?_
      refine rx_iload_n C dX9_crossingObstacle_30 1 rfl ?_
      refine rx_iconst C dX9_crossingObstacle_31 (1 : Int32) (by decide) ?_
      replace hF := rx_biE hF; obtain ⟨y6, e_y6, hF⟩ := hF
      refine rx_ci (rx_rV C (w_X9_of e_y6 b_m) Y_X9_of V_X9_of m_X9_60 (Or.inl ⟨_, _, _, _, b_m.1, rfl⟩) ⟨⟨rfl, rfl⟩, ⟨(Nat.le_of_ble_eq_true rfl), (Nat.le_of_ble_eq_true rfl)⟩, ⟨(Nat.le_of_ble_eq_true rfl), (Nat.le_of_ble_eq_true rfl)⟩⟩ rfl rfl (Nat.le_of_ble_eq_true rfl) dX9_crossingObstacle_32) (fun r hh n1 hpp => ?_)
      obtain ⟨rfl, hu⟩ := hpp
      cases hu
      refine rx_aload_n C dX9_crossingObstacle_35 0 rfl ?_
      refine rx_getf C f_X9_13 dX9_crossingObstacle_36 b_m.1 rfl ?_
      refine rx_iconst C dX9_crossingObstacle_39 (0 : Int32) (by decide) ?_
      replace hF := rx_biE hF; obtain ⟨v7, e_v7, hF⟩ := hF
      refine rx_aldF C dX9_crossingObstacle_40 b_m.2.1 e_v7 ?_
      refine rx_iconst C dX9_crossingObstacle_41 (2 : Int32) (by decide) ?_
      refine rx_irem C dX9_crossingObstacle_42 (by decide) ?_
      refine rx_icmp_eq C dX9_crossingObstacle_43 48 (by decide) (fun c8 => ?_) (fun c8 => ?_)
      · rw [if_pos c8] at hF
        refine rx_aload_n C dX9_crossingObstacle_48 0 rfl ?_
        replace hF := rx_biE hF; obtain ⟨y9, e_y9, hF⟩ := hF
        refine rx_ci (rx_rV C (w_X9_roomNow e_y9 b_m) Y_X9_roomNow V_X9_roomNow m_X9_281 (Or.inl ⟨_, _, _, _, b_m.1, rfl⟩) ⟨⟨rfl, rfl⟩, ⟨(Nat.le_of_ble_eq_true rfl), (Nat.le_of_ble_eq_true rfl)⟩, ⟨(Nat.le_of_ble_eq_true rfl), (Nat.le_of_ble_eq_true rfl)⟩⟩ rfl rfl (Nat.le_of_ble_eq_true rfl) dX9_crossingObstacle_49) (fun r hh n1 hpp => ?_)
        obtain ⟨rfl, hu⟩ := hpp
        cases hu
        refine rx_if_ne C dX9_crossingObstacle_52 57 (by decide) (fun c10 => ?_) (fun c10 => ?_)
        · rw [if_neg c10] at hF
          refine rx_aload_n C dX9_crossingObstacle_57 0 rfl ?_
          refine rx_iload_n C dX9_crossingObstacle_58 1 rfl ?_
          replace hF := rx_biE hF; obtain ⟨y11, e_y11, hF⟩ := hF
          refine rx_ci (rx_rV C (w_X9_isQueued e_y11 b_m) Y_X9_isQueued V_X9_isQueued m_X9_79 (Or.inl ⟨_, _, _, _, b_m.1, rfl⟩) ⟨⟨rfl, rfl⟩, ⟨(Nat.le_of_ble_eq_true rfl), (Nat.le_of_ble_eq_true rfl)⟩, ⟨(Nat.le_of_ble_eq_true rfl), (Nat.le_of_ble_eq_true rfl)⟩⟩ rfl rfl (Nat.le_of_ble_eq_true rfl) dX9_crossingObstacle_59) (fun r hh n1 hpp => ?_)
          obtain ⟨rfl, bo_y11, hu⟩ := hpp
          cases hu
          refine rx_if_eq C dX9_crossingObstacle_62 77 (by decide) (fun c12 => ?_) (fun c12 => ?_)
          · rw [if_pos c12] at hF
            refine rx_iconst C dX9_crossingObstacle_77 (0 : Int32) (by decide) ?_
            refine rx_istore_n C dX9_crossingObstacle_78 (by decide) [(2, .int ((0 : Int32))), (0, .ref m), (1, .int x1)] rfl ?_
            refine rx_aload_n C dX9_crossingObstacle_79 1 rfl ?_
            refine rx_iload_n C dX9_crossingObstacle_80 2 rfl ?_
            refine rx_iconst C dX9_crossingObstacle_81 (2 : Int32) (by decide) ?_
            replace hF := rx_biE hF; obtain ⟨y13, e_y13, hF⟩ := hF
            refine rx_ci (rx_rV C (w_X9_of e_y13 b_m) Y_X9_of V_X9_of m_X9_60 (Or.inl ⟨_, _, _, _, b_m.1, rfl⟩) ⟨⟨rfl, rfl⟩, ⟨(Nat.le_of_ble_eq_true rfl), (Nat.le_of_ble_eq_true rfl)⟩, ⟨(Nat.le_of_ble_eq_true rfl), (Nat.le_of_ble_eq_true rfl)⟩⟩ rfl rfl (Nat.le_of_ble_eq_true rfl) dX9_crossingObstacle_82) (fun r hh n1 hpp => ?_)
            obtain ⟨rfl, hu⟩ := hpp
            cases hu
            refine rx_aload_n C dX9_crossingObstacle_85 1 rfl ?_
            refine rx_iload_n C dX9_crossingObstacle_86 2 rfl ?_
            refine rx_aload_n C dX9_crossingObstacle_87 1 rfl ?_
            refine rx_iload_n C dX9_crossingObstacle_88 2 rfl ?_
            replace hF := rx_biE hF; obtain ⟨y14, e_y14, hF⟩ := hF
            refine rx_ci (rx_rV C (w_X9_rankOf e_y14 b_m) Y_X9_rankOf V_X9_rankOf m_X9_102 (Or.inl ⟨_, _, _, _, b_m.1, rfl⟩) ⟨⟨rfl, rfl⟩, ⟨(Nat.le_of_ble_eq_true rfl), (Nat.le_of_ble_eq_true rfl)⟩, ⟨(Nat.le_of_ble_eq_true rfl), (Nat.le_of_ble_eq_true rfl)⟩⟩ rfl rfl (Nat.le_of_ble_eq_true rfl) dX9_crossingObstacle_89) (fun r hh n1 hpp => ?_)
            obtain ⟨rfl, hu⟩ := hpp
            cases hu
            replace hF := rx_biE hF; obtain ⟨y15, e_y15, hF⟩ := hF
            refine rx_ci (rx_rV C (w_X9_tollWith e_y15 b_m) Y_X9_tollWith V_X9_tollWith m_X9_269 (Or.inl ⟨_, _, _, _, b_m.1, rfl⟩) ⟨⟨rfl, rfl⟩, ⟨(Nat.le_of_ble_eq_true rfl), (Nat.le_of_ble_eq_true rfl)⟩, ⟨(Nat.le_of_ble_eq_true rfl), (Nat.le_of_ble_eq_true rfl)⟩⟩ rfl rfl (Nat.le_of_ble_eq_true rfl) dX9_crossingObstacle_92) (fun r hh n1 hpp => ?_)
            obtain ⟨rfl, hu⟩ := hpp
            cases hu
            refine rx_iload_n C dX9_crossingObstacle_95 0 rfl ?_
            refine rx_iadd C dX9_crossingObstacle_96 ?_
            refine rx_icmp_ge C dX9_crossingObstacle_97 104 (by decide) (fun c16 => ?_) (fun c16 => ?_)
            · rw [if_pos c16] at hF
              refine rx_iconst C dX9_crossingObstacle_104 (0 : Int32) (by decide) ?_
              obtain rfl := Option.some.inj hF
              exact rx_iret C dX9_crossingObstacle_105 (Nat.le_refl _) (Nat.le_refl _) ⟨rfl, rfl, b_m, fr⟩
            · rw [if_neg c16] at hF
              refine rx_iconst C dX9_crossingObstacle_100 (4 : Int32) (by decide) ?_
              refine rx_goto C dX9_crossingObstacle_101 105 (by decide) ?_
              obtain rfl := Option.some.inj hF
              exact rx_iret C dX9_crossingObstacle_105 (Nat.le_refl _) (Nat.le_refl _) ⟨rfl, rfl, b_m, fr⟩
          · rw [if_neg c12] at hF
            refine rx_aload_n C dX9_crossingObstacle_65 0 rfl ?_
            refine rx_iload_n C dX9_crossingObstacle_66 1 rfl ?_
            refine rx_bipush C dX9_crossingObstacle_67 (6 : Int32) (by decide) ?_
            replace hF := rx_biE hF; obtain ⟨y17, e_y17, hF⟩ := hF
            refine rx_ci (rx_rV C (w_X9_of e_y17 b_m) Y_X9_of V_X9_of m_X9_60 (Or.inl ⟨_, _, _, _, b_m.1, rfl⟩) ⟨⟨rfl, rfl⟩, ⟨(Nat.le_of_ble_eq_true rfl), (Nat.le_of_ble_eq_true rfl)⟩, ⟨(Nat.le_of_ble_eq_true rfl), (Nat.le_of_ble_eq_true rfl)⟩⟩ rfl rfl (Nat.le_of_ble_eq_true rfl) dX9_crossingObstacle_69) (fun r hh n1 hpp => ?_)
            obtain ⟨rfl, hu⟩ := hpp
            cases hu
            refine rx_iconst C dX9_crossingObstacle_72 (1 : Int32) (by decide) ?_
            refine rx_isub C dX9_crossingObstacle_73 ?_
            refine rx_goto C dX9_crossingObstacle_74 78 (by decide) ?_
            replace hF := rx_leE hF; obtain ⟨v18, e_v18, hF⟩ := hF
            rw [e_v18]
            refine rx_istore_n C dX9_crossingObstacle_78 (by decide) [(2, .int v18), (0, .ref m), (1, .int x1)] rfl ?_
            refine rx_aload_n C dX9_crossingObstacle_79 1 rfl ?_
            refine rx_iload_n C dX9_crossingObstacle_80 2 rfl ?_
            refine rx_iconst C dX9_crossingObstacle_81 (2 : Int32) (by decide) ?_
            replace hF := rx_biE hF; obtain ⟨y19, e_y19, hF⟩ := hF
            refine rx_ci (rx_rV C (w_X9_of e_y19 b_m) Y_X9_of V_X9_of m_X9_60 (Or.inl ⟨_, _, _, _, b_m.1, rfl⟩) ⟨⟨rfl, rfl⟩, ⟨(Nat.le_of_ble_eq_true rfl), (Nat.le_of_ble_eq_true rfl)⟩, ⟨(Nat.le_of_ble_eq_true rfl), (Nat.le_of_ble_eq_true rfl)⟩⟩ rfl rfl (Nat.le_of_ble_eq_true rfl) dX9_crossingObstacle_82) (fun r hh n1 hpp => ?_)
            obtain ⟨rfl, hu⟩ := hpp
            cases hu
            refine rx_aload_n C dX9_crossingObstacle_85 1 rfl ?_
            refine rx_iload_n C dX9_crossingObstacle_86 2 rfl ?_
            refine rx_aload_n C dX9_crossingObstacle_87 1 rfl ?_
            refine rx_iload_n C dX9_crossingObstacle_88 2 rfl ?_
            replace hF := rx_biE hF; obtain ⟨y20, e_y20, hF⟩ := hF
            refine rx_ci (rx_rV C (w_X9_rankOf e_y20 b_m) Y_X9_rankOf V_X9_rankOf m_X9_102 (Or.inl ⟨_, _, _, _, b_m.1, rfl⟩) ⟨⟨rfl, rfl⟩, ⟨(Nat.le_of_ble_eq_true rfl), (Nat.le_of_ble_eq_true rfl)⟩, ⟨(Nat.le_of_ble_eq_true rfl), (Nat.le_of_ble_eq_true rfl)⟩⟩ rfl rfl (Nat.le_of_ble_eq_true rfl) dX9_crossingObstacle_89) (fun r hh n1 hpp => ?_)
            obtain ⟨rfl, hu⟩ := hpp
            cases hu
            replace hF := rx_biE hF; obtain ⟨y21, e_y21, hF⟩ := hF
            refine rx_ci (rx_rV C (w_X9_tollWith e_y21 b_m) Y_X9_tollWith V_X9_tollWith m_X9_269 (Or.inl ⟨_, _, _, _, b_m.1, rfl⟩) ⟨⟨rfl, rfl⟩, ⟨(Nat.le_of_ble_eq_true rfl), (Nat.le_of_ble_eq_true rfl)⟩, ⟨(Nat.le_of_ble_eq_true rfl), (Nat.le_of_ble_eq_true rfl)⟩⟩ rfl rfl (Nat.le_of_ble_eq_true rfl) dX9_crossingObstacle_92) (fun r hh n1 hpp => ?_)
            obtain ⟨rfl, hu⟩ := hpp
            cases hu
            refine rx_iload_n C dX9_crossingObstacle_95 0 rfl ?_
            refine rx_iadd C dX9_crossingObstacle_96 ?_
            refine rx_icmp_ge C dX9_crossingObstacle_97 104 (by decide) (fun c22 => ?_) (fun c22 => ?_)
            · rw [if_pos c22] at hF
              refine rx_iconst C dX9_crossingObstacle_104 (0 : Int32) (by decide) ?_
              obtain rfl := Option.some.inj hF
              exact rx_iret C dX9_crossingObstacle_105 (Nat.le_refl _) (Nat.le_refl _) ⟨rfl, rfl, b_m, fr⟩
            · rw [if_neg c22] at hF
              refine rx_iconst C dX9_crossingObstacle_100 (4 : Int32) (by decide) ?_
              refine rx_goto C dX9_crossingObstacle_101 105 (by decide) ?_
              obtain rfl := Option.some.inj hF
              exact rx_iret C dX9_crossingObstacle_105 (Nat.le_refl _) (Nat.le_refl _) ⟨rfl, rfl, b_m, fr⟩
        · rw [if_pos c10] at hF
          refine rx_iconst C dX9_crossingObstacle_55 (3 : Int32) (by decide) ?_
          obtain rfl := Option.some.inj hF
          exact rx_iret C dX9_crossingObstacle_56 (Nat.le_refl _) (Nat.le_refl _) ⟨rfl, rfl, b_m, fr⟩
      · rw [if_neg c8] at hF
        refine rx_iconst C dX9_crossingObstacle_46 (2 : Int32) (by decide) ?_
        obtain rfl := Option.some.inj hF
        exact rx_iret C dX9_crossingObstacle_47 (Nat.le_refl _) (Nat.le_refl _) ⟨rfl, rfl, b_m, fr⟩
    · rw [if_pos c5] at hF
      refine rx_iconst C dX9_crossingObstacle_27 (1 : Int32) (by decide) ?_
      obtain rfl := Option.some.inj hF
      exact rx_iret C dX9_crossingObstacle_28 (Nat.le_refl _) (Nat.le_refl _) ⟨rfl, rfl, b_m, fr⟩
  · rw [if_neg c3] at hF
    refine rx_iconst C dX9_crossingObstacle_13 (0 : Int32) (by decide) ?_
    obtain rfl := Option.some.inj hF
    exact rx_iret C dX9_crossingObstacle_14 (Nat.le_refl _) (Nat.le_refl _) ⟨rfl, rfl, b_m, fr⟩
def F_X9_coinGap_30 : Nat → ob → Int32 → Int32 → Option (Int32 × Int32 × ob)
  | 0, _, _, _ => none
  | fu + 1, om, x1, x2 => (rx_ald 144 (om.2 1) ((8 : Int32))).bind fun v8 => if v8 ≤ x2 then (some (x1, x2, om)) else ((F_X9_of om x2 ((2 : Int32))).bind fun y11 => rx_le ((x1 + y11)) fun v12 => F_X9_coinGap_30  fu om v12 ((x2 + 1)))
def F_X9_coinGap (om : ob) : Option (Int32 × ob) := rx_le (upd om.1 0 ((0 : Int32)), om.2) fun o_m_1 => (rx_ald 144 (o_m_1.2 1) ((5 : Int32))).bind fun v2 => (rx_ald 144 (o_m_1.2 1) ((6 : Int32))).bind fun v3 => (rx_ald 144 (o_m_1.2 1) ((7 : Int32))).bind fun v4 => rx_le (((v2 + v3) + v4)) fun v5 => (F_X9_coinGap_30  100000 o_m_1 v5 ((0 : Int32))).bind fun zl13 => (rx_ald 144 (zl13.2.2.2 1) ((10 : Int32))).bind fun v14 => (F_X9_plain ((zl13.1 - v14))).bind fun y15 => some (y15, zl13.2.2)
set_option maxRecDepth 100000 in
set_option maxHeartbeats 4000000 in
theorem w_X9_coinGap {m : Nat} {om : ob} {y : Int32 × ob} (hF : F_X9_coinGap om = some y) (b_m : bM k m om h) : Met l yX9_coinGap (rx_ws yX9_coinGap cX9_coinGap 3 (some .int)) (rx_rm 1 22) (va_Pc [.ref m] (rx_G G k h n)) (va_Qi (fun r u => y.1 = r ∧ u.2 = n ∧ bM k m y.2 u.1 ∧ rx_fr [(m, 9)] h u.1) (rx_B G k) (rx_A k)) 0 0 (rx_A k) := by
  refine rx_start [(0, .ref m)] rfl (Nat.le_of_ble_eq_true rfl) (by decide) rfl (fun P9 E9 S9 M9 A9 B9 me9 c9 C hname => ?_)
  unfold F_X9_coinGap at hF
  have fr : rx_fr [(m, 9)] h h := rx_fr0
  refine rx_aload_n C dX9_coinGap_0 0 rfl ?_
  refine rx_iconst C dX9_coinGap_1 (0 : Int32) (by decide) ?_
  replace hF := rx_leE hF; obtain ⟨o_m_1, e_o_m_1, hF⟩ := hF
  refine rx_pM0 C f_X9_1 dX9_coinGap_2 b_m e_o_m_1 (fun hh c_m ff => ?_)
  replace b_m := c_m
  replace fr := rx_frt fr ff (fun a ha => ⟨ha.1, trivial⟩)
  refine rx_aload_n C dX9_coinGap_5 0 rfl ?_
  refine rx_getf C f_X9_13 dX9_coinGap_6 b_m.1 rfl ?_
  refine rx_iconst C dX9_coinGap_9 (5 : Int32) (by decide) ?_
  replace hF := rx_biE hF; obtain ⟨v2, e_v2, hF⟩ := hF
  refine rx_aldF C dX9_coinGap_10 b_m.2.1 e_v2 ?_
  refine rx_aload_n C dX9_coinGap_11 0 rfl ?_
  refine rx_getf C f_X9_13 dX9_coinGap_12 b_m.1 rfl ?_
  refine rx_bipush C dX9_coinGap_15 (6 : Int32) (by decide) ?_
  replace hF := rx_biE hF; obtain ⟨v3, e_v3, hF⟩ := hF
  refine rx_aldF C dX9_coinGap_17 b_m.2.1 e_v3 ?_
  refine rx_iadd C dX9_coinGap_18 ?_
  refine rx_aload_n C dX9_coinGap_19 0 rfl ?_
  refine rx_getf C f_X9_13 dX9_coinGap_20 b_m.1 rfl ?_
  refine rx_bipush C dX9_coinGap_23 (7 : Int32) (by decide) ?_
  replace hF := rx_biE hF; obtain ⟨v4, e_v4, hF⟩ := hF
  refine rx_aldF C dX9_coinGap_25 b_m.2.1 e_v4 ?_
  refine rx_iadd C dX9_coinGap_26 ?_
  replace hF := rx_leE hF; obtain ⟨v5, e_v5, hF⟩ := hF
  rw [e_v5]
  refine rx_istore_n C dX9_coinGap_27 (by decide) [(1, .int v5), (0, .ref m)] rfl ?_
  refine rx_iconst C dX9_coinGap_28 (0 : Int32) (by decide) ?_
  refine rx_istore_n C dX9_coinGap_29 (by decide) [(2, .int ((0 : Int32))), (1, .int v5), (0, .ref m)] rfl ?_
  have loop7 : ∀ (fu : Nat) (zz : Int32 × Int32 × ob) (om : ob) (x1 : Int32) (x2 : Int32) (hh : hp), F_X9_coinGap_30  fu om x1 x2 = some zz → bM k m om hh → rx_fr [(m, 9)] h hh → (∀ hh : hp, bM k m zz.2.2 hh → rx_fr [(m, 9)] h hh → rx_W P9 l E9 (rx_rm 1 22) S9 M9 A9 B9 me9 c9 (MQ B9 (va_Qi (fun r u => y.1 = r ∧ u.2 = n ∧ bM k m y.2 u.1 ∧ rx_fr [(m, 9)] h u.1) (rx_B G k) (rx_A k)) A9 S9 0 0 (rx_A k)) G k 3 0 0 hh n 56 [(0, .ref m), (1, .int zz.1), (2, .int zz.2.1)] []) → rx_W P9 l E9 (rx_rm 1 22) S9 M9 A9 B9 me9 c9 (MQ B9 (va_Qi (fun r u => y.1 = r ∧ u.2 = n ∧ bM k m y.2 u.1 ∧ rx_fr [(m, 9)] h u.1) (rx_B G k) (rx_A k)) A9 S9 0 0 (rx_A k)) G k 3 0 0 hh n 30 [(0, .ref m), (1, .int x1), (2, .int x2)] [] := by
    intro fu
    induction fu with
    | zero => intro zz om x1 x2 hh hF b_m fr KK; exact absurd hF (by simp [F_X9_coinGap_30])
    | succ fu ih_loop7 =>
      intro zz om x1 x2 hh hF b_m fr KK
      unfold F_X9_coinGap_30 at hF
      refine rx_iload_n C dX9_coinGap_30 2 rfl ?_
      refine rx_aload_n C dX9_coinGap_31 0 rfl ?_
      refine rx_getf C f_X9_13 dX9_coinGap_32 b_m.1 rfl ?_
      refine rx_bipush C dX9_coinGap_35 (8 : Int32) (by decide) ?_
      replace hF := rx_biE hF; obtain ⟨v8, e_v8, hF⟩ := hF
      refine rx_aldF C dX9_coinGap_37 b_m.2.1 e_v8 ?_
      refine rx_icmp_ge C dX9_coinGap_38 56 (by decide) (fun c10 => ?_) (fun c10 => ?_)
      · rw [if_pos c10] at hF
        obtain rfl := Option.some.inj hF
        refine rx_sub [0, 1, 2] rfl ?_
        exact KK _ b_m fr
      · rw [if_neg c10] at hF
        refine rx_iload_n C dX9_coinGap_41 1 rfl ?_
        refine rx_aload_n C dX9_coinGap_42 0 rfl ?_
        refine rx_iload_n C dX9_coinGap_43 2 rfl ?_
        refine rx_iconst C dX9_coinGap_44 (2 : Int32) (by decide) ?_
        replace hF := rx_biE hF; obtain ⟨y11, e_y11, hF⟩ := hF
        refine rx_ci (rx_rV C (w_X9_of e_y11 b_m) Y_X9_of V_X9_of m_X9_60 (Or.inl ⟨_, _, _, _, b_m.1, rfl⟩) ⟨⟨rfl, rfl⟩, ⟨(Nat.le_of_ble_eq_true rfl), (Nat.le_of_ble_eq_true rfl)⟩, ⟨(Nat.le_of_ble_eq_true rfl), (Nat.le_of_ble_eq_true rfl)⟩⟩ rfl rfl (Nat.le_of_ble_eq_true rfl) dX9_coinGap_45) (fun r hh n1 hpp => ?_)
        obtain ⟨rfl, hu⟩ := hpp
        cases hu
        refine rx_iadd C dX9_coinGap_48 ?_
        replace hF := rx_leE hF; obtain ⟨v12, e_v12, hF⟩ := hF
        rw [e_v12]
        refine rx_istore_n C dX9_coinGap_49 (by decide) [(1, .int v12), (0, .ref m), (2, .int x2)] rfl ?_
        refine rx_iinc C dX9_coinGap_50 2 rfl (x2 + 1) rfl (by decide) [(2, .int ((x2 + 1))), (1, .int v12), (0, .ref m)] rfl ?_
        refine rx_goto C dX9_coinGap_53 30 (by decide) ?_
        refine rx_sub [2, 1, 0] rfl ?_
        exact ih_loop7 _ _ _ _ _ hF b_m fr KK
  refine rx_sub [2, 1, 0] rfl ?_
  replace hF := rx_biE hF; obtain ⟨zl13, e_zl13, hF⟩ := hF
  refine loop7 _ zl13 _ _ _ _ e_zl13 b_m fr (fun hh b_m fr => ?_)
  refine rx_iload_n C dX9_coinGap_56 1 rfl ?_
  refine rx_aload_n C dX9_coinGap_57 0 rfl ?_
  refine rx_getf C f_X9_13 dX9_coinGap_58 b_m.1 rfl ?_
  refine rx_bipush C dX9_coinGap_61 (10 : Int32) (by decide) ?_
  replace hF := rx_biE hF; obtain ⟨v14, e_v14, hF⟩ := hF
  refine rx_aldF C dX9_coinGap_63 b_m.2.1 e_v14 ?_
  refine rx_isub C dX9_coinGap_64 ?_
  replace hF := rx_biE hF; obtain ⟨y15, e_y15, hF⟩ := hF
  refine rx_ci (rx_rS C (w_X9_plain e_y15 ) Y_X9_plain S_X9_plain m_X9_296 ⟨⟨rfl, rfl⟩, ⟨(Nat.le_of_ble_eq_true rfl), (Nat.le_of_ble_eq_true rfl)⟩, ⟨(Nat.le_of_ble_eq_true rfl), (Nat.le_of_ble_eq_true rfl)⟩⟩ rfl rfl (Nat.le_of_ble_eq_true rfl) dX9_coinGap_65) (fun r hh n1 hpp => ?_)
  obtain ⟨rfl, hu⟩ := hpp
  cases hu
  obtain rfl := Option.some.inj hF
  exact rx_iret C dX9_coinGap_68 (Nat.le_refl _) (Nat.le_refl _) ⟨rfl, rfl, b_m, fr⟩
def F_X9_keeps (om : ob) : Option (ob) := (if (om.1 6) = (8 : Int32) then ((F_X9_copies_5_5 om ((144 : Int32)) ((0 : Int32)) ((1008 : Int32))).bind fun y6 => rx_le (upd y6.1 6 (((y6.1 6) - (1 : Int32))), y6.2) fun o_m_7 => some o_m_7) else (some om)).bind fun zj1 => (F_X9_copies_1_5 zj1 ((0 : Int32)) (((144 : Int32) * (zj1.1 6))) ((144 : Int32))).bind fun y3 => rx_le (upd y3.1 6 (((y3.1 6) + (1 : Int32))), y3.2) fun o_m_4 => some o_m_4
set_option maxRecDepth 100000 in
set_option maxHeartbeats 4000000 in
theorem w_X9_keeps {m : Nat} {om : ob} {y : ob} (hF : F_X9_keeps om = some y) (b_m : bM k m om h) : Met l yX9_keeps (rx_ws yX9_keeps cX9_keeps 1 none) (rx_rm 1 25) (va_Pc [.ref m] (rx_G G k h n)) (va_Qv (fun u => u.2 = n ∧ bM k m y u.1 ∧ rx_fr [(m, 9)] h u.1) (rx_B G k) (rx_A k)) 0 0 (rx_A k) := by
  refine rx_start [(0, .ref m)] rfl (Nat.le_of_ble_eq_true rfl) (by decide) rfl (fun P9 E9 S9 M9 A9 B9 me9 c9 C hname => ?_)
  unfold F_X9_keeps at hF
  have fr : rx_fr [(m, 9)] h h := rx_fr0
  refine rx_aload_n C dX9_keeps_0 0 rfl ?_
  refine rx_getf C f_X9_253 dX9_keeps_1 b_m.1 rfl ?_
  refine rx_bipush C dX9_keeps_4 (8 : Int32) (by decide) ?_
  replace hF := rx_biE hF; obtain ⟨zj1, e_zj1, hF⟩ := hF
  have KJ2 : ∀ hh : hp, bM k m zj1 hh → rx_fr [(m, 9)] h hh → rx_W P9 l E9 (rx_rm 1 25) S9 M9 A9 B9 me9 c9 (MQ B9 (va_Qv (fun u => u.2 = n ∧ bM k m y u.1 ∧ rx_fr [(m, 9)] h u.1) (rx_B G k) (rx_A k)) A9 S9 0 0 (rx_A k)) G k 1 0 0 hh n 37 [(0, .ref m)] [] := by
    intro hh b_m fr
    refine rx_aload_n C dX9_keeps_37 0 rfl ?_
    refine rx_getf C f_X9_13 dX9_keeps_38 b_m.1 rfl ?_
    refine rx_iconst C dX9_keeps_41 (0 : Int32) (by decide) ?_
    refine rx_aload_n C dX9_keeps_42 0 rfl ?_
    refine rx_getf C f_X9_26 dX9_keeps_43 b_m.1 rfl ?_
    refine rx_sipush C dX9_keeps_46 (144 : Int32) (by decide) ?_
    refine rx_aload_n C dX9_keeps_49 0 rfl ?_
    refine rx_getf C f_X9_253 dX9_keeps_50 b_m.1 rfl ?_
    refine rx_imul C dX9_keeps_53 ?_
    refine rx_sipush C dX9_keeps_54 (144 : Int32) (by decide) ?_
    replace hF := rx_biE hF; obtain ⟨y3, e_y3, hF⟩ := hF
    refine rx_cv (rx_rS C (w_X9_copies_1_5 e_y3 b_m) Y_X9_copies S_X9_copies m_X9_243 ⟨⟨rfl, rfl⟩, ⟨(Nat.le_of_ble_eq_true rfl), (Nat.le_of_ble_eq_true rfl)⟩, ⟨(Nat.le_of_ble_eq_true rfl), (Nat.le_of_ble_eq_true rfl)⟩⟩ rfl rfl (Nat.le_of_ble_eq_true rfl) dX9_keeps_57) (fun hh n1 hpp => ?_)
    obtain ⟨hn, c_m, ff⟩ := hpp
    replace hn : n = n1 := Eq.symm hn
    subst hn
    replace b_m : bM k m y3 hh := c_m
    clear c_m
    replace ff : rx_fr [(m, 9)] _ hh := ff
    replace fr := rx_frt fr ff (fun a ha => ⟨ha.1, trivial⟩)
    refine rx_aload_n C dX9_keeps_60 0 rfl ?_
    refine rx_dup C dX9_keeps_61 rfl ?_
    refine rx_getf C f_X9_253 dX9_keeps_62 b_m.1 rfl ?_
    refine rx_iconst C dX9_keeps_65 (1 : Int32) (by decide) ?_
    refine rx_iadd C dX9_keeps_66 ?_
    replace hF := rx_leE hF; obtain ⟨o_m_4, e_o_m_4, hF⟩ := hF
    refine rx_pM6 C f_X9_253 dX9_keeps_67 b_m e_o_m_4 (fun hh c_m ff => ?_)
    replace b_m := c_m
    replace fr := rx_frt fr ff (fun a ha => ⟨ha.1, trivial⟩)
    obtain rfl := Option.some.inj hF
    exact rx_vret C dX9_keeps_70 (Nat.le_refl _) (Nat.le_refl _) ⟨rfl, b_m, fr⟩
  replace hF := e_zj1
  clear e_zj1
  refine rx_icmp_ne C dX9_keeps_6 37 (by decide) (fun c5 => ?_) (fun c5 => ?_)
  · rw [if_neg c5] at hF
    obtain rfl := Option.some.inj hF
    refine rx_sub [0] rfl ?_
    exact KJ2 _ b_m fr
  · rw [if_pos c5] at hF
    refine rx_aload_n C dX9_keeps_9 0 rfl ?_
    refine rx_getf C f_X9_26 dX9_keeps_10 b_m.1 rfl ?_
    refine rx_sipush C dX9_keeps_13 (144 : Int32) (by decide) ?_
    refine rx_aload_n C dX9_keeps_16 0 rfl ?_
    refine rx_getf C f_X9_26 dX9_keeps_17 b_m.1 rfl ?_
    refine rx_iconst C dX9_keeps_20 (0 : Int32) (by decide) ?_
    refine rx_sipush C dX9_keeps_21 (1008 : Int32) (by decide) ?_
    replace hF := rx_biE hF; obtain ⟨y6, e_y6, hF⟩ := hF
    refine rx_cv (rx_rS C (w_X9_copies_5_5 e_y6 b_m) Y_X9_copies S_X9_copies m_X9_243 ⟨⟨rfl, rfl⟩, ⟨(Nat.le_of_ble_eq_true rfl), (Nat.le_of_ble_eq_true rfl)⟩, ⟨(Nat.le_of_ble_eq_true rfl), (Nat.le_of_ble_eq_true rfl)⟩⟩ rfl rfl (Nat.le_of_ble_eq_true rfl) dX9_keeps_24) (fun hh n1 hpp => ?_)
    obtain ⟨hn, c_m, ff⟩ := hpp
    replace hn : n = n1 := Eq.symm hn
    subst hn
    replace b_m : bM k m y6 hh := c_m
    clear c_m
    replace ff : rx_fr [(m, 9)] _ hh := ff
    replace fr := rx_frt fr ff (fun a ha => ⟨ha.1, trivial⟩)
    refine rx_aload_n C dX9_keeps_27 0 rfl ?_
    refine rx_dup C dX9_keeps_28 rfl ?_
    refine rx_getf C f_X9_253 dX9_keeps_29 b_m.1 rfl ?_
    refine rx_iconst C dX9_keeps_32 (1 : Int32) (by decide) ?_
    refine rx_isub C dX9_keeps_33 ?_
    replace hF := rx_leE hF; obtain ⟨o_m_7, e_o_m_7, hF⟩ := hF
    refine rx_pM6 C f_X9_253 dX9_keeps_34 b_m e_o_m_7 (fun hh c_m ff => ?_)
    replace b_m := c_m
    replace fr := rx_frt fr ff (fun a ha => ⟨ha.1, trivial⟩)
    obtain rfl := Option.some.inj hF
    refine rx_sub [0] rfl ?_
    exact KJ2 _ b_m fr
def F_X9_operates (om : ob) (x1 : Int32) (x2 : Int32) (x3 : Int32) (x4 : Int32) : Option (Int32 × ob) := (F_X9_can om x1 x2 x3).bind fun y1 => (F_X9_fails om y1 x4).bind fun y2 => if y2.1 = (0 : Int32) then ((F_X9_keeps y2.2).bind fun y4 => (F_X9_does y4 x1 x2 x3).bind fun y5 => some (y5.1, y5.2)) else (some ((0 : Int32), y2.2))
set_option maxRecDepth 100000 in
set_option maxHeartbeats 4000000 in
theorem w_X9_operates {m : Nat} {om : ob} {x1 : Int32} {x2 : Int32} {x3 : Int32} {x4 : Int32} {y : Int32 × ob} (hF : F_X9_operates om x1 x2 x3 x4 = some y) (b_m : bM k m om h) : Met l yX9_operates (rx_ws yX9_operates cX9_operates 5 (some .int)) (rx_rm 8 183) (va_Pc [.ref m, .int x1, .int x2, .int x3, .int x4] (rx_G G k h n)) (va_Qi (fun r u => y.1 = r ∧ u.2 = n ∧ bM k m y.2 u.1 ∧ rx_fr [(m, 9)] h u.1) (rx_B G k) (rx_A k)) 0 0 (rx_A k) := by
  refine rx_start [(0, .ref m), (1, .int x1), (2, .int x2), (3, .int x3), (4, .int x4)] rfl (Nat.le_of_ble_eq_true rfl) (by decide) rfl (fun P9 E9 S9 M9 A9 B9 me9 c9 C hname => ?_)
  unfold F_X9_operates at hF
  have fr : rx_fr [(m, 9)] h h := rx_fr0
  refine rx_aload_n C dX9_operates_0 0 rfl ?_
  refine rx_aload_n C dX9_operates_1 0 rfl ?_
  refine rx_iload_n C dX9_operates_2 1 rfl ?_
  refine rx_iload_n C dX9_operates_3 2 rfl ?_
  refine rx_iload_n C dX9_operates_4 3 rfl ?_
  replace hF := rx_biE hF; obtain ⟨y1, e_y1, hF⟩ := hF
  refine rx_ci (rx_rV C (w_X9_can e_y1 b_m) Y_X9_can V_X9_can m_X9_299 (Or.inl ⟨_, _, _, _, b_m.1, rfl⟩) ⟨⟨rfl, rfl⟩, ⟨(Nat.le_of_ble_eq_true rfl), (Nat.le_of_ble_eq_true rfl)⟩, ⟨(Nat.le_of_ble_eq_true rfl), (Nat.le_of_ble_eq_true rfl)⟩⟩ rfl rfl (Nat.le_of_ble_eq_true rfl) dX9_operates_5) (fun r hh n1 hpp => ?_)
  obtain ⟨rfl, bo_y1, hu⟩ := hpp
  cases hu
  refine rx_iload C dX9_operates_8 4 rfl ?_
  replace hF := rx_biE hF; obtain ⟨y2, e_y2, hF⟩ := hF
  refine rx_ci (rx_rV C (w_X9_fails e_y2 b_m) Y_X9_fails V_X9_fails m_X9_239 (Or.inl ⟨_, _, _, _, b_m.1, rfl⟩) ⟨⟨rfl, rfl⟩, ⟨(Nat.le_of_ble_eq_true rfl), (Nat.le_of_ble_eq_true rfl)⟩, ⟨(Nat.le_of_ble_eq_true rfl), (Nat.le_of_ble_eq_true rfl)⟩⟩ rfl rfl (Nat.le_of_ble_eq_true rfl) dX9_operates_10) (fun r hh n1 hpp => ?_)
  obtain ⟨rfl, bo_y2, hn, c_m, ff⟩ := hpp
  replace hn : n = n1 := Eq.symm hn
  subst hn
  replace b_m : bM k m y2.2 hh := c_m
  clear c_m
  replace ff : rx_fr [(m, 9)] _ hh := ff
  replace fr := rx_frt fr ff (fun a ha => ⟨ha.1, trivial⟩)
  refine rx_if_eq C dX9_operates_13 18 (by decide) (fun c3 => ?_) (fun c3 => ?_)
  · rw [if_pos c3] at hF
    refine rx_aload_n C dX9_operates_18 0 rfl ?_
    replace hF := rx_biE hF; obtain ⟨y4, e_y4, hF⟩ := hF
    refine rx_cv (rx_rV C (w_X9_keeps e_y4 b_m) Y_X9_keeps V_X9_keeps m_X9_302 (Or.inl ⟨_, _, _, _, b_m.1, rfl⟩) ⟨⟨rfl, rfl⟩, ⟨(Nat.le_of_ble_eq_true rfl), (Nat.le_of_ble_eq_true rfl)⟩, ⟨(Nat.le_of_ble_eq_true rfl), (Nat.le_of_ble_eq_true rfl)⟩⟩ rfl rfl (Nat.le_of_ble_eq_true rfl) dX9_operates_19) (fun hh n1 hpp => ?_)
    obtain ⟨hn, c_m, ff⟩ := hpp
    replace hn : n = n1 := Eq.symm hn
    subst hn
    replace b_m : bM k m y4 hh := c_m
    clear c_m
    replace ff : rx_fr [(m, 9)] _ hh := ff
    replace fr := rx_frt fr ff (fun a ha => ⟨ha.1, trivial⟩)
    refine rx_aload_n C dX9_operates_22 0 rfl ?_
    refine rx_iload_n C dX9_operates_23 1 rfl ?_
    refine rx_iload_n C dX9_operates_24 2 rfl ?_
    refine rx_iload_n C dX9_operates_25 3 rfl ?_
    replace hF := rx_biE hF; obtain ⟨y5, e_y5, hF⟩ := hF
    refine rx_ci (rx_rV C (w_X9_does e_y5 b_m) Y_X9_does V_X9_does m_X9_305 (Or.inl ⟨_, _, _, _, b_m.1, rfl⟩) ⟨⟨rfl, rfl⟩, ⟨(Nat.le_of_ble_eq_true rfl), (Nat.le_of_ble_eq_true rfl)⟩, ⟨(Nat.le_of_ble_eq_true rfl), (Nat.le_of_ble_eq_true rfl)⟩⟩ rfl rfl (Nat.le_of_ble_eq_true rfl) dX9_operates_26) (fun r hh n1 hpp => ?_)
    obtain ⟨rfl, hn, c_m, ff⟩ := hpp
    replace hn : n = n1 := Eq.symm hn
    subst hn
    replace b_m : bM k m y5.2 hh := c_m
    clear c_m
    replace ff : rx_fr [(m, 9)] _ hh := ff
    replace fr := rx_frt fr ff (fun a ha => ⟨ha.1, trivial⟩)
    obtain rfl := Option.some.inj hF
    exact rx_iret C dX9_operates_29 (Nat.le_refl _) (Nat.le_refl _) ⟨rfl, rfl, b_m, fr⟩
  · rw [if_neg c3] at hF
    refine rx_iconst C dX9_operates_16 (0 : Int32) (by decide) ?_
    obtain rfl := Option.some.inj hF
    exact rx_iret C dX9_operates_17 (Nat.le_refl _) (Nat.le_refl _) ⟨rfl, rfl, b_m, fr⟩
def F_X9_withCoins (om : ob) (x1 : Int32) (x2 : Int32) (x3 : Int32) : Option (Int32 × ob) := rx_le (upd om.1 0 ((0 : Int32)), om.2) fun o_m_1 => (F_X9_noOne o_m_1 x2).bind fun y2 => if y2.1 = (0 : Int32) then ((F_X9_in x3 ((1 : Int32)) ((999 : Int32))).bind fun y4 => (F_X9_fails y2.2 y4 ((2 : Int32))).bind fun y5 => if y5.1 = (0 : Int32) then ((F_X9_operates y5.2 x1 x2 x3 ((3 : Int32))).bind fun y7 => some (y7.1, y7.2)) else (some ((0 : Int32), y5.2))) else (some ((0 : Int32), y2.2))
set_option maxRecDepth 100000 in
set_option maxHeartbeats 4000000 in
theorem w_X9_withCoins {m : Nat} {om : ob} {x1 : Int32} {x2 : Int32} {x3 : Int32} {y : Int32 × ob} (hF : F_X9_withCoins om x1 x2 x3 = some y) (b_m : bM k m om h) : Met l yX9_withCoins (rx_ws yX9_withCoins cX9_withCoins 4 (some .int)) (rx_rm 9 207) (va_Pc [.ref m, .int x1, .int x2, .int x3] (rx_G G k h n)) (va_Qi (fun r u => y.1 = r ∧ u.2 = n ∧ bM k m y.2 u.1 ∧ rx_fr [(m, 9)] h u.1) (rx_B G k) (rx_A k)) 0 0 (rx_A k) := by
  refine rx_start [(0, .ref m), (1, .int x1), (2, .int x2), (3, .int x3)] rfl (Nat.le_of_ble_eq_true rfl) (by decide) rfl (fun P9 E9 S9 M9 A9 B9 me9 c9 C hname => ?_)
  unfold F_X9_withCoins at hF
  have fr : rx_fr [(m, 9)] h h := rx_fr0
  refine rx_aload_n C dX9_withCoins_0 0 rfl ?_
  refine rx_iconst C dX9_withCoins_1 (0 : Int32) (by decide) ?_
  replace hF := rx_leE hF; obtain ⟨o_m_1, e_o_m_1, hF⟩ := hF
  refine rx_pM0 C f_X9_1 dX9_withCoins_2 b_m e_o_m_1 (fun hh c_m ff => ?_)
  replace b_m := c_m
  replace fr := rx_frt fr ff (fun a ha => ⟨ha.1, trivial⟩)
  refine rx_aload_n C dX9_withCoins_5 0 rfl ?_
  refine rx_iload_n C dX9_withCoins_6 2 rfl ?_
  replace hF := rx_biE hF; obtain ⟨y2, e_y2, hF⟩ := hF
  refine rx_ci (rx_rV C (w_X9_noOne e_y2 b_m) Y_X9_noOne V_X9_noOne m_X9_263 (Or.inl ⟨_, _, _, _, b_m.1, rfl⟩) ⟨⟨rfl, rfl⟩, ⟨(Nat.le_of_ble_eq_true rfl), (Nat.le_of_ble_eq_true rfl)⟩, ⟨(Nat.le_of_ble_eq_true rfl), (Nat.le_of_ble_eq_true rfl)⟩⟩ rfl rfl (Nat.le_of_ble_eq_true rfl) dX9_withCoins_7) (fun r hh n1 hpp => ?_)
  obtain ⟨rfl, bo_y2, hn, c_m, ff⟩ := hpp
  replace hn : n = n1 := Eq.symm hn
  subst hn
  replace b_m : bM k m y2.2 hh := c_m
  clear c_m
  replace ff : rx_fr [(m, 9)] _ hh := ff
  replace fr := rx_frt fr ff (fun a ha => ⟨ha.1, trivial⟩)
  refine rx_if_ne C dX9_withCoins_10 29 (by decide) (fun c3 => ?_) (fun c3 => ?_)
  · rw [if_neg c3] at hF
    refine rx_iconst C dX9_withCoins_29 (0 : Int32) (by decide) ?_
    refine rx_goto C dX9_withCoins_30 41 (by decide) ?_
    obtain rfl := Option.some.inj hF
    exact rx_iret C dX9_withCoins_41 (Nat.le_refl _) (Nat.le_refl _) ⟨rfl, rfl, b_m, fr⟩
  · rw [if_pos c3] at hF
    refine rx_aload_n C dX9_withCoins_13 0 rfl ?_
    refine rx_iload_n C dX9_withCoins_14 3 rfl ?_
    refine rx_iconst C dX9_withCoins_15 (1 : Int32) (by decide) ?_
    refine rx_sipush C dX9_withCoins_16 (999 : Int32) (by decide) ?_
    replace hF := rx_biE hF; obtain ⟨y4, e_y4, hF⟩ := hF
    refine rx_ci (rx_rS C (w_X9_in e_y4 ) Y_X9_in S_X9_in m_X9_200 ⟨⟨rfl, rfl⟩, ⟨(Nat.le_of_ble_eq_true rfl), (Nat.le_of_ble_eq_true rfl)⟩, ⟨(Nat.le_of_ble_eq_true rfl), (Nat.le_of_ble_eq_true rfl)⟩⟩ rfl rfl (Nat.le_of_ble_eq_true rfl) dX9_withCoins_19) (fun r hh n1 hpp => ?_)
    obtain ⟨rfl, bo_y4, hu⟩ := hpp
    cases hu
    refine rx_iconst C dX9_withCoins_22 (2 : Int32) (by decide) ?_
    replace hF := rx_biE hF; obtain ⟨y5, e_y5, hF⟩ := hF
    refine rx_ci (rx_rV C (w_X9_fails e_y5 b_m) Y_X9_fails V_X9_fails m_X9_239 (Or.inl ⟨_, _, _, _, b_m.1, rfl⟩) ⟨⟨rfl, rfl⟩, ⟨(Nat.le_of_ble_eq_true rfl), (Nat.le_of_ble_eq_true rfl)⟩, ⟨(Nat.le_of_ble_eq_true rfl), (Nat.le_of_ble_eq_true rfl)⟩⟩ rfl rfl (Nat.le_of_ble_eq_true rfl) dX9_withCoins_23) (fun r hh n1 hpp => ?_)
    obtain ⟨rfl, bo_y5, hn, c_m, ff⟩ := hpp
    replace hn : n = n1 := Eq.symm hn
    subst hn
    replace b_m : bM k m y5.2 hh := c_m
    clear c_m
    replace ff : rx_fr [(m, 9)] _ hh := ff
    replace fr := rx_frt fr ff (fun a ha => ⟨ha.1, trivial⟩)
    refine rx_if_eq C dX9_withCoins_26 33 (by decide) (fun c6 => ?_) (fun c6 => ?_)
    · rw [if_pos c6] at hF
      refine rx_aload_n C dX9_withCoins_33 0 rfl ?_
      refine rx_iload_n C dX9_withCoins_34 1 rfl ?_
      refine rx_iload_n C dX9_withCoins_35 2 rfl ?_
      refine rx_iload_n C dX9_withCoins_36 3 rfl ?_
      refine rx_iconst C dX9_withCoins_37 (3 : Int32) (by decide) ?_
      replace hF := rx_biE hF; obtain ⟨y7, e_y7, hF⟩ := hF
      refine rx_ci (rx_rV C (w_X9_operates e_y7 b_m) Y_X9_operates V_X9_operates m_X9_309 (Or.inl ⟨_, _, _, _, b_m.1, rfl⟩) ⟨⟨rfl, rfl⟩, ⟨(Nat.le_of_ble_eq_true rfl), (Nat.le_of_ble_eq_true rfl)⟩, ⟨(Nat.le_of_ble_eq_true rfl), (Nat.le_of_ble_eq_true rfl)⟩⟩ rfl rfl (Nat.le_of_ble_eq_true rfl) dX9_withCoins_38) (fun r hh n1 hpp => ?_)
      obtain ⟨rfl, hn, c_m, ff⟩ := hpp
      replace hn : n = n1 := Eq.symm hn
      subst hn
      replace b_m : bM k m y7.2 hh := c_m
      clear c_m
      replace ff : rx_fr [(m, 9)] _ hh := ff
      replace fr := rx_frt fr ff (fun a ha => ⟨ha.1, trivial⟩)
      obtain rfl := Option.some.inj hF
      exact rx_iret C dX9_withCoins_41 (Nat.le_refl _) (Nat.le_refl _) ⟨rfl, rfl, b_m, fr⟩
    · rw [if_neg c6] at hF
      refine rx_iconst C dX9_withCoins_29 (0 : Int32) (by decide) ?_
      refine rx_goto C dX9_withCoins_30 41 (by decide) ?_
      obtain rfl := Option.some.inj hF
      exact rx_iret C dX9_withCoins_41 (Nat.le_refl _) (Nat.le_refl _) ⟨rfl, rfl, b_m, fr⟩
def F_X9_dropCoins (om : ob) (x1 : Int32) (x2 : Int32) : Option (Int32 × ob) := (F_X9_withCoins om ((0 : Int32)) x1 x2).bind fun y1 => some (y1.1, y1.2)
set_option maxRecDepth 100000 in
set_option maxHeartbeats 4000000 in
theorem w_X9_dropCoins {m : Nat} {om : ob} {x1 : Int32} {x2 : Int32} {y : Int32 × ob} (hF : F_X9_dropCoins om x1 x2 = some y) (b_m : bM k m om h) : Met l yX9_dropCoins (rx_ws yX9_dropCoins cX9_dropCoins 3 (some .int)) (rx_rm 10 230) (va_Pc [.ref m, .int x1, .int x2] (rx_G G k h n)) (va_Qi (fun r u => y.1 = r ∧ u.2 = n ∧ bM k m y.2 u.1 ∧ rx_fr [(m, 9)] h u.1) (rx_B G k) (rx_A k)) 0 0 (rx_A k) := by
  refine rx_start [(0, .ref m), (1, .int x1), (2, .int x2)] rfl (Nat.le_of_ble_eq_true rfl) (by decide) rfl (fun P9 E9 S9 M9 A9 B9 me9 c9 C hname => ?_)
  unfold F_X9_dropCoins at hF
  have fr : rx_fr [(m, 9)] h h := rx_fr0
  refine rx_aload_n C dX9_dropCoins_0 0 rfl ?_
  refine rx_iconst C dX9_dropCoins_1 (0 : Int32) (by decide) ?_
  refine rx_iload_n C dX9_dropCoins_2 1 rfl ?_
  refine rx_iload_n C dX9_dropCoins_3 2 rfl ?_
  replace hF := rx_biE hF; obtain ⟨y1, e_y1, hF⟩ := hF
  refine rx_ci (rx_rV C (w_X9_withCoins e_y1 b_m) Y_X9_withCoins V_X9_withCoins m_X9_313 (Or.inl ⟨_, _, _, _, b_m.1, rfl⟩) ⟨⟨rfl, rfl⟩, ⟨(Nat.le_of_ble_eq_true rfl), (Nat.le_of_ble_eq_true rfl)⟩, ⟨(Nat.le_of_ble_eq_true rfl), (Nat.le_of_ble_eq_true rfl)⟩⟩ rfl rfl (Nat.le_of_ble_eq_true rfl) dX9_dropCoins_4) (fun r hh n1 hpp => ?_)
  obtain ⟨rfl, hn, c_m, ff⟩ := hpp
  replace hn : n = n1 := Eq.symm hn
  subst hn
  replace b_m : bM k m y1.2 hh := c_m
  clear c_m
  replace ff : rx_fr [(m, 9)] _ hh := ff
  replace fr := rx_frt fr ff (fun a ha => ⟨ha.1, trivial⟩)
  obtain rfl := Option.some.inj hF
  exact rx_iret C dX9_dropCoins_7 (Nat.le_refl _) (Nat.le_refl _) ⟨rfl, rfl, b_m, fr⟩
def F_X9_pickCoins (om : ob) (x1 : Int32) (x2 : Int32) : Option (Int32 × ob) := (F_X9_withCoins om ((1 : Int32)) x1 x2).bind fun y1 => some (y1.1, y1.2)
set_option maxRecDepth 100000 in
set_option maxHeartbeats 4000000 in
theorem w_X9_pickCoins {m : Nat} {om : ob} {x1 : Int32} {x2 : Int32} {y : Int32 × ob} (hF : F_X9_pickCoins om x1 x2 = some y) (b_m : bM k m om h) : Met l yX9_pickCoins (rx_ws yX9_pickCoins cX9_pickCoins 3 (some .int)) (rx_rm 10 230) (va_Pc [.ref m, .int x1, .int x2] (rx_G G k h n)) (va_Qi (fun r u => y.1 = r ∧ u.2 = n ∧ bM k m y.2 u.1 ∧ rx_fr [(m, 9)] h u.1) (rx_B G k) (rx_A k)) 0 0 (rx_A k) := by
  refine rx_start [(0, .ref m), (1, .int x1), (2, .int x2)] rfl (Nat.le_of_ble_eq_true rfl) (by decide) rfl (fun P9 E9 S9 M9 A9 B9 me9 c9 C hname => ?_)
  unfold F_X9_pickCoins at hF
  have fr : rx_fr [(m, 9)] h h := rx_fr0
  refine rx_aload_n C dX9_pickCoins_0 0 rfl ?_
  refine rx_iconst C dX9_pickCoins_1 (1 : Int32) (by decide) ?_
  refine rx_iload_n C dX9_pickCoins_2 1 rfl ?_
  refine rx_iload_n C dX9_pickCoins_3 2 rfl ?_
  replace hF := rx_biE hF; obtain ⟨y1, e_y1, hF⟩ := hF
  refine rx_ci (rx_rV C (w_X9_withCoins e_y1 b_m) Y_X9_withCoins V_X9_withCoins m_X9_313 (Or.inl ⟨_, _, _, _, b_m.1, rfl⟩) ⟨⟨rfl, rfl⟩, ⟨(Nat.le_of_ble_eq_true rfl), (Nat.le_of_ble_eq_true rfl)⟩, ⟨(Nat.le_of_ble_eq_true rfl), (Nat.le_of_ble_eq_true rfl)⟩⟩ rfl rfl (Nat.le_of_ble_eq_true rfl) dX9_pickCoins_4) (fun r hh n1 hpp => ?_)
  obtain ⟨rfl, hn, c_m, ff⟩ := hpp
  replace hn : n = n1 := Eq.symm hn
  subst hn
  replace b_m : bM k m y1.2 hh := c_m
  clear c_m
  replace ff : rx_fr [(m, 9)] _ hh := ff
  replace fr := rx_frt fr ff (fun a ha => ⟨ha.1, trivial⟩)
  obtain rfl := Option.some.inj hF
  exact rx_iret C dX9_pickCoins_7 (Nat.le_refl _) (Nat.le_refl _) ⟨rfl, rfl, b_m, fr⟩
def F_X9_withRoyal (om : ob) (x1 : Int32) (x2 : Int32) (x3 : Int32) : Option (Int32 × ob) := rx_le (upd om.1 0 ((0 : Int32)), om.2) fun o_m_1 => (F_X9_noOne o_m_1 x2).bind fun y2 => if y2.1 = (0 : Int32) then ((F_X9_noKing y2.2 x3).bind fun y4 => if y4.1 = (0 : Int32) then ((F_X9_operates y4.2 x1 x2 x3 ((3 : Int32))).bind fun y6 => some (y6.1, y6.2)) else (some ((0 : Int32), y4.2))) else (some ((0 : Int32), y2.2))
set_option maxRecDepth 100000 in
set_option maxHeartbeats 4000000 in
theorem w_X9_withRoyal {m : Nat} {om : ob} {x1 : Int32} {x2 : Int32} {x3 : Int32} {y : Int32 × ob} (hF : F_X9_withRoyal om x1 x2 x3 = some y) (b_m : bM k m om h) : Met l yX9_withRoyal (rx_ws yX9_withRoyal cX9_withRoyal 4 (some .int)) (rx_rm 9 207) (va_Pc [.ref m, .int x1, .int x2, .int x3] (rx_G G k h n)) (va_Qi (fun r u => y.1 = r ∧ u.2 = n ∧ bM k m y.2 u.1 ∧ rx_fr [(m, 9)] h u.1) (rx_B G k) (rx_A k)) 0 0 (rx_A k) := by
  refine rx_start [(0, .ref m), (1, .int x1), (2, .int x2), (3, .int x3)] rfl (Nat.le_of_ble_eq_true rfl) (by decide) rfl (fun P9 E9 S9 M9 A9 B9 me9 c9 C hname => ?_)
  unfold F_X9_withRoyal at hF
  have fr : rx_fr [(m, 9)] h h := rx_fr0
  refine rx_aload_n C dX9_withRoyal_0 0 rfl ?_
  refine rx_iconst C dX9_withRoyal_1 (0 : Int32) (by decide) ?_
  replace hF := rx_leE hF; obtain ⟨o_m_1, e_o_m_1, hF⟩ := hF
  refine rx_pM0 C f_X9_1 dX9_withRoyal_2 b_m e_o_m_1 (fun hh c_m ff => ?_)
  replace b_m := c_m
  replace fr := rx_frt fr ff (fun a ha => ⟨ha.1, trivial⟩)
  refine rx_aload_n C dX9_withRoyal_5 0 rfl ?_
  refine rx_iload_n C dX9_withRoyal_6 2 rfl ?_
  replace hF := rx_biE hF; obtain ⟨y2, e_y2, hF⟩ := hF
  refine rx_ci (rx_rV C (w_X9_noOne e_y2 b_m) Y_X9_noOne V_X9_noOne m_X9_263 (Or.inl ⟨_, _, _, _, b_m.1, rfl⟩) ⟨⟨rfl, rfl⟩, ⟨(Nat.le_of_ble_eq_true rfl), (Nat.le_of_ble_eq_true rfl)⟩, ⟨(Nat.le_of_ble_eq_true rfl), (Nat.le_of_ble_eq_true rfl)⟩⟩ rfl rfl (Nat.le_of_ble_eq_true rfl) dX9_withRoyal_7) (fun r hh n1 hpp => ?_)
  obtain ⟨rfl, bo_y2, hn, c_m, ff⟩ := hpp
  replace hn : n = n1 := Eq.symm hn
  subst hn
  replace b_m : bM k m y2.2 hh := c_m
  clear c_m
  replace ff : rx_fr [(m, 9)] _ hh := ff
  replace fr := rx_frt fr ff (fun a ha => ⟨ha.1, trivial⟩)
  refine rx_if_ne C dX9_withRoyal_10 21 (by decide) (fun c3 => ?_) (fun c3 => ?_)
  · rw [if_neg c3] at hF
    refine rx_iconst C dX9_withRoyal_21 (0 : Int32) (by decide) ?_
    refine rx_goto C dX9_withRoyal_22 33 (by decide) ?_
    obtain rfl := Option.some.inj hF
    exact rx_iret C dX9_withRoyal_33 (Nat.le_refl _) (Nat.le_refl _) ⟨rfl, rfl, b_m, fr⟩
  · rw [if_pos c3] at hF
    refine rx_aload_n C dX9_withRoyal_13 0 rfl ?_
    refine rx_iload_n C dX9_withRoyal_14 3 rfl ?_
    replace hF := rx_biE hF; obtain ⟨y4, e_y4, hF⟩ := hF
    refine rx_ci (rx_rV C (w_X9_noKing e_y4 b_m) Y_X9_noKing V_X9_noKing m_X9_272 (Or.inl ⟨_, _, _, _, b_m.1, rfl⟩) ⟨⟨rfl, rfl⟩, ⟨(Nat.le_of_ble_eq_true rfl), (Nat.le_of_ble_eq_true rfl)⟩, ⟨(Nat.le_of_ble_eq_true rfl), (Nat.le_of_ble_eq_true rfl)⟩⟩ rfl rfl (Nat.le_of_ble_eq_true rfl) dX9_withRoyal_15) (fun r hh n1 hpp => ?_)
    obtain ⟨rfl, bo_y4, hn, c_m, ff⟩ := hpp
    replace hn : n = n1 := Eq.symm hn
    subst hn
    replace b_m : bM k m y4.2 hh := c_m
    clear c_m
    replace ff : rx_fr [(m, 9)] _ hh := ff
    replace fr := rx_frt fr ff (fun a ha => ⟨ha.1, trivial⟩)
    refine rx_if_eq C dX9_withRoyal_18 25 (by decide) (fun c5 => ?_) (fun c5 => ?_)
    · rw [if_pos c5] at hF
      refine rx_aload_n C dX9_withRoyal_25 0 rfl ?_
      refine rx_iload_n C dX9_withRoyal_26 1 rfl ?_
      refine rx_iload_n C dX9_withRoyal_27 2 rfl ?_
      refine rx_iload_n C dX9_withRoyal_28 3 rfl ?_
      refine rx_iconst C dX9_withRoyal_29 (3 : Int32) (by decide) ?_
      replace hF := rx_biE hF; obtain ⟨y6, e_y6, hF⟩ := hF
      refine rx_ci (rx_rV C (w_X9_operates e_y6 b_m) Y_X9_operates V_X9_operates m_X9_309 (Or.inl ⟨_, _, _, _, b_m.1, rfl⟩) ⟨⟨rfl, rfl⟩, ⟨(Nat.le_of_ble_eq_true rfl), (Nat.le_of_ble_eq_true rfl)⟩, ⟨(Nat.le_of_ble_eq_true rfl), (Nat.le_of_ble_eq_true rfl)⟩⟩ rfl rfl (Nat.le_of_ble_eq_true rfl) dX9_withRoyal_30) (fun r hh n1 hpp => ?_)
      obtain ⟨rfl, hn, c_m, ff⟩ := hpp
      replace hn : n = n1 := Eq.symm hn
      subst hn
      replace b_m : bM k m y6.2 hh := c_m
      clear c_m
      replace ff : rx_fr [(m, 9)] _ hh := ff
      replace fr := rx_frt fr ff (fun a ha => ⟨ha.1, trivial⟩)
      obtain rfl := Option.some.inj hF
      exact rx_iret C dX9_withRoyal_33 (Nat.le_refl _) (Nat.le_refl _) ⟨rfl, rfl, b_m, fr⟩
    · rw [if_neg c5] at hF
      refine rx_iconst C dX9_withRoyal_21 (0 : Int32) (by decide) ?_
      refine rx_goto C dX9_withRoyal_22 33 (by decide) ?_
      obtain rfl := Option.some.inj hF
      exact rx_iret C dX9_withRoyal_33 (Nat.le_refl _) (Nat.le_refl _) ⟨rfl, rfl, b_m, fr⟩
def F_X9_layRoyalCoin (om : ob) (x1 : Int32) (x2 : Int32) : Option (Int32 × ob) := (F_X9_withRoyal om ((2 : Int32)) x1 x2).bind fun y1 => some (y1.1, y1.2)
set_option maxRecDepth 100000 in
set_option maxHeartbeats 4000000 in
theorem w_X9_layRoyalCoin {m : Nat} {om : ob} {x1 : Int32} {x2 : Int32} {y : Int32 × ob} (hF : F_X9_layRoyalCoin om x1 x2 = some y) (b_m : bM k m om h) : Met l yX9_layRoyalCoin (rx_ws yX9_layRoyalCoin cX9_layRoyalCoin 3 (some .int)) (rx_rm 10 230) (va_Pc [.ref m, .int x1, .int x2] (rx_G G k h n)) (va_Qi (fun r u => y.1 = r ∧ u.2 = n ∧ bM k m y.2 u.1 ∧ rx_fr [(m, 9)] h u.1) (rx_B G k) (rx_A k)) 0 0 (rx_A k) := by
  refine rx_start [(0, .ref m), (1, .int x1), (2, .int x2)] rfl (Nat.le_of_ble_eq_true rfl) (by decide) rfl (fun P9 E9 S9 M9 A9 B9 me9 c9 C hname => ?_)
  unfold F_X9_layRoyalCoin at hF
  have fr : rx_fr [(m, 9)] h h := rx_fr0
  refine rx_aload_n C dX9_layRoyalCoin_0 0 rfl ?_
  refine rx_iconst C dX9_layRoyalCoin_1 (2 : Int32) (by decide) ?_
  refine rx_iload_n C dX9_layRoyalCoin_2 1 rfl ?_
  refine rx_iload_n C dX9_layRoyalCoin_3 2 rfl ?_
  replace hF := rx_biE hF; obtain ⟨y1, e_y1, hF⟩ := hF
  refine rx_ci (rx_rV C (w_X9_withRoyal e_y1 b_m) Y_X9_withRoyal V_X9_withRoyal m_X9_316 (Or.inl ⟨_, _, _, _, b_m.1, rfl⟩) ⟨⟨rfl, rfl⟩, ⟨(Nat.le_of_ble_eq_true rfl), (Nat.le_of_ble_eq_true rfl)⟩, ⟨(Nat.le_of_ble_eq_true rfl), (Nat.le_of_ble_eq_true rfl)⟩⟩ rfl rfl (Nat.le_of_ble_eq_true rfl) dX9_layRoyalCoin_4) (fun r hh n1 hpp => ?_)
  obtain ⟨rfl, hn, c_m, ff⟩ := hpp
  replace hn : n = n1 := Eq.symm hn
  subst hn
  replace b_m : bM k m y1.2 hh := c_m
  clear c_m
  replace ff : rx_fr [(m, 9)] _ hh := ff
  replace fr := rx_frt fr ff (fun a ha => ⟨ha.1, trivial⟩)
  obtain rfl := Option.some.inj hF
  exact rx_iret C dX9_layRoyalCoin_7 (Nat.le_refl _) (Nat.le_refl _) ⟨rfl, rfl, b_m, fr⟩
def F_X9_liftRoyalCoin (om : ob) (x1 : Int32) (x2 : Int32) : Option (Int32 × ob) := (F_X9_withRoyal om ((3 : Int32)) x1 x2).bind fun y1 => some (y1.1, y1.2)
set_option maxRecDepth 100000 in
set_option maxHeartbeats 4000000 in
theorem w_X9_liftRoyalCoin {m : Nat} {om : ob} {x1 : Int32} {x2 : Int32} {y : Int32 × ob} (hF : F_X9_liftRoyalCoin om x1 x2 = some y) (b_m : bM k m om h) : Met l yX9_liftRoyalCoin (rx_ws yX9_liftRoyalCoin cX9_liftRoyalCoin 3 (some .int)) (rx_rm 10 230) (va_Pc [.ref m, .int x1, .int x2] (rx_G G k h n)) (va_Qi (fun r u => y.1 = r ∧ u.2 = n ∧ bM k m y.2 u.1 ∧ rx_fr [(m, 9)] h u.1) (rx_B G k) (rx_A k)) 0 0 (rx_A k) := by
  refine rx_start [(0, .ref m), (1, .int x1), (2, .int x2)] rfl (Nat.le_of_ble_eq_true rfl) (by decide) rfl (fun P9 E9 S9 M9 A9 B9 me9 c9 C hname => ?_)
  unfold F_X9_liftRoyalCoin at hF
  have fr : rx_fr [(m, 9)] h h := rx_fr0
  refine rx_aload_n C dX9_liftRoyalCoin_0 0 rfl ?_
  refine rx_iconst C dX9_liftRoyalCoin_1 (3 : Int32) (by decide) ?_
  refine rx_iload_n C dX9_liftRoyalCoin_2 1 rfl ?_
  refine rx_iload_n C dX9_liftRoyalCoin_3 2 rfl ?_
  replace hF := rx_biE hF; obtain ⟨y1, e_y1, hF⟩ := hF
  refine rx_ci (rx_rV C (w_X9_withRoyal e_y1 b_m) Y_X9_withRoyal V_X9_withRoyal m_X9_316 (Or.inl ⟨_, _, _, _, b_m.1, rfl⟩) ⟨⟨rfl, rfl⟩, ⟨(Nat.le_of_ble_eq_true rfl), (Nat.le_of_ble_eq_true rfl)⟩, ⟨(Nat.le_of_ble_eq_true rfl), (Nat.le_of_ble_eq_true rfl)⟩⟩ rfl rfl (Nat.le_of_ble_eq_true rfl) dX9_liftRoyalCoin_4) (fun r hh n1 hpp => ?_)
  obtain ⟨rfl, hn, c_m, ff⟩ := hpp
  replace hn : n = n1 := Eq.symm hn
  subst hn
  replace b_m : bM k m y1.2 hh := c_m
  clear c_m
  replace ff : rx_fr [(m, 9)] _ hh := ff
  replace fr := rx_frt fr ff (fun a ha => ⟨ha.1, trivial⟩)
  obtain rfl := Option.some.inj hF
  exact rx_iret C dX9_liftRoyalCoin_7 (Nat.le_refl _) (Nat.le_refl _) ⟨rfl, rfl, b_m, fr⟩
def F_X9_swapRags (om : ob) (x1 : Int32) (x2 : Int32) : Option (Int32 × ob) := rx_le (upd om.1 0 ((0 : Int32)), om.2) fun o_m_1 => (F_X9_noOne o_m_1 x1).bind fun y2 => if y2.1 = (0 : Int32) then ((F_X9_noOne y2.2 x2).bind fun y4 => if y4.1 = (0 : Int32) then (if x1 = x2 then ((F_X9_fails y4.2 ((0 : Int32)) ((2 : Int32))).bind fun y7 => if y7.1 = (0 : Int32) then ((F_X9_operates y7.2 ((4 : Int32)) x1 x2 ((3 : Int32))).bind fun y9 => some (y9.1, y9.2)) else (some ((0 : Int32), y7.2))) else ((F_X9_fails y4.2 ((1 : Int32)) ((2 : Int32))).bind fun y10 => if y10.1 = (0 : Int32) then ((F_X9_operates y10.2 ((4 : Int32)) x1 x2 ((3 : Int32))).bind fun y12 => some (y12.1, y12.2)) else (some ((0 : Int32), y10.2)))) else (some ((0 : Int32), y4.2))) else (some ((0 : Int32), y2.2))
set_option maxRecDepth 100000 in
set_option maxHeartbeats 4000000 in
theorem w_X9_swapRags {m : Nat} {om : ob} {x1 : Int32} {x2 : Int32} {y : Int32 × ob} (hF : F_X9_swapRags om x1 x2 = some y) (b_m : bM k m om h) : Met l yX9_swapRags (rx_ws yX9_swapRags cX9_swapRags 3 (some .int)) (rx_rm 9 207) (va_Pc [.ref m, .int x1, .int x2] (rx_G G k h n)) (va_Qi (fun r u => y.1 = r ∧ u.2 = n ∧ bM k m y.2 u.1 ∧ rx_fr [(m, 9)] h u.1) (rx_B G k) (rx_A k)) 0 0 (rx_A k) := by
  refine rx_start [(0, .ref m), (1, .int x1), (2, .int x2)] rfl (Nat.le_of_ble_eq_true rfl) (by decide) rfl (fun P9 E9 S9 M9 A9 B9 me9 c9 C hname => ?_)
  unfold F_X9_swapRags at hF
  have fr : rx_fr [(m, 9)] h h := rx_fr0
  refine rx_aload_n C dX9_swapRags_0 0 rfl ?_
  refine rx_iconst C dX9_swapRags_1 (0 : Int32) (by decide) ?_
  replace hF := rx_leE hF; obtain ⟨o_m_1, e_o_m_1, hF⟩ := hF
  refine rx_pM0 C f_X9_1 dX9_swapRags_2 b_m e_o_m_1 (fun hh c_m ff => ?_)
  replace b_m := c_m
  replace fr := rx_frt fr ff (fun a ha => ⟨ha.1, trivial⟩)
  refine rx_aload_n C dX9_swapRags_5 0 rfl ?_
  refine rx_iload_n C dX9_swapRags_6 1 rfl ?_
  replace hF := rx_biE hF; obtain ⟨y2, e_y2, hF⟩ := hF
  refine rx_ci (rx_rV C (w_X9_noOne e_y2 b_m) Y_X9_noOne V_X9_noOne m_X9_263 (Or.inl ⟨_, _, _, _, b_m.1, rfl⟩) ⟨⟨rfl, rfl⟩, ⟨(Nat.le_of_ble_eq_true rfl), (Nat.le_of_ble_eq_true rfl)⟩, ⟨(Nat.le_of_ble_eq_true rfl), (Nat.le_of_ble_eq_true rfl)⟩⟩ rfl rfl (Nat.le_of_ble_eq_true rfl) dX9_swapRags_7) (fun r hh n1 hpp => ?_)
  obtain ⟨rfl, bo_y2, hn, c_m, ff⟩ := hpp
  replace hn : n = n1 := Eq.symm hn
  subst hn
  replace b_m : bM k m y2.2 hh := c_m
  clear c_m
  replace ff : rx_fr [(m, 9)] _ hh := ff
  replace fr := rx_frt fr ff (fun a ha => ⟨ha.1, trivial⟩)
  refine rx_if_ne C dX9_swapRags_10 39 (by decide) (fun c3 => ?_) (fun c3 => ?_)
  · rw [if_neg c3] at hF
    refine rx_iconst C dX9_swapRags_39 (0 : Int32) (by decide) ?_
    refine rx_goto C dX9_swapRags_40 51 (by decide) ?_
    obtain rfl := Option.some.inj hF
    exact rx_iret C dX9_swapRags_51 (Nat.le_refl _) (Nat.le_refl _) ⟨rfl, rfl, b_m, fr⟩
  · rw [if_pos c3] at hF
    refine rx_aload_n C dX9_swapRags_13 0 rfl ?_
    refine rx_iload_n C dX9_swapRags_14 2 rfl ?_
    replace hF := rx_biE hF; obtain ⟨y4, e_y4, hF⟩ := hF
    refine rx_ci (rx_rV C (w_X9_noOne e_y4 b_m) Y_X9_noOne V_X9_noOne m_X9_263 (Or.inl ⟨_, _, _, _, b_m.1, rfl⟩) ⟨⟨rfl, rfl⟩, ⟨(Nat.le_of_ble_eq_true rfl), (Nat.le_of_ble_eq_true rfl)⟩, ⟨(Nat.le_of_ble_eq_true rfl), (Nat.le_of_ble_eq_true rfl)⟩⟩ rfl rfl (Nat.le_of_ble_eq_true rfl) dX9_swapRags_15) (fun r hh n1 hpp => ?_)
    obtain ⟨rfl, bo_y4, hn, c_m, ff⟩ := hpp
    replace hn : n = n1 := Eq.symm hn
    subst hn
    replace b_m : bM k m y4.2 hh := c_m
    clear c_m
    replace ff : rx_fr [(m, 9)] _ hh := ff
    replace fr := rx_frt fr ff (fun a ha => ⟨ha.1, trivial⟩)
    refine rx_if_ne C dX9_swapRags_18 39 (by decide) (fun c5 => ?_) (fun c5 => ?_)
    · rw [if_neg c5] at hF
      refine rx_iconst C dX9_swapRags_39 (0 : Int32) (by decide) ?_
      refine rx_goto C dX9_swapRags_40 51 (by decide) ?_
      obtain rfl := Option.some.inj hF
      exact rx_iret C dX9_swapRags_51 (Nat.le_refl _) (Nat.le_refl _) ⟨rfl, rfl, b_m, fr⟩
    · rw [if_pos c5] at hF
      refine rx_aload_n C dX9_swapRags_21 0 rfl ?_
      refine rx_iload_n C dX9_swapRags_22 1 rfl ?_
      refine rx_iload_n C dX9_swapRags_23 2 rfl ?_
      refine rx_icmp_eq C dX9_swapRags_24 31 (by decide) (fun c6 => ?_) (fun c6 => ?_)
      · rw [if_pos c6] at hF
        refine rx_iconst C dX9_swapRags_31 (0 : Int32) (by decide) ?_
        refine rx_iconst C dX9_swapRags_32 (2 : Int32) (by decide) ?_
        replace hF := rx_biE hF; obtain ⟨y7, e_y7, hF⟩ := hF
        refine rx_ci (rx_rV C (w_X9_fails e_y7 b_m) Y_X9_fails V_X9_fails m_X9_239 (Or.inl ⟨_, _, _, _, b_m.1, rfl⟩) ⟨⟨rfl, rfl⟩, ⟨(Nat.le_of_ble_eq_true rfl), (Nat.le_of_ble_eq_true rfl)⟩, ⟨(Nat.le_of_ble_eq_true rfl), (Nat.le_of_ble_eq_true rfl)⟩⟩ rfl rfl (Nat.le_of_ble_eq_true rfl) dX9_swapRags_33) (fun r hh n1 hpp => ?_)
        obtain ⟨rfl, bo_y7, hn, c_m, ff⟩ := hpp
        replace hn : n = n1 := Eq.symm hn
        subst hn
        replace b_m : bM k m y7.2 hh := c_m
        clear c_m
        replace ff : rx_fr [(m, 9)] _ hh := ff
        replace fr := rx_frt fr ff (fun a ha => ⟨ha.1, trivial⟩)
        refine rx_if_eq C dX9_swapRags_36 43 (by decide) (fun c8 => ?_) (fun c8 => ?_)
        · rw [if_pos c8] at hF
          refine rx_aload_n C dX9_swapRags_43 0 rfl ?_
          refine rx_iconst C dX9_swapRags_44 (4 : Int32) (by decide) ?_
          refine rx_iload_n C dX9_swapRags_45 1 rfl ?_
          refine rx_iload_n C dX9_swapRags_46 2 rfl ?_
          refine rx_iconst C dX9_swapRags_47 (3 : Int32) (by decide) ?_
          replace hF := rx_biE hF; obtain ⟨y9, e_y9, hF⟩ := hF
          refine rx_ci (rx_rV C (w_X9_operates e_y9 b_m) Y_X9_operates V_X9_operates m_X9_309 (Or.inl ⟨_, _, _, _, b_m.1, rfl⟩) ⟨⟨rfl, rfl⟩, ⟨(Nat.le_of_ble_eq_true rfl), (Nat.le_of_ble_eq_true rfl)⟩, ⟨(Nat.le_of_ble_eq_true rfl), (Nat.le_of_ble_eq_true rfl)⟩⟩ rfl rfl (Nat.le_of_ble_eq_true rfl) dX9_swapRags_48) (fun r hh n1 hpp => ?_)
          obtain ⟨rfl, hn, c_m, ff⟩ := hpp
          replace hn : n = n1 := Eq.symm hn
          subst hn
          replace b_m : bM k m y9.2 hh := c_m
          clear c_m
          replace ff : rx_fr [(m, 9)] _ hh := ff
          replace fr := rx_frt fr ff (fun a ha => ⟨ha.1, trivial⟩)
          obtain rfl := Option.some.inj hF
          exact rx_iret C dX9_swapRags_51 (Nat.le_refl _) (Nat.le_refl _) ⟨rfl, rfl, b_m, fr⟩
        · rw [if_neg c8] at hF
          refine rx_iconst C dX9_swapRags_39 (0 : Int32) (by decide) ?_
          refine rx_goto C dX9_swapRags_40 51 (by decide) ?_
          obtain rfl := Option.some.inj hF
          exact rx_iret C dX9_swapRags_51 (Nat.le_refl _) (Nat.le_refl _) ⟨rfl, rfl, b_m, fr⟩
      · rw [if_neg c6] at hF
        refine rx_iconst C dX9_swapRags_27 (1 : Int32) (by decide) ?_
        refine rx_goto C dX9_swapRags_28 32 (by decide) ?_
        refine rx_iconst C dX9_swapRags_32 (2 : Int32) (by decide) ?_
        replace hF := rx_biE hF; obtain ⟨y10, e_y10, hF⟩ := hF
        refine rx_ci (rx_rV C (w_X9_fails e_y10 b_m) Y_X9_fails V_X9_fails m_X9_239 (Or.inl ⟨_, _, _, _, b_m.1, rfl⟩) ⟨⟨rfl, rfl⟩, ⟨(Nat.le_of_ble_eq_true rfl), (Nat.le_of_ble_eq_true rfl)⟩, ⟨(Nat.le_of_ble_eq_true rfl), (Nat.le_of_ble_eq_true rfl)⟩⟩ rfl rfl (Nat.le_of_ble_eq_true rfl) dX9_swapRags_33) (fun r hh n1 hpp => ?_)
        obtain ⟨rfl, bo_y10, hn, c_m, ff⟩ := hpp
        replace hn : n = n1 := Eq.symm hn
        subst hn
        replace b_m : bM k m y10.2 hh := c_m
        clear c_m
        replace ff : rx_fr [(m, 9)] _ hh := ff
        replace fr := rx_frt fr ff (fun a ha => ⟨ha.1, trivial⟩)
        refine rx_if_eq C dX9_swapRags_36 43 (by decide) (fun c11 => ?_) (fun c11 => ?_)
        · rw [if_pos c11] at hF
          refine rx_aload_n C dX9_swapRags_43 0 rfl ?_
          refine rx_iconst C dX9_swapRags_44 (4 : Int32) (by decide) ?_
          refine rx_iload_n C dX9_swapRags_45 1 rfl ?_
          refine rx_iload_n C dX9_swapRags_46 2 rfl ?_
          refine rx_iconst C dX9_swapRags_47 (3 : Int32) (by decide) ?_
          replace hF := rx_biE hF; obtain ⟨y12, e_y12, hF⟩ := hF
          refine rx_ci (rx_rV C (w_X9_operates e_y12 b_m) Y_X9_operates V_X9_operates m_X9_309 (Or.inl ⟨_, _, _, _, b_m.1, rfl⟩) ⟨⟨rfl, rfl⟩, ⟨(Nat.le_of_ble_eq_true rfl), (Nat.le_of_ble_eq_true rfl)⟩, ⟨(Nat.le_of_ble_eq_true rfl), (Nat.le_of_ble_eq_true rfl)⟩⟩ rfl rfl (Nat.le_of_ble_eq_true rfl) dX9_swapRags_48) (fun r hh n1 hpp => ?_)
          obtain ⟨rfl, hn, c_m, ff⟩ := hpp
          replace hn : n = n1 := Eq.symm hn
          subst hn
          replace b_m : bM k m y12.2 hh := c_m
          clear c_m
          replace ff : rx_fr [(m, 9)] _ hh := ff
          replace fr := rx_frt fr ff (fun a ha => ⟨ha.1, trivial⟩)
          obtain rfl := Option.some.inj hF
          exact rx_iret C dX9_swapRags_51 (Nat.le_refl _) (Nat.le_refl _) ⟨rfl, rfl, b_m, fr⟩
        · rw [if_neg c11] at hF
          refine rx_iconst C dX9_swapRags_39 (0 : Int32) (by decide) ?_
          refine rx_goto C dX9_swapRags_40 51 (by decide) ?_
          obtain rfl := Option.some.inj hF
          exact rx_iret C dX9_swapRags_51 (Nat.le_refl _) (Nat.le_refl _) ⟨rfl, rfl, b_m, fr⟩
def F_X9_joinQueue (om : ob) (x1 : Int32) (x2 : Int32) : Option (Int32 × ob) := rx_le (upd om.1 0 ((0 : Int32)), om.2) fun o_m_1 => (F_X9_noOne o_m_1 x1).bind fun y2 => if y2.1 = (0 : Int32) then ((F_X9_in x2 ((0 : Int32)) ((99 : Int32))).bind fun y4 => (F_X9_fails y2.2 y4 ((2 : Int32))).bind fun y5 => if y5.1 = (0 : Int32) then ((F_X9_operates y5.2 ((5 : Int32)) x1 x2 ((3 : Int32))).bind fun y7 => some (y7.1, y7.2)) else (some ((0 : Int32), y5.2))) else (some ((0 : Int32), y2.2))
set_option maxRecDepth 100000 in
set_option maxHeartbeats 4000000 in
theorem w_X9_joinQueue {m : Nat} {om : ob} {x1 : Int32} {x2 : Int32} {y : Int32 × ob} (hF : F_X9_joinQueue om x1 x2 = some y) (b_m : bM k m om h) : Met l yX9_joinQueue (rx_ws yX9_joinQueue cX9_joinQueue 3 (some .int)) (rx_rm 9 207) (va_Pc [.ref m, .int x1, .int x2] (rx_G G k h n)) (va_Qi (fun r u => y.1 = r ∧ u.2 = n ∧ bM k m y.2 u.1 ∧ rx_fr [(m, 9)] h u.1) (rx_B G k) (rx_A k)) 0 0 (rx_A k) := by
  refine rx_start [(0, .ref m), (1, .int x1), (2, .int x2)] rfl (Nat.le_of_ble_eq_true rfl) (by decide) rfl (fun P9 E9 S9 M9 A9 B9 me9 c9 C hname => ?_)
  unfold F_X9_joinQueue at hF
  have fr : rx_fr [(m, 9)] h h := rx_fr0
  refine rx_aload_n C dX9_joinQueue_0 0 rfl ?_
  refine rx_iconst C dX9_joinQueue_1 (0 : Int32) (by decide) ?_
  replace hF := rx_leE hF; obtain ⟨o_m_1, e_o_m_1, hF⟩ := hF
  refine rx_pM0 C f_X9_1 dX9_joinQueue_2 b_m e_o_m_1 (fun hh c_m ff => ?_)
  replace b_m := c_m
  replace fr := rx_frt fr ff (fun a ha => ⟨ha.1, trivial⟩)
  refine rx_aload_n C dX9_joinQueue_5 0 rfl ?_
  refine rx_iload_n C dX9_joinQueue_6 1 rfl ?_
  replace hF := rx_biE hF; obtain ⟨y2, e_y2, hF⟩ := hF
  refine rx_ci (rx_rV C (w_X9_noOne e_y2 b_m) Y_X9_noOne V_X9_noOne m_X9_263 (Or.inl ⟨_, _, _, _, b_m.1, rfl⟩) ⟨⟨rfl, rfl⟩, ⟨(Nat.le_of_ble_eq_true rfl), (Nat.le_of_ble_eq_true rfl)⟩, ⟨(Nat.le_of_ble_eq_true rfl), (Nat.le_of_ble_eq_true rfl)⟩⟩ rfl rfl (Nat.le_of_ble_eq_true rfl) dX9_joinQueue_7) (fun r hh n1 hpp => ?_)
  obtain ⟨rfl, bo_y2, hn, c_m, ff⟩ := hpp
  replace hn : n = n1 := Eq.symm hn
  subst hn
  replace b_m : bM k m y2.2 hh := c_m
  clear c_m
  replace ff : rx_fr [(m, 9)] _ hh := ff
  replace fr := rx_frt fr ff (fun a ha => ⟨ha.1, trivial⟩)
  refine rx_if_ne C dX9_joinQueue_10 28 (by decide) (fun c3 => ?_) (fun c3 => ?_)
  · rw [if_neg c3] at hF
    refine rx_iconst C dX9_joinQueue_28 (0 : Int32) (by decide) ?_
    refine rx_goto C dX9_joinQueue_29 40 (by decide) ?_
    obtain rfl := Option.some.inj hF
    exact rx_iret C dX9_joinQueue_40 (Nat.le_refl _) (Nat.le_refl _) ⟨rfl, rfl, b_m, fr⟩
  · rw [if_pos c3] at hF
    refine rx_aload_n C dX9_joinQueue_13 0 rfl ?_
    refine rx_iload_n C dX9_joinQueue_14 2 rfl ?_
    refine rx_iconst C dX9_joinQueue_15 (0 : Int32) (by decide) ?_
    refine rx_bipush C dX9_joinQueue_16 (99 : Int32) (by decide) ?_
    replace hF := rx_biE hF; obtain ⟨y4, e_y4, hF⟩ := hF
    refine rx_ci (rx_rS C (w_X9_in e_y4 ) Y_X9_in S_X9_in m_X9_200 ⟨⟨rfl, rfl⟩, ⟨(Nat.le_of_ble_eq_true rfl), (Nat.le_of_ble_eq_true rfl)⟩, ⟨(Nat.le_of_ble_eq_true rfl), (Nat.le_of_ble_eq_true rfl)⟩⟩ rfl rfl (Nat.le_of_ble_eq_true rfl) dX9_joinQueue_18) (fun r hh n1 hpp => ?_)
    obtain ⟨rfl, bo_y4, hu⟩ := hpp
    cases hu
    refine rx_iconst C dX9_joinQueue_21 (2 : Int32) (by decide) ?_
    replace hF := rx_biE hF; obtain ⟨y5, e_y5, hF⟩ := hF
    refine rx_ci (rx_rV C (w_X9_fails e_y5 b_m) Y_X9_fails V_X9_fails m_X9_239 (Or.inl ⟨_, _, _, _, b_m.1, rfl⟩) ⟨⟨rfl, rfl⟩, ⟨(Nat.le_of_ble_eq_true rfl), (Nat.le_of_ble_eq_true rfl)⟩, ⟨(Nat.le_of_ble_eq_true rfl), (Nat.le_of_ble_eq_true rfl)⟩⟩ rfl rfl (Nat.le_of_ble_eq_true rfl) dX9_joinQueue_22) (fun r hh n1 hpp => ?_)
    obtain ⟨rfl, bo_y5, hn, c_m, ff⟩ := hpp
    replace hn : n = n1 := Eq.symm hn
    subst hn
    replace b_m : bM k m y5.2 hh := c_m
    clear c_m
    replace ff : rx_fr [(m, 9)] _ hh := ff
    replace fr := rx_frt fr ff (fun a ha => ⟨ha.1, trivial⟩)
    refine rx_if_eq C dX9_joinQueue_25 32 (by decide) (fun c6 => ?_) (fun c6 => ?_)
    · rw [if_pos c6] at hF
      refine rx_aload_n C dX9_joinQueue_32 0 rfl ?_
      refine rx_iconst C dX9_joinQueue_33 (5 : Int32) (by decide) ?_
      refine rx_iload_n C dX9_joinQueue_34 1 rfl ?_
      refine rx_iload_n C dX9_joinQueue_35 2 rfl ?_
      refine rx_iconst C dX9_joinQueue_36 (3 : Int32) (by decide) ?_
      replace hF := rx_biE hF; obtain ⟨y7, e_y7, hF⟩ := hF
      refine rx_ci (rx_rV C (w_X9_operates e_y7 b_m) Y_X9_operates V_X9_operates m_X9_309 (Or.inl ⟨_, _, _, _, b_m.1, rfl⟩) ⟨⟨rfl, rfl⟩, ⟨(Nat.le_of_ble_eq_true rfl), (Nat.le_of_ble_eq_true rfl)⟩, ⟨(Nat.le_of_ble_eq_true rfl), (Nat.le_of_ble_eq_true rfl)⟩⟩ rfl rfl (Nat.le_of_ble_eq_true rfl) dX9_joinQueue_37) (fun r hh n1 hpp => ?_)
      obtain ⟨rfl, hn, c_m, ff⟩ := hpp
      replace hn : n = n1 := Eq.symm hn
      subst hn
      replace b_m : bM k m y7.2 hh := c_m
      clear c_m
      replace ff : rx_fr [(m, 9)] _ hh := ff
      replace fr := rx_frt fr ff (fun a ha => ⟨ha.1, trivial⟩)
      obtain rfl := Option.some.inj hF
      exact rx_iret C dX9_joinQueue_40 (Nat.le_refl _) (Nat.le_refl _) ⟨rfl, rfl, b_m, fr⟩
    · rw [if_neg c6] at hF
      refine rx_iconst C dX9_joinQueue_28 (0 : Int32) (by decide) ?_
      refine rx_goto C dX9_joinQueue_29 40 (by decide) ?_
      obtain rfl := Option.some.inj hF
      exact rx_iret C dX9_joinQueue_40 (Nat.le_refl _) (Nat.le_refl _) ⟨rfl, rfl, b_m, fr⟩
def F_X9_quitQueue (om : ob) (x1 : Int32) : Option (Int32 × ob) := rx_le (upd om.1 0 ((0 : Int32)), om.2) fun o_m_1 => (F_X9_noOne o_m_1 x1).bind fun y2 => if y2.1 = (0 : Int32) then ((F_X9_operates y2.2 ((6 : Int32)) x1 ((0 : Int32)) ((2 : Int32))).bind fun y4 => some (y4.1, y4.2)) else (some ((0 : Int32), y2.2))
set_option maxRecDepth 100000 in
set_option maxHeartbeats 4000000 in
theorem w_X9_quitQueue {m : Nat} {om : ob} {x1 : Int32} {y : Int32 × ob} (hF : F_X9_quitQueue om x1 = some y) (b_m : bM k m om h) : Met l yX9_quitQueue (rx_ws yX9_quitQueue cX9_quitQueue 2 (some .int)) (rx_rm 9 207) (va_Pc [.ref m, .int x1] (rx_G G k h n)) (va_Qi (fun r u => y.1 = r ∧ u.2 = n ∧ bM k m y.2 u.1 ∧ rx_fr [(m, 9)] h u.1) (rx_B G k) (rx_A k)) 0 0 (rx_A k) := by
  refine rx_start [(0, .ref m), (1, .int x1)] rfl (Nat.le_of_ble_eq_true rfl) (by decide) rfl (fun P9 E9 S9 M9 A9 B9 me9 c9 C hname => ?_)
  unfold F_X9_quitQueue at hF
  have fr : rx_fr [(m, 9)] h h := rx_fr0
  refine rx_aload_n C dX9_quitQueue_0 0 rfl ?_
  refine rx_iconst C dX9_quitQueue_1 (0 : Int32) (by decide) ?_
  replace hF := rx_leE hF; obtain ⟨o_m_1, e_o_m_1, hF⟩ := hF
  refine rx_pM0 C f_X9_1 dX9_quitQueue_2 b_m e_o_m_1 (fun hh c_m ff => ?_)
  replace b_m := c_m
  replace fr := rx_frt fr ff (fun a ha => ⟨ha.1, trivial⟩)
  refine rx_aload_n C dX9_quitQueue_5 0 rfl ?_
  refine rx_iload_n C dX9_quitQueue_6 1 rfl ?_
  replace hF := rx_biE hF; obtain ⟨y2, e_y2, hF⟩ := hF
  refine rx_ci (rx_rV C (w_X9_noOne e_y2 b_m) Y_X9_noOne V_X9_noOne m_X9_263 (Or.inl ⟨_, _, _, _, b_m.1, rfl⟩) ⟨⟨rfl, rfl⟩, ⟨(Nat.le_of_ble_eq_true rfl), (Nat.le_of_ble_eq_true rfl)⟩, ⟨(Nat.le_of_ble_eq_true rfl), (Nat.le_of_ble_eq_true rfl)⟩⟩ rfl rfl (Nat.le_of_ble_eq_true rfl) dX9_quitQueue_7) (fun r hh n1 hpp => ?_)
  obtain ⟨rfl, bo_y2, hn, c_m, ff⟩ := hpp
  replace hn : n = n1 := Eq.symm hn
  subst hn
  replace b_m : bM k m y2.2 hh := c_m
  clear c_m
  replace ff : rx_fr [(m, 9)] _ hh := ff
  replace fr := rx_frt fr ff (fun a ha => ⟨ha.1, trivial⟩)
  refine rx_if_eq C dX9_quitQueue_10 17 (by decide) (fun c3 => ?_) (fun c3 => ?_)
  · rw [if_pos c3] at hF
    refine rx_aload_n C dX9_quitQueue_17 0 rfl ?_
    refine rx_bipush C dX9_quitQueue_18 (6 : Int32) (by decide) ?_
    refine rx_iload_n C dX9_quitQueue_20 1 rfl ?_
    refine rx_iconst C dX9_quitQueue_21 (0 : Int32) (by decide) ?_
    refine rx_iconst C dX9_quitQueue_22 (2 : Int32) (by decide) ?_
    replace hF := rx_biE hF; obtain ⟨y4, e_y4, hF⟩ := hF
    refine rx_ci (rx_rV C (w_X9_operates e_y4 b_m) Y_X9_operates V_X9_operates m_X9_309 (Or.inl ⟨_, _, _, _, b_m.1, rfl⟩) ⟨⟨rfl, rfl⟩, ⟨(Nat.le_of_ble_eq_true rfl), (Nat.le_of_ble_eq_true rfl)⟩, ⟨(Nat.le_of_ble_eq_true rfl), (Nat.le_of_ble_eq_true rfl)⟩⟩ rfl rfl (Nat.le_of_ble_eq_true rfl) dX9_quitQueue_23) (fun r hh n1 hpp => ?_)
    obtain ⟨rfl, hn, c_m, ff⟩ := hpp
    replace hn : n = n1 := Eq.symm hn
    subst hn
    replace b_m : bM k m y4.2 hh := c_m
    clear c_m
    replace ff : rx_fr [(m, 9)] _ hh := ff
    replace fr := rx_frt fr ff (fun a ha => ⟨ha.1, trivial⟩)
    obtain rfl := Option.some.inj hF
    exact rx_iret C dX9_quitQueue_26 (Nat.le_refl _) (Nat.le_refl _) ⟨rfl, rfl, b_m, fr⟩
  · rw [if_neg c3] at hF
    refine rx_iconst C dX9_quitQueue_13 (0 : Int32) (by decide) ?_
    refine rx_goto C dX9_quitQueue_14 26 (by decide) ?_
    obtain rfl := Option.some.inj hF
    exact rx_iret C dX9_quitQueue_26 (Nat.le_refl _) (Nat.le_refl _) ⟨rfl, rfl, b_m, fr⟩
def F_X9_setPride (om : ob) (x1 : Int32) (x2 : Int32) : Option (Int32 × ob) := rx_le (upd om.1 0 ((0 : Int32)), om.2) fun o_m_1 => (F_X9_noOne o_m_1 x1).bind fun y2 => if y2.1 = (0 : Int32) then ((F_X9_in x2 ((0 : Int32)) ((40 : Int32))).bind fun y4 => (F_X9_fails y2.2 y4 ((2 : Int32))).bind fun y5 => if y5.1 = (0 : Int32) then ((F_X9_operates y5.2 ((7 : Int32)) x1 x2 ((3 : Int32))).bind fun y7 => some (y7.1, y7.2)) else (some ((0 : Int32), y5.2))) else (some ((0 : Int32), y2.2))
set_option maxRecDepth 100000 in
set_option maxHeartbeats 4000000 in
theorem w_X9_setPride {m : Nat} {om : ob} {x1 : Int32} {x2 : Int32} {y : Int32 × ob} (hF : F_X9_setPride om x1 x2 = some y) (b_m : bM k m om h) : Met l yX9_setPride (rx_ws yX9_setPride cX9_setPride 3 (some .int)) (rx_rm 9 207) (va_Pc [.ref m, .int x1, .int x2] (rx_G G k h n)) (va_Qi (fun r u => y.1 = r ∧ u.2 = n ∧ bM k m y.2 u.1 ∧ rx_fr [(m, 9)] h u.1) (rx_B G k) (rx_A k)) 0 0 (rx_A k) := by
  refine rx_start [(0, .ref m), (1, .int x1), (2, .int x2)] rfl (Nat.le_of_ble_eq_true rfl) (by decide) rfl (fun P9 E9 S9 M9 A9 B9 me9 c9 C hname => ?_)
  unfold F_X9_setPride at hF
  have fr : rx_fr [(m, 9)] h h := rx_fr0
  refine rx_aload_n C dX9_setPride_0 0 rfl ?_
  refine rx_iconst C dX9_setPride_1 (0 : Int32) (by decide) ?_
  replace hF := rx_leE hF; obtain ⟨o_m_1, e_o_m_1, hF⟩ := hF
  refine rx_pM0 C f_X9_1 dX9_setPride_2 b_m e_o_m_1 (fun hh c_m ff => ?_)
  replace b_m := c_m
  replace fr := rx_frt fr ff (fun a ha => ⟨ha.1, trivial⟩)
  refine rx_aload_n C dX9_setPride_5 0 rfl ?_
  refine rx_iload_n C dX9_setPride_6 1 rfl ?_
  replace hF := rx_biE hF; obtain ⟨y2, e_y2, hF⟩ := hF
  refine rx_ci (rx_rV C (w_X9_noOne e_y2 b_m) Y_X9_noOne V_X9_noOne m_X9_263 (Or.inl ⟨_, _, _, _, b_m.1, rfl⟩) ⟨⟨rfl, rfl⟩, ⟨(Nat.le_of_ble_eq_true rfl), (Nat.le_of_ble_eq_true rfl)⟩, ⟨(Nat.le_of_ble_eq_true rfl), (Nat.le_of_ble_eq_true rfl)⟩⟩ rfl rfl (Nat.le_of_ble_eq_true rfl) dX9_setPride_7) (fun r hh n1 hpp => ?_)
  obtain ⟨rfl, bo_y2, hn, c_m, ff⟩ := hpp
  replace hn : n = n1 := Eq.symm hn
  subst hn
  replace b_m : bM k m y2.2 hh := c_m
  clear c_m
  replace ff : rx_fr [(m, 9)] _ hh := ff
  replace fr := rx_frt fr ff (fun a ha => ⟨ha.1, trivial⟩)
  refine rx_if_ne C dX9_setPride_10 28 (by decide) (fun c3 => ?_) (fun c3 => ?_)
  · rw [if_neg c3] at hF
    refine rx_iconst C dX9_setPride_28 (0 : Int32) (by decide) ?_
    refine rx_goto C dX9_setPride_29 41 (by decide) ?_
    obtain rfl := Option.some.inj hF
    exact rx_iret C dX9_setPride_41 (Nat.le_refl _) (Nat.le_refl _) ⟨rfl, rfl, b_m, fr⟩
  · rw [if_pos c3] at hF
    refine rx_aload_n C dX9_setPride_13 0 rfl ?_
    refine rx_iload_n C dX9_setPride_14 2 rfl ?_
    refine rx_iconst C dX9_setPride_15 (0 : Int32) (by decide) ?_
    refine rx_bipush C dX9_setPride_16 (40 : Int32) (by decide) ?_
    replace hF := rx_biE hF; obtain ⟨y4, e_y4, hF⟩ := hF
    refine rx_ci (rx_rS C (w_X9_in e_y4 ) Y_X9_in S_X9_in m_X9_200 ⟨⟨rfl, rfl⟩, ⟨(Nat.le_of_ble_eq_true rfl), (Nat.le_of_ble_eq_true rfl)⟩, ⟨(Nat.le_of_ble_eq_true rfl), (Nat.le_of_ble_eq_true rfl)⟩⟩ rfl rfl (Nat.le_of_ble_eq_true rfl) dX9_setPride_18) (fun r hh n1 hpp => ?_)
    obtain ⟨rfl, bo_y4, hu⟩ := hpp
    cases hu
    refine rx_iconst C dX9_setPride_21 (2 : Int32) (by decide) ?_
    replace hF := rx_biE hF; obtain ⟨y5, e_y5, hF⟩ := hF
    refine rx_ci (rx_rV C (w_X9_fails e_y5 b_m) Y_X9_fails V_X9_fails m_X9_239 (Or.inl ⟨_, _, _, _, b_m.1, rfl⟩) ⟨⟨rfl, rfl⟩, ⟨(Nat.le_of_ble_eq_true rfl), (Nat.le_of_ble_eq_true rfl)⟩, ⟨(Nat.le_of_ble_eq_true rfl), (Nat.le_of_ble_eq_true rfl)⟩⟩ rfl rfl (Nat.le_of_ble_eq_true rfl) dX9_setPride_22) (fun r hh n1 hpp => ?_)
    obtain ⟨rfl, bo_y5, hn, c_m, ff⟩ := hpp
    replace hn : n = n1 := Eq.symm hn
    subst hn
    replace b_m : bM k m y5.2 hh := c_m
    clear c_m
    replace ff : rx_fr [(m, 9)] _ hh := ff
    replace fr := rx_frt fr ff (fun a ha => ⟨ha.1, trivial⟩)
    refine rx_if_eq C dX9_setPride_25 32 (by decide) (fun c6 => ?_) (fun c6 => ?_)
    · rw [if_pos c6] at hF
      refine rx_aload_n C dX9_setPride_32 0 rfl ?_
      refine rx_bipush C dX9_setPride_33 (7 : Int32) (by decide) ?_
      refine rx_iload_n C dX9_setPride_35 1 rfl ?_
      refine rx_iload_n C dX9_setPride_36 2 rfl ?_
      refine rx_iconst C dX9_setPride_37 (3 : Int32) (by decide) ?_
      replace hF := rx_biE hF; obtain ⟨y7, e_y7, hF⟩ := hF
      refine rx_ci (rx_rV C (w_X9_operates e_y7 b_m) Y_X9_operates V_X9_operates m_X9_309 (Or.inl ⟨_, _, _, _, b_m.1, rfl⟩) ⟨⟨rfl, rfl⟩, ⟨(Nat.le_of_ble_eq_true rfl), (Nat.le_of_ble_eq_true rfl)⟩, ⟨(Nat.le_of_ble_eq_true rfl), (Nat.le_of_ble_eq_true rfl)⟩⟩ rfl rfl (Nat.le_of_ble_eq_true rfl) dX9_setPride_38) (fun r hh n1 hpp => ?_)
      obtain ⟨rfl, hn, c_m, ff⟩ := hpp
      replace hn : n = n1 := Eq.symm hn
      subst hn
      replace b_m : bM k m y7.2 hh := c_m
      clear c_m
      replace ff : rx_fr [(m, 9)] _ hh := ff
      replace fr := rx_frt fr ff (fun a ha => ⟨ha.1, trivial⟩)
      obtain rfl := Option.some.inj hF
      exact rx_iret C dX9_setPride_41 (Nat.le_refl _) (Nat.le_refl _) ⟨rfl, rfl, b_m, fr⟩
    · rw [if_neg c6] at hF
      refine rx_iconst C dX9_setPride_28 (0 : Int32) (by decide) ?_
      refine rx_goto C dX9_setPride_29 41 (by decide) ?_
      obtain rfl := Option.some.inj hF
      exact rx_iret C dX9_setPride_41 (Nat.le_refl _) (Nat.le_refl _) ⟨rfl, rfl, b_m, fr⟩
def F_X9_passTurns (om : ob) (x1 : Int32) : Option (Int32 × ob) := rx_le (upd om.1 0 ((0 : Int32)), om.2) fun o_m_1 => (F_X9_in x1 ((1 : Int32)) ((50 : Int32))).bind fun y2 => (F_X9_fails o_m_1 y2 ((1 : Int32))).bind fun y3 => if y3.1 = (0 : Int32) then ((F_X9_operates y3.2 ((8 : Int32)) x1 ((0 : Int32)) ((2 : Int32))).bind fun y5 => some (y5.1, y5.2)) else (some ((0 : Int32), y3.2))
set_option maxRecDepth 100000 in
set_option maxHeartbeats 4000000 in
theorem w_X9_passTurns {m : Nat} {om : ob} {x1 : Int32} {y : Int32 × ob} (hF : F_X9_passTurns om x1 = some y) (b_m : bM k m om h) : Met l yX9_passTurns (rx_ws yX9_passTurns cX9_passTurns 2 (some .int)) (rx_rm 9 207) (va_Pc [.ref m, .int x1] (rx_G G k h n)) (va_Qi (fun r u => y.1 = r ∧ u.2 = n ∧ bM k m y.2 u.1 ∧ rx_fr [(m, 9)] h u.1) (rx_B G k) (rx_A k)) 0 0 (rx_A k) := by
  refine rx_start [(0, .ref m), (1, .int x1)] rfl (Nat.le_of_ble_eq_true rfl) (by decide) rfl (fun P9 E9 S9 M9 A9 B9 me9 c9 C hname => ?_)
  unfold F_X9_passTurns at hF
  have fr : rx_fr [(m, 9)] h h := rx_fr0
  refine rx_aload_n C dX9_passTurns_0 0 rfl ?_
  refine rx_iconst C dX9_passTurns_1 (0 : Int32) (by decide) ?_
  replace hF := rx_leE hF; obtain ⟨o_m_1, e_o_m_1, hF⟩ := hF
  refine rx_pM0 C f_X9_1 dX9_passTurns_2 b_m e_o_m_1 (fun hh c_m ff => ?_)
  replace b_m := c_m
  replace fr := rx_frt fr ff (fun a ha => ⟨ha.1, trivial⟩)
  refine rx_aload_n C dX9_passTurns_5 0 rfl ?_
  refine rx_iload_n C dX9_passTurns_6 1 rfl ?_
  refine rx_iconst C dX9_passTurns_7 (1 : Int32) (by decide) ?_
  refine rx_bipush C dX9_passTurns_8 (50 : Int32) (by decide) ?_
  replace hF := rx_biE hF; obtain ⟨y2, e_y2, hF⟩ := hF
  refine rx_ci (rx_rS C (w_X9_in e_y2 ) Y_X9_in S_X9_in m_X9_200 ⟨⟨rfl, rfl⟩, ⟨(Nat.le_of_ble_eq_true rfl), (Nat.le_of_ble_eq_true rfl)⟩, ⟨(Nat.le_of_ble_eq_true rfl), (Nat.le_of_ble_eq_true rfl)⟩⟩ rfl rfl (Nat.le_of_ble_eq_true rfl) dX9_passTurns_10) (fun r hh n1 hpp => ?_)
  obtain ⟨rfl, bo_y2, hu⟩ := hpp
  cases hu
  refine rx_iconst C dX9_passTurns_13 (1 : Int32) (by decide) ?_
  replace hF := rx_biE hF; obtain ⟨y3, e_y3, hF⟩ := hF
  refine rx_ci (rx_rV C (w_X9_fails e_y3 b_m) Y_X9_fails V_X9_fails m_X9_239 (Or.inl ⟨_, _, _, _, b_m.1, rfl⟩) ⟨⟨rfl, rfl⟩, ⟨(Nat.le_of_ble_eq_true rfl), (Nat.le_of_ble_eq_true rfl)⟩, ⟨(Nat.le_of_ble_eq_true rfl), (Nat.le_of_ble_eq_true rfl)⟩⟩ rfl rfl (Nat.le_of_ble_eq_true rfl) dX9_passTurns_14) (fun r hh n1 hpp => ?_)
  obtain ⟨rfl, bo_y3, hn, c_m, ff⟩ := hpp
  replace hn : n = n1 := Eq.symm hn
  subst hn
  replace b_m : bM k m y3.2 hh := c_m
  clear c_m
  replace ff : rx_fr [(m, 9)] _ hh := ff
  replace fr := rx_frt fr ff (fun a ha => ⟨ha.1, trivial⟩)
  refine rx_if_eq C dX9_passTurns_17 24 (by decide) (fun c4 => ?_) (fun c4 => ?_)
  · rw [if_pos c4] at hF
    refine rx_aload_n C dX9_passTurns_24 0 rfl ?_
    refine rx_bipush C dX9_passTurns_25 (8 : Int32) (by decide) ?_
    refine rx_iload_n C dX9_passTurns_27 1 rfl ?_
    refine rx_iconst C dX9_passTurns_28 (0 : Int32) (by decide) ?_
    refine rx_iconst C dX9_passTurns_29 (2 : Int32) (by decide) ?_
    replace hF := rx_biE hF; obtain ⟨y5, e_y5, hF⟩ := hF
    refine rx_ci (rx_rV C (w_X9_operates e_y5 b_m) Y_X9_operates V_X9_operates m_X9_309 (Or.inl ⟨_, _, _, _, b_m.1, rfl⟩) ⟨⟨rfl, rfl⟩, ⟨(Nat.le_of_ble_eq_true rfl), (Nat.le_of_ble_eq_true rfl)⟩, ⟨(Nat.le_of_ble_eq_true rfl), (Nat.le_of_ble_eq_true rfl)⟩⟩ rfl rfl (Nat.le_of_ble_eq_true rfl) dX9_passTurns_30) (fun r hh n1 hpp => ?_)
    obtain ⟨rfl, hn, c_m, ff⟩ := hpp
    replace hn : n = n1 := Eq.symm hn
    subst hn
    replace b_m : bM k m y5.2 hh := c_m
    clear c_m
    replace ff : rx_fr [(m, 9)] _ hh := ff
    replace fr := rx_frt fr ff (fun a ha => ⟨ha.1, trivial⟩)
    obtain rfl := Option.some.inj hF
    exact rx_iret C dX9_passTurns_33 (Nat.le_refl _) (Nat.le_refl _) ⟨rfl, rfl, b_m, fr⟩
  · rw [if_neg c4] at hF
    refine rx_iconst C dX9_passTurns_20 (0 : Int32) (by decide) ?_
    refine rx_goto C dX9_passTurns_21 33 (by decide) ?_
    obtain rfl := Option.some.inj hF
    exact rx_iret C dX9_passTurns_33 (Nat.le_refl _) (Nat.le_refl _) ⟨rfl, rfl, b_m, fr⟩
def F_X9_orderHere (om : ob) : Option (Int32) := (F_X9_isWord om 18).bind fun y1 => if y1 = (0 : Int32) then ((F_X9_isWord om 19).bind fun y3 => if y3 = (0 : Int32) then ((F_X9_isWord om 20).bind fun y5 => if y5 = (0 : Int32) then ((F_X9_isWord om 21).bind fun y7 => if y7 = (0 : Int32) then ((F_X9_isWord om 22).bind fun y9 => if y9 = (0 : Int32) then ((F_X9_isWord om 23).bind fun y11 => if y11 = (0 : Int32) then ((F_X9_isWord om 24).bind fun y13 => if y13 = (0 : Int32) then ((F_X9_isWord om 25).bind fun y15 => if y15 = (0 : Int32) then ((F_X9_isWord om 26).bind fun y17 => if y17 = (0 : Int32) then (some ((-1 : Int32))) else (some ((8 : Int32)))) else (some ((7 : Int32)))) else (some ((6 : Int32)))) else (some ((5 : Int32)))) else (some ((4 : Int32)))) else (some ((3 : Int32)))) else (some ((2 : Int32)))) else (some ((1 : Int32)))) else (some ((0 : Int32)))
set_option maxRecDepth 100000 in
set_option maxHeartbeats 4000000 in
theorem w_X9_orderHere {m : Nat} {om : ob} {y : Int32} (hF : F_X9_orderHere om = some y) (b_m : bM k m om h) : Met l yX9_orderHere (rx_ws yX9_orderHere cX9_orderHere 1 (some .int)) (rx_rm 5 107) (va_Pc [.ref m] (rx_G G k h n)) (va_Qi (fun r u => y = r ∧ u = (h, n)) (rx_B G k) (rx_A k)) 0 0 (rx_A k) := by
  refine rx_start [(0, .ref m)] rfl (Nat.le_of_ble_eq_true rfl) (by decide) rfl (fun P9 E9 S9 M9 A9 B9 me9 c9 C hname => ?_)
  unfold F_X9_orderHere at hF
  refine rx_aload_n C dX9_orderHere_0 0 rfl ?_
  refine rx_ldcSw (t := 18) C (List.mem_of_getElem? (i := 24) rfl) dX9_orderHere_1 ?_
  replace hF := rx_biE hF; obtain ⟨y1, e_y1, hF⟩ := hF
  refine rx_ci (rx_rV C (w_X9_isWord e_y1 b_m (by decide)) Y_X9_isWord V_X9_isWord m_X9_193 (Or.inl ⟨_, _, _, _, b_m.1, rfl⟩) ⟨⟨rfl, rfl⟩, ⟨(Nat.le_of_ble_eq_true rfl), (Nat.le_of_ble_eq_true rfl)⟩, ⟨(Nat.le_of_ble_eq_true rfl), (Nat.le_of_ble_eq_true rfl)⟩⟩ rfl rfl (Nat.le_of_ble_eq_true rfl) dX9_orderHere_4) (fun r hh n1 hpp => ?_)
  obtain ⟨rfl, bo_y1, hu⟩ := hpp
  cases hu
  refine rx_if_eq C dX9_orderHere_7 12 (by decide) (fun c2 => ?_) (fun c2 => ?_)
  · rw [if_pos c2] at hF
    refine rx_aload_n C dX9_orderHere_12 0 rfl ?_
    refine rx_ldcSw (t := 19) C (List.mem_of_getElem? (i := 25) rfl) dX9_orderHere_13 ?_
    replace hF := rx_biE hF; obtain ⟨y3, e_y3, hF⟩ := hF
    refine rx_ci (rx_rV C (w_X9_isWord e_y3 b_m (by decide)) Y_X9_isWord V_X9_isWord m_X9_193 (Or.inl ⟨_, _, _, _, b_m.1, rfl⟩) ⟨⟨rfl, rfl⟩, ⟨(Nat.le_of_ble_eq_true rfl), (Nat.le_of_ble_eq_true rfl)⟩, ⟨(Nat.le_of_ble_eq_true rfl), (Nat.le_of_ble_eq_true rfl)⟩⟩ rfl rfl (Nat.le_of_ble_eq_true rfl) dX9_orderHere_16) (fun r hh n1 hpp => ?_)
    obtain ⟨rfl, bo_y3, hu⟩ := hpp
    cases hu
    refine rx_if_eq C dX9_orderHere_19 24 (by decide) (fun c4 => ?_) (fun c4 => ?_)
    · rw [if_pos c4] at hF
      refine rx_aload_n C dX9_orderHere_24 0 rfl ?_
      refine rx_ldcSw (t := 20) C (List.mem_of_getElem? (i := 26) rfl) dX9_orderHere_25 ?_
      replace hF := rx_biE hF; obtain ⟨y5, e_y5, hF⟩ := hF
      refine rx_ci (rx_rV C (w_X9_isWord e_y5 b_m (by decide)) Y_X9_isWord V_X9_isWord m_X9_193 (Or.inl ⟨_, _, _, _, b_m.1, rfl⟩) ⟨⟨rfl, rfl⟩, ⟨(Nat.le_of_ble_eq_true rfl), (Nat.le_of_ble_eq_true rfl)⟩, ⟨(Nat.le_of_ble_eq_true rfl), (Nat.le_of_ble_eq_true rfl)⟩⟩ rfl rfl (Nat.le_of_ble_eq_true rfl) dX9_orderHere_28) (fun r hh n1 hpp => ?_)
      obtain ⟨rfl, bo_y5, hu⟩ := hpp
      cases hu
      refine rx_if_eq C dX9_orderHere_31 36 (by decide) (fun c6 => ?_) (fun c6 => ?_)
      · rw [if_pos c6] at hF
        refine rx_aload_n C dX9_orderHere_36 0 rfl ?_
        refine rx_ldcSw (t := 21) C (List.mem_of_getElem? (i := 27) rfl) dX9_orderHere_37 ?_
        replace hF := rx_biE hF; obtain ⟨y7, e_y7, hF⟩ := hF
        refine rx_ci (rx_rV C (w_X9_isWord e_y7 b_m (by decide)) Y_X9_isWord V_X9_isWord m_X9_193 (Or.inl ⟨_, _, _, _, b_m.1, rfl⟩) ⟨⟨rfl, rfl⟩, ⟨(Nat.le_of_ble_eq_true rfl), (Nat.le_of_ble_eq_true rfl)⟩, ⟨(Nat.le_of_ble_eq_true rfl), (Nat.le_of_ble_eq_true rfl)⟩⟩ rfl rfl (Nat.le_of_ble_eq_true rfl) dX9_orderHere_40) (fun r hh n1 hpp => ?_)
        obtain ⟨rfl, bo_y7, hu⟩ := hpp
        cases hu
        refine rx_if_eq C dX9_orderHere_43 48 (by decide) (fun c8 => ?_) (fun c8 => ?_)
        · rw [if_pos c8] at hF
          refine rx_aload_n C dX9_orderHere_48 0 rfl ?_
          refine rx_ldcSw (t := 22) C (List.mem_of_getElem? (i := 28) rfl) dX9_orderHere_49 ?_
          replace hF := rx_biE hF; obtain ⟨y9, e_y9, hF⟩ := hF
          refine rx_ci (rx_rV C (w_X9_isWord e_y9 b_m (by decide)) Y_X9_isWord V_X9_isWord m_X9_193 (Or.inl ⟨_, _, _, _, b_m.1, rfl⟩) ⟨⟨rfl, rfl⟩, ⟨(Nat.le_of_ble_eq_true rfl), (Nat.le_of_ble_eq_true rfl)⟩, ⟨(Nat.le_of_ble_eq_true rfl), (Nat.le_of_ble_eq_true rfl)⟩⟩ rfl rfl (Nat.le_of_ble_eq_true rfl) dX9_orderHere_52) (fun r hh n1 hpp => ?_)
          obtain ⟨rfl, bo_y9, hu⟩ := hpp
          cases hu
          refine rx_if_eq C dX9_orderHere_55 60 (by decide) (fun c10 => ?_) (fun c10 => ?_)
          · rw [if_pos c10] at hF
            refine rx_aload_n C dX9_orderHere_60 0 rfl ?_
            refine rx_ldcSw (t := 23) C (List.mem_of_getElem? (i := 29) rfl) dX9_orderHere_61 ?_
            replace hF := rx_biE hF; obtain ⟨y11, e_y11, hF⟩ := hF
            refine rx_ci (rx_rV C (w_X9_isWord e_y11 b_m (by decide)) Y_X9_isWord V_X9_isWord m_X9_193 (Or.inl ⟨_, _, _, _, b_m.1, rfl⟩) ⟨⟨rfl, rfl⟩, ⟨(Nat.le_of_ble_eq_true rfl), (Nat.le_of_ble_eq_true rfl)⟩, ⟨(Nat.le_of_ble_eq_true rfl), (Nat.le_of_ble_eq_true rfl)⟩⟩ rfl rfl (Nat.le_of_ble_eq_true rfl) dX9_orderHere_64) (fun r hh n1 hpp => ?_)
            obtain ⟨rfl, bo_y11, hu⟩ := hpp
            cases hu
            refine rx_if_eq C dX9_orderHere_67 72 (by decide) (fun c12 => ?_) (fun c12 => ?_)
            · rw [if_pos c12] at hF
              refine rx_aload_n C dX9_orderHere_72 0 rfl ?_
              refine rx_ldcSw (t := 24) C (List.mem_of_getElem? (i := 30) rfl) dX9_orderHere_73 ?_
              replace hF := rx_biE hF; obtain ⟨y13, e_y13, hF⟩ := hF
              refine rx_ci (rx_rV C (w_X9_isWord e_y13 b_m (by decide)) Y_X9_isWord V_X9_isWord m_X9_193 (Or.inl ⟨_, _, _, _, b_m.1, rfl⟩) ⟨⟨rfl, rfl⟩, ⟨(Nat.le_of_ble_eq_true rfl), (Nat.le_of_ble_eq_true rfl)⟩, ⟨(Nat.le_of_ble_eq_true rfl), (Nat.le_of_ble_eq_true rfl)⟩⟩ rfl rfl (Nat.le_of_ble_eq_true rfl) dX9_orderHere_76) (fun r hh n1 hpp => ?_)
              obtain ⟨rfl, bo_y13, hu⟩ := hpp
              cases hu
              refine rx_if_eq C dX9_orderHere_79 85 (by decide) (fun c14 => ?_) (fun c14 => ?_)
              · rw [if_pos c14] at hF
                refine rx_aload_n C dX9_orderHere_85 0 rfl ?_
                refine rx_ldcSw (t := 25) C (List.mem_of_getElem? (i := 31) rfl) dX9_orderHere_86 ?_
                replace hF := rx_biE hF; obtain ⟨y15, e_y15, hF⟩ := hF
                refine rx_ci (rx_rV C (w_X9_isWord e_y15 b_m (by decide)) Y_X9_isWord V_X9_isWord m_X9_193 (Or.inl ⟨_, _, _, _, b_m.1, rfl⟩) ⟨⟨rfl, rfl⟩, ⟨(Nat.le_of_ble_eq_true rfl), (Nat.le_of_ble_eq_true rfl)⟩, ⟨(Nat.le_of_ble_eq_true rfl), (Nat.le_of_ble_eq_true rfl)⟩⟩ rfl rfl (Nat.le_of_ble_eq_true rfl) dX9_orderHere_89) (fun r hh n1 hpp => ?_)
                obtain ⟨rfl, bo_y15, hu⟩ := hpp
                cases hu
                refine rx_if_eq C dX9_orderHere_92 98 (by decide) (fun c16 => ?_) (fun c16 => ?_)
                · rw [if_pos c16] at hF
                  refine rx_aload_n C dX9_orderHere_98 0 rfl ?_
                  refine rx_ldcSw (t := 26) C (List.mem_of_getElem? (i := 32) rfl) dX9_orderHere_99 ?_
                  replace hF := rx_biE hF; obtain ⟨y17, e_y17, hF⟩ := hF
                  refine rx_ci (rx_rV C (w_X9_isWord e_y17 b_m (by decide)) Y_X9_isWord V_X9_isWord m_X9_193 (Or.inl ⟨_, _, _, _, b_m.1, rfl⟩) ⟨⟨rfl, rfl⟩, ⟨(Nat.le_of_ble_eq_true rfl), (Nat.le_of_ble_eq_true rfl)⟩, ⟨(Nat.le_of_ble_eq_true rfl), (Nat.le_of_ble_eq_true rfl)⟩⟩ rfl rfl (Nat.le_of_ble_eq_true rfl) dX9_orderHere_102) (fun r hh n1 hpp => ?_)
                  obtain ⟨rfl, bo_y17, hu⟩ := hpp
                  cases hu
                  refine rx_if_eq C dX9_orderHere_105 113 (by decide) (fun c18 => ?_) (fun c18 => ?_)
                  · rw [if_pos c18] at hF
                    refine rx_iconst C dX9_orderHere_113 (-1 : Int32) (by decide) ?_
                    obtain rfl := Option.some.inj hF
                    exact rx_iret C dX9_orderHere_114 (Nat.le_refl _) (Nat.le_refl _) ⟨rfl, rfl⟩
                  · rw [if_neg c18] at hF
                    refine rx_bipush C dX9_orderHere_108 (8 : Int32) (by decide) ?_
                    refine rx_goto C dX9_orderHere_110 114 (by decide) ?_
                    obtain rfl := Option.some.inj hF
                    exact rx_iret C dX9_orderHere_114 (Nat.le_refl _) (Nat.le_refl _) ⟨rfl, rfl⟩
                · rw [if_neg c16] at hF
                  refine rx_bipush C dX9_orderHere_95 (7 : Int32) (by decide) ?_
                  obtain rfl := Option.some.inj hF
                  exact rx_iret C dX9_orderHere_97 (Nat.le_refl _) (Nat.le_refl _) ⟨rfl, rfl⟩
              · rw [if_neg c14] at hF
                refine rx_bipush C dX9_orderHere_82 (6 : Int32) (by decide) ?_
                obtain rfl := Option.some.inj hF
                exact rx_iret C dX9_orderHere_84 (Nat.le_refl _) (Nat.le_refl _) ⟨rfl, rfl⟩
            · rw [if_neg c12] at hF
              refine rx_iconst C dX9_orderHere_70 (5 : Int32) (by decide) ?_
              obtain rfl := Option.some.inj hF
              exact rx_iret C dX9_orderHere_71 (Nat.le_refl _) (Nat.le_refl _) ⟨rfl, rfl⟩
          · rw [if_neg c10] at hF
            refine rx_iconst C dX9_orderHere_58 (4 : Int32) (by decide) ?_
            obtain rfl := Option.some.inj hF
            exact rx_iret C dX9_orderHere_59 (Nat.le_refl _) (Nat.le_refl _) ⟨rfl, rfl⟩
        · rw [if_neg c8] at hF
          refine rx_iconst C dX9_orderHere_46 (3 : Int32) (by decide) ?_
          obtain rfl := Option.some.inj hF
          exact rx_iret C dX9_orderHere_47 (Nat.le_refl _) (Nat.le_refl _) ⟨rfl, rfl⟩
      · rw [if_neg c6] at hF
        refine rx_iconst C dX9_orderHere_34 (2 : Int32) (by decide) ?_
        obtain rfl := Option.some.inj hF
        exact rx_iret C dX9_orderHere_35 (Nat.le_refl _) (Nat.le_refl _) ⟨rfl, rfl⟩
    · rw [if_neg c4] at hF
      refine rx_iconst C dX9_orderHere_22 (1 : Int32) (by decide) ?_
      obtain rfl := Option.some.inj hF
      exact rx_iret C dX9_orderHere_23 (Nat.le_refl _) (Nat.le_refl _) ⟨rfl, rfl⟩
  · rw [if_neg c2] at hF
    refine rx_iconst C dX9_orderHere_10 (0 : Int32) (by decide) ?_
    obtain rfl := Option.some.inj hF
    exact rx_iret C dX9_orderHere_11 (Nat.le_refl _) (Nat.le_refl _) ⟨rfl, rfl⟩
def F_X9_second (om : ob) (x1 : Int32) : Option (Int32 × ob) := if x1 = (0 : Int32) then ((F_X9_number0 om ((1 : Int32)) ((999 : Int32))).bind fun y2 => some (y2.1, y2.2)) else if x1 = (1 : Int32) then ((F_X9_number0 om ((1 : Int32)) ((999 : Int32))).bind fun y4 => some (y4.1, y4.2)) else if x1 = (2 : Int32) then ((F_X9_number0 om ((0 : Int32)) ((9 : Int32))).bind fun y6 => some (y6.1, y6.2)) else if x1 = (3 : Int32) then ((F_X9_number0 om ((0 : Int32)) ((9 : Int32))).bind fun y8 => some (y8.1, y8.2)) else if x1 = (4 : Int32) then ((F_X9_number0 om ((0 : Int32)) ((9 : Int32))).bind fun y11 => some (y11.1, y11.2)) else if x1 = (5 : Int32) then ((F_X9_number0 om ((0 : Int32)) ((99 : Int32))).bind fun y13 => some (y13.1, y13.2)) else if x1 = (7 : Int32) then ((F_X9_number0 om ((0 : Int32)) ((40 : Int32))).bind fun y15 => some (y15.1, y15.2)) else (some ((0 : Int32), om))
set_option maxRecDepth 100000 in
set_option maxHeartbeats 4000000 in
theorem w_X9_second {m : Nat} {om : ob} {x1 : Int32} {y : Int32 × ob} (hF : F_X9_second om x1 = some y) (b_m : bM k m om h) : Met l yX9_second (rx_ws yX9_second cX9_second 2 (some .int)) (rx_rm 4 84) (va_Pc [.ref m, .int x1] (rx_G G k h n)) (va_Qi (fun r u => y.1 = r ∧ u.2 = n ∧ bM k m y.2 u.1 ∧ rx_fr [(m, 9)] h u.1) (rx_B G k) (rx_A k)) 0 0 (rx_A k) := by
  refine rx_start [(0, .ref m), (1, .int x1)] rfl (Nat.le_of_ble_eq_true rfl) (by decide) rfl (fun P9 E9 S9 M9 A9 B9 me9 c9 C hname => ?_)
  unfold F_X9_second at hF
  have fr : rx_fr [(m, 9)] h h := rx_fr0
  refine rx_iload_n C dX9_second_0 1 rfl ?_
  by_cases c1 : x1 = (0 : Int32)
  · rw [if_pos c1] at hF
    refine rx_tableIn C dX9_second_1 (by rw [c1]; decide) (by rw [c1]; decide) (by rw [c1]; rfl) 48 (by decide) ?_
    refine rx_aload_n C dX9_second_48 0 rfl ?_
    refine rx_iconst C dX9_second_49 (1 : Int32) (by decide) ?_
    refine rx_sipush C dX9_second_50 (999 : Int32) (by decide) ?_
    replace hF := rx_biE hF; obtain ⟨y2, e_y2, hF⟩ := hF
    refine rx_ci (rx_rV C (w_X9_number0 e_y2 b_m) Y_X9_number0 V_X9_number0 m_X9_214 (Or.inl ⟨_, _, _, _, b_m.1, rfl⟩) ⟨⟨rfl, rfl⟩, ⟨(Nat.le_of_ble_eq_true rfl), (Nat.le_of_ble_eq_true rfl)⟩, ⟨(Nat.le_of_ble_eq_true rfl), (Nat.le_of_ble_eq_true rfl)⟩⟩ rfl rfl (Nat.le_of_ble_eq_true rfl) dX9_second_53) (fun r hh n1 hpp => ?_)
    obtain ⟨rfl, hn, c_m, ff⟩ := hpp
    replace hn : n = n1 := Eq.symm hn
    subst hn
    replace b_m : bM k m y2.2 hh := c_m
    clear c_m
    replace ff : rx_fr [(m, 9)] _ hh := ff
    replace fr := rx_frt fr ff (fun a ha => ⟨ha.1, trivial⟩)
    obtain rfl := Option.some.inj hF
    exact rx_iret C dX9_second_56 (Nat.le_refl _) (Nat.le_refl _) ⟨rfl, rfl, b_m, fr⟩
  rw [if_neg c1] at hF
  by_cases c3 : x1 = (1 : Int32)
  · rw [if_pos c3] at hF
    refine rx_tableIn C dX9_second_1 (by rw [c3]; decide) (by rw [c3]; decide) (by rw [c3]; rfl) 48 (by decide) ?_
    refine rx_aload_n C dX9_second_48 0 rfl ?_
    refine rx_iconst C dX9_second_49 (1 : Int32) (by decide) ?_
    refine rx_sipush C dX9_second_50 (999 : Int32) (by decide) ?_
    replace hF := rx_biE hF; obtain ⟨y4, e_y4, hF⟩ := hF
    refine rx_ci (rx_rV C (w_X9_number0 e_y4 b_m) Y_X9_number0 V_X9_number0 m_X9_214 (Or.inl ⟨_, _, _, _, b_m.1, rfl⟩) ⟨⟨rfl, rfl⟩, ⟨(Nat.le_of_ble_eq_true rfl), (Nat.le_of_ble_eq_true rfl)⟩, ⟨(Nat.le_of_ble_eq_true rfl), (Nat.le_of_ble_eq_true rfl)⟩⟩ rfl rfl (Nat.le_of_ble_eq_true rfl) dX9_second_53) (fun r hh n1 hpp => ?_)
    obtain ⟨rfl, hn, c_m, ff⟩ := hpp
    replace hn : n = n1 := Eq.symm hn
    subst hn
    replace b_m : bM k m y4.2 hh := c_m
    clear c_m
    replace ff : rx_fr [(m, 9)] _ hh := ff
    replace fr := rx_frt fr ff (fun a ha => ⟨ha.1, trivial⟩)
    obtain rfl := Option.some.inj hF
    exact rx_iret C dX9_second_56 (Nat.le_refl _) (Nat.le_refl _) ⟨rfl, rfl, b_m, fr⟩
  rw [if_neg c3] at hF
  by_cases c5 : x1 = (2 : Int32)
  · rw [if_pos c5] at hF
    refine rx_tableIn C dX9_second_1 (by rw [c5]; decide) (by rw [c5]; decide) (by rw [c5]; rfl) 57 (by decide) ?_
    refine rx_aload_n C dX9_second_57 0 rfl ?_
    refine rx_iconst C dX9_second_58 (0 : Int32) (by decide) ?_
    refine rx_bipush C dX9_second_59 (9 : Int32) (by decide) ?_
    replace hF := rx_biE hF; obtain ⟨y6, e_y6, hF⟩ := hF
    refine rx_ci (rx_rV C (w_X9_number0 e_y6 b_m) Y_X9_number0 V_X9_number0 m_X9_214 (Or.inl ⟨_, _, _, _, b_m.1, rfl⟩) ⟨⟨rfl, rfl⟩, ⟨(Nat.le_of_ble_eq_true rfl), (Nat.le_of_ble_eq_true rfl)⟩, ⟨(Nat.le_of_ble_eq_true rfl), (Nat.le_of_ble_eq_true rfl)⟩⟩ rfl rfl (Nat.le_of_ble_eq_true rfl) dX9_second_61) (fun r hh n1 hpp => ?_)
    obtain ⟨rfl, hn, c_m, ff⟩ := hpp
    replace hn : n = n1 := Eq.symm hn
    subst hn
    replace b_m : bM k m y6.2 hh := c_m
    clear c_m
    replace ff : rx_fr [(m, 9)] _ hh := ff
    replace fr := rx_frt fr ff (fun a ha => ⟨ha.1, trivial⟩)
    obtain rfl := Option.some.inj hF
    exact rx_iret C dX9_second_64 (Nat.le_refl _) (Nat.le_refl _) ⟨rfl, rfl, b_m, fr⟩
  rw [if_neg c5] at hF
  by_cases c7 : x1 = (3 : Int32)
  · rw [if_pos c7] at hF
    refine rx_tableIn C dX9_second_1 (by rw [c7]; decide) (by rw [c7]; decide) (by rw [c7]; rfl) 57 (by decide) ?_
    refine rx_aload_n C dX9_second_57 0 rfl ?_
    refine rx_iconst C dX9_second_58 (0 : Int32) (by decide) ?_
    refine rx_bipush C dX9_second_59 (9 : Int32) (by decide) ?_
    replace hF := rx_biE hF; obtain ⟨y8, e_y8, hF⟩ := hF
    refine rx_ci (rx_rV C (w_X9_number0 e_y8 b_m) Y_X9_number0 V_X9_number0 m_X9_214 (Or.inl ⟨_, _, _, _, b_m.1, rfl⟩) ⟨⟨rfl, rfl⟩, ⟨(Nat.le_of_ble_eq_true rfl), (Nat.le_of_ble_eq_true rfl)⟩, ⟨(Nat.le_of_ble_eq_true rfl), (Nat.le_of_ble_eq_true rfl)⟩⟩ rfl rfl (Nat.le_of_ble_eq_true rfl) dX9_second_61) (fun r hh n1 hpp => ?_)
    obtain ⟨rfl, hn, c_m, ff⟩ := hpp
    replace hn : n = n1 := Eq.symm hn
    subst hn
    replace b_m : bM k m y8.2 hh := c_m
    clear c_m
    replace ff : rx_fr [(m, 9)] _ hh := ff
    replace fr := rx_frt fr ff (fun a ha => ⟨ha.1, trivial⟩)
    obtain rfl := Option.some.inj hF
    exact rx_iret C dX9_second_64 (Nat.le_refl _) (Nat.le_refl _) ⟨rfl, rfl, b_m, fr⟩
  rw [if_neg c7] at hF
  by_cases c10 : x1 = (4 : Int32)
  · rw [if_pos c10] at hF
    refine rx_tableIn C dX9_second_1 (by rw [c10]; decide) (by rw [c10]; decide) (by rw [c10]; rfl) 57 (by decide) ?_
    refine rx_aload_n C dX9_second_57 0 rfl ?_
    refine rx_iconst C dX9_second_58 (0 : Int32) (by decide) ?_
    refine rx_bipush C dX9_second_59 (9 : Int32) (by decide) ?_
    replace hF := rx_biE hF; obtain ⟨y11, e_y11, hF⟩ := hF
    refine rx_ci (rx_rV C (w_X9_number0 e_y11 b_m) Y_X9_number0 V_X9_number0 m_X9_214 (Or.inl ⟨_, _, _, _, b_m.1, rfl⟩) ⟨⟨rfl, rfl⟩, ⟨(Nat.le_of_ble_eq_true rfl), (Nat.le_of_ble_eq_true rfl)⟩, ⟨(Nat.le_of_ble_eq_true rfl), (Nat.le_of_ble_eq_true rfl)⟩⟩ rfl rfl (Nat.le_of_ble_eq_true rfl) dX9_second_61) (fun r hh n1 hpp => ?_)
    obtain ⟨rfl, hn, c_m, ff⟩ := hpp
    replace hn : n = n1 := Eq.symm hn
    subst hn
    replace b_m : bM k m y11.2 hh := c_m
    clear c_m
    replace ff : rx_fr [(m, 9)] _ hh := ff
    replace fr := rx_frt fr ff (fun a ha => ⟨ha.1, trivial⟩)
    obtain rfl := Option.some.inj hF
    exact rx_iret C dX9_second_64 (Nat.le_refl _) (Nat.le_refl _) ⟨rfl, rfl, b_m, fr⟩
  rw [if_neg c10] at hF
  by_cases c12 : x1 = (5 : Int32)
  · rw [if_pos c12] at hF
    refine rx_tableIn C dX9_second_1 (by rw [c12]; decide) (by rw [c12]; decide) (by rw [c12]; rfl) 65 (by decide) ?_
    refine rx_aload_n C dX9_second_65 0 rfl ?_
    refine rx_iconst C dX9_second_66 (0 : Int32) (by decide) ?_
    refine rx_bipush C dX9_second_67 (99 : Int32) (by decide) ?_
    replace hF := rx_biE hF; obtain ⟨y13, e_y13, hF⟩ := hF
    refine rx_ci (rx_rV C (w_X9_number0 e_y13 b_m) Y_X9_number0 V_X9_number0 m_X9_214 (Or.inl ⟨_, _, _, _, b_m.1, rfl⟩) ⟨⟨rfl, rfl⟩, ⟨(Nat.le_of_ble_eq_true rfl), (Nat.le_of_ble_eq_true rfl)⟩, ⟨(Nat.le_of_ble_eq_true rfl), (Nat.le_of_ble_eq_true rfl)⟩⟩ rfl rfl (Nat.le_of_ble_eq_true rfl) dX9_second_69) (fun r hh n1 hpp => ?_)
    obtain ⟨rfl, hn, c_m, ff⟩ := hpp
    replace hn : n = n1 := Eq.symm hn
    subst hn
    replace b_m : bM k m y13.2 hh := c_m
    clear c_m
    replace ff : rx_fr [(m, 9)] _ hh := ff
    replace fr := rx_frt fr ff (fun a ha => ⟨ha.1, trivial⟩)
    obtain rfl := Option.some.inj hF
    exact rx_iret C dX9_second_72 (Nat.le_refl _) (Nat.le_refl _) ⟨rfl, rfl, b_m, fr⟩
  rw [if_neg c12] at hF
  by_cases c14 : x1 = (7 : Int32)
  · rw [if_pos c14] at hF
    refine rx_tableIn C dX9_second_1 (by rw [c14]; decide) (by rw [c14]; decide) (by rw [c14]; rfl) 73 (by decide) ?_
    refine rx_aload_n C dX9_second_73 0 rfl ?_
    refine rx_iconst C dX9_second_74 (0 : Int32) (by decide) ?_
    refine rx_bipush C dX9_second_75 (40 : Int32) (by decide) ?_
    replace hF := rx_biE hF; obtain ⟨y15, e_y15, hF⟩ := hF
    refine rx_ci (rx_rV C (w_X9_number0 e_y15 b_m) Y_X9_number0 V_X9_number0 m_X9_214 (Or.inl ⟨_, _, _, _, b_m.1, rfl⟩) ⟨⟨rfl, rfl⟩, ⟨(Nat.le_of_ble_eq_true rfl), (Nat.le_of_ble_eq_true rfl)⟩, ⟨(Nat.le_of_ble_eq_true rfl), (Nat.le_of_ble_eq_true rfl)⟩⟩ rfl rfl (Nat.le_of_ble_eq_true rfl) dX9_second_77) (fun r hh n1 hpp => ?_)
    obtain ⟨rfl, hn, c_m, ff⟩ := hpp
    replace hn : n = n1 := Eq.symm hn
    subst hn
    replace b_m : bM k m y15.2 hh := c_m
    clear c_m
    replace ff : rx_fr [(m, 9)] _ hh := ff
    replace fr := rx_frt fr ff (fun a ha => ⟨ha.1, trivial⟩)
    obtain rfl := Option.some.inj hF
    exact rx_iret C dX9_second_80 (Nat.le_refl _) (Nat.le_refl _) ⟨rfl, rfl, b_m, fr⟩
  rw [if_neg c14] at hF
  refine rx_tableDef C dX9_second_1 rfl (fun off h1 h2 h3 => by
    have q0 := rx_neI c1; have q1 := rx_neI c3; have q2 := rx_neI c5; have q3 := rx_neI c7; have q4 := rx_neI c10; have q5 := rx_neI c12; have q7 := rx_neI c14; have r0 : (0 : Int32).toInt = 0 := rfl; have r1 : (1 : Int32).toInt = 1 := rfl; have r2 : (2 : Int32).toInt = 2 := rfl; have r3 : (3 : Int32).toInt = 3 := rfl; have r4 : (4 : Int32).toInt = 4 := rfl; have r5 : (5 : Int32).toInt = 5 := rfl; have r7 : (7 : Int32).toInt = 7 := rfl
    have h4 : x1.toInt = 6 := by omega
    rcases h4 with h4 <;> rw [h4] at h3 <;> exact (Option.some.inj (show (some (80 : Int)) = some off from h3)).symm) 81 (by decide) ?_
  refine rx_iconst C dX9_second_81 (0 : Int32) (by decide) ?_
  obtain rfl := Option.some.inj hF
  exact rx_iret C dX9_second_82 (Nat.le_refl _) (Nat.le_refl _) ⟨rfl, rfl, b_m, fr⟩
def F_X9_readsOrder (om : ob) : Option (ob) := (F_X9_orderHere om).bind fun y1 => (if y1 = (-1 : Int32) then ((F_X9_errs om ((1 : Int32))).bind fun y31 => some y31) else (some om)).bind fun zj2 => (if (zj2.1 18) = (20 : Int32) then ((F_X9_errs zj2 ((3 : Int32))).bind fun y29 => some y29) else (some zj2)).bind fun zj4 => if (zj4.1 15) = (0 : Int32) then ((F_X9_next zj4).bind fun y7 => rx_le (((3 : Int32) * (y7.1 18))) fun v8 => (rx_ast 60 (y7.2 17) v8 y1).bind fun f9 => rx_le (y7.1, va_up y7.2 17 f9) fun o_m_10 => if y1 = (8 : Int32) then ((F_X9_number0 o_m_10 ((1 : Int32)) ((50 : Int32))).bind fun y20 => (rx_ast 60 (y20.2.2 17) ((v8 + (1 : Int32))) y20.1).bind fun f21 => rx_le (y20.2.1, va_up y20.2.2 17 f21) fun o_m_22 => (F_X9_second o_m_22 y1).bind fun y23 => (rx_ast 60 (y23.2.2 17) ((v8 + (2 : Int32))) y23.1).bind fun f24 => rx_le (y23.2.1, va_up y23.2.2 17 f24) fun o_m_25 => rx_le (upd o_m_25.1 18 (((o_m_25.1 18) + (1 : Int32))), o_m_25.2) fun o_m_26 => (F_X9_semicolon o_m_26).bind fun y27 => some y27) else ((F_X9_number0 o_m_10 ((0 : Int32)) ((9 : Int32))).bind fun y12 => (rx_ast 60 (y12.2.2 17) ((v8 + (1 : Int32))) y12.1).bind fun f13 => rx_le (y12.2.1, va_up y12.2.2 17 f13) fun o_m_14 => (F_X9_second o_m_14 y1).bind fun y15 => (rx_ast 60 (y15.2.2 17) ((v8 + (2 : Int32))) y15.1).bind fun f16 => rx_le (y15.2.1, va_up y15.2.2 17 f16) fun o_m_17 => rx_le (upd o_m_17.1 18 (((o_m_17.1 18) + (1 : Int32))), o_m_17.2) fun o_m_18 => (F_X9_semicolon o_m_18).bind fun y19 => some y19)) else (some zj4)
set_option maxRecDepth 100000 in
set_option maxHeartbeats 4000000 in
theorem w_X9_readsOrder {m : Nat} {om : ob} {y : ob} (hF : F_X9_readsOrder om = some y) (b_m : bM k m om h) : Met l yX9_readsOrder (rx_ws yX9_readsOrder cX9_readsOrder 3 none) (rx_rm 6 127) (va_Pc [.ref m] (rx_G G k h n)) (va_Qv (fun u => u.2 = n ∧ bM k m y u.1 ∧ rx_fr [(m, 9)] h u.1) (rx_B G k) (rx_A k)) 0 0 (rx_A k) := by
  refine rx_start [(0, .ref m)] rfl (Nat.le_of_ble_eq_true rfl) (by decide) rfl (fun P9 E9 S9 M9 A9 B9 me9 c9 C hname => ?_)
  unfold F_X9_readsOrder at hF
  have fr : rx_fr [(m, 9)] h h := rx_fr0
  refine rx_aload_n C dX9_readsOrder_0 0 rfl ?_
  replace hF := rx_biE hF; obtain ⟨y1, e_y1, hF⟩ := hF
  refine rx_ci (rx_rV C (w_X9_orderHere e_y1 b_m) Y_X9_orderHere V_X9_orderHere m_X9_337 (Or.inl ⟨_, _, _, _, b_m.1, rfl⟩) ⟨⟨rfl, rfl⟩, ⟨(Nat.le_of_ble_eq_true rfl), (Nat.le_of_ble_eq_true rfl)⟩, ⟨(Nat.le_of_ble_eq_true rfl), (Nat.le_of_ble_eq_true rfl)⟩⟩ rfl rfl (Nat.le_of_ble_eq_true rfl) dX9_readsOrder_1) (fun r hh n1 hpp => ?_)
  obtain ⟨rfl, hu⟩ := hpp
  cases hu
  refine rx_istore_n C dX9_readsOrder_4 (by decide) [(1, .int y1), (0, .ref m)] rfl ?_
  refine rx_iload_n C dX9_readsOrder_5 0 rfl ?_
  refine rx_iconst C dX9_readsOrder_6 (-1 : Int32) (by decide) ?_
  replace hF := rx_biE hF; obtain ⟨zj2, e_zj2, hF⟩ := hF
  have KJ3 : ∀ hh : hp, bM k m zj2 hh → rx_fr [(m, 9)] h hh → rx_W P9 l E9 (rx_rm 6 127) S9 M9 A9 B9 me9 c9 (MQ B9 (va_Qv (fun u => u.2 = n ∧ bM k m y u.1 ∧ rx_fr [(m, 9)] h u.1) (rx_B G k) (rx_A k)) A9 S9 0 0 (rx_A k)) G k 3 0 0 hh n 15 [(0, .ref m), (1, .int y1)] [] := by
    intro hh b_m fr
    refine rx_aload_n C dX9_readsOrder_15 0 rfl ?_
    refine rx_getf C f_X9_340 dX9_readsOrder_16 b_m.1 rfl ?_
    refine rx_bipush C dX9_readsOrder_19 (20 : Int32) (by decide) ?_
    replace hF := rx_biE hF; obtain ⟨zj4, e_zj4, hF⟩ := hF
    have KJ5 : ∀ hh : hp, bM k m zj4 hh → rx_fr [(m, 9)] h hh → rx_W P9 l E9 (rx_rm 6 127) S9 M9 A9 B9 me9 c9 (MQ B9 (va_Qv (fun u => u.2 = n ∧ bM k m y u.1 ∧ rx_fr [(m, 9)] h u.1) (rx_B G k) (rx_A k)) A9 S9 0 0 (rx_A k)) G k 3 0 0 hh n 29 [(0, .ref m), (1, .int y1)] [] := by
      intro hh b_m fr
      refine rx_aload_n C dX9_readsOrder_29 0 rfl ?_
      refine rx_getf C f_X9_160 dX9_readsOrder_30 b_m.1 rfl ?_
      refine rx_if_eq C dX9_readsOrder_33 37 (by decide) (fun c6 => ?_) (fun c6 => ?_)
      · rw [if_pos c6] at hF
        refine rx_aload_n C dX9_readsOrder_37 0 rfl ?_
        replace hF := rx_biE hF; obtain ⟨y7, e_y7, hF⟩ := hF
        refine rx_cv (rx_rV C (w_X9_next e_y7 b_m) Y_X9_next V_X9_next m_X9_190 (Or.inl ⟨_, _, _, _, b_m.1, rfl⟩) ⟨⟨rfl, rfl⟩, ⟨(Nat.le_of_ble_eq_true rfl), (Nat.le_of_ble_eq_true rfl)⟩, ⟨(Nat.le_of_ble_eq_true rfl), (Nat.le_of_ble_eq_true rfl)⟩⟩ rfl rfl (Nat.le_of_ble_eq_true rfl) dX9_readsOrder_38) (fun hh n1 hpp => ?_)
        obtain ⟨hn, c_m, ff⟩ := hpp
        replace hn : n = n1 := Eq.symm hn
        subst hn
        replace b_m : bM k m y7 hh := c_m
        clear c_m
        replace ff : rx_fr [(m, 9)] _ hh := ff
        replace fr := rx_frt fr ff (fun a ha => ⟨ha.1, trivial⟩)
        refine rx_iconst C dX9_readsOrder_41 (3 : Int32) (by decide) ?_
        refine rx_aload_n C dX9_readsOrder_42 0 rfl ?_
        refine rx_getf C f_X9_340 dX9_readsOrder_43 b_m.1 rfl ?_
        refine rx_imul C dX9_readsOrder_46 ?_
        replace hF := rx_leE hF; obtain ⟨v8, e_v8, hF⟩ := hF
        rw [e_v8]
        refine rx_istore_n C dX9_readsOrder_47 (by decide) [(2, .int v8), (0, .ref m), (1, .int y1)] rfl ?_
        refine rx_aload_n C dX9_readsOrder_48 1 rfl ?_
        refine rx_getf C f_X9_35 dX9_readsOrder_49 b_m.1 rfl ?_
        refine rx_iload_n C dX9_readsOrder_52 0 rfl ?_
        refine rx_iload_n C dX9_readsOrder_53 2 rfl ?_
        replace hF := rx_biE hF; obtain ⟨f9, e_f9, hF⟩ := hF
        replace hF := rx_leE hF; obtain ⟨o_m_10, e_o_m_10, hF⟩ := hF
        refine rx_aM17 C dX9_readsOrder_54 b_m e_f9 e_o_m_10 (fun hh c_m ff => ?_)
        replace b_m := c_m
        replace fr := rx_frt fr ff (fun a ha => ⟨ha.1, trivial⟩)
        refine rx_aload_n C dX9_readsOrder_55 1 rfl ?_
        refine rx_getf C f_X9_35 dX9_readsOrder_56 b_m.1 rfl ?_
        refine rx_iload_n C dX9_readsOrder_59 0 rfl ?_
        refine rx_iconst C dX9_readsOrder_60 (1 : Int32) (by decide) ?_
        refine rx_iadd C dX9_readsOrder_61 ?_
        refine rx_iload_n C dX9_readsOrder_62 2 rfl ?_
        refine rx_bipush C dX9_readsOrder_63 (8 : Int32) (by decide) ?_
        refine rx_icmp_ne C dX9_readsOrder_65 78 (by decide) (fun c11 => ?_) (fun c11 => ?_)
        · rw [if_neg c11] at hF
          refine rx_aload_n C dX9_readsOrder_78 1 rfl ?_
          refine rx_iconst C dX9_readsOrder_79 (0 : Int32) (by decide) ?_
          refine rx_bipush C dX9_readsOrder_80 (9 : Int32) (by decide) ?_
          replace hF := rx_biE hF; obtain ⟨y12, e_y12, hF⟩ := hF
          refine rx_ci (rx_rV C (w_X9_number0 e_y12 b_m) Y_X9_number0 V_X9_number0 m_X9_214 (Or.inl ⟨_, _, _, _, b_m.1, rfl⟩) ⟨⟨rfl, rfl⟩, ⟨(Nat.le_of_ble_eq_true rfl), (Nat.le_of_ble_eq_true rfl)⟩, ⟨(Nat.le_of_ble_eq_true rfl), (Nat.le_of_ble_eq_true rfl)⟩⟩ rfl rfl (Nat.le_of_ble_eq_true rfl) dX9_readsOrder_82) (fun r hh n1 hpp => ?_)
          obtain ⟨rfl, hn, c_m, ff⟩ := hpp
          replace hn : n = n1 := Eq.symm hn
          subst hn
          replace b_m : bM k m y12.2 hh := c_m
          clear c_m
          replace ff : rx_fr [(m, 9)] _ hh := ff
          replace fr := rx_frt fr ff (fun a ha => ⟨ha.1, trivial⟩)
          replace hF := rx_biE hF; obtain ⟨f13, e_f13, hF⟩ := hF
          replace hF := rx_leE hF; obtain ⟨o_m_14, e_o_m_14, hF⟩ := hF
          refine rx_aM17 C dX9_readsOrder_85 b_m e_f13 e_o_m_14 (fun hh c_m ff => ?_)
          replace b_m := c_m
          replace fr := rx_frt fr ff (fun a ha => ⟨ha.1, trivial⟩)
          refine rx_aload_n C dX9_readsOrder_86 1 rfl ?_
          refine rx_getf C f_X9_35 dX9_readsOrder_87 b_m.1 rfl ?_
          refine rx_iload_n C dX9_readsOrder_90 0 rfl ?_
          refine rx_iconst C dX9_readsOrder_91 (2 : Int32) (by decide) ?_
          refine rx_iadd C dX9_readsOrder_92 ?_
          refine rx_aload_n C dX9_readsOrder_93 1 rfl ?_
          refine rx_iload_n C dX9_readsOrder_94 2 rfl ?_
          replace hF := rx_biE hF; obtain ⟨y15, e_y15, hF⟩ := hF
          refine rx_ci (rx_rV C (w_X9_second e_y15 b_m) Y_X9_second V_X9_second m_X9_343 (Or.inl ⟨_, _, _, _, b_m.1, rfl⟩) ⟨⟨rfl, rfl⟩, ⟨(Nat.le_of_ble_eq_true rfl), (Nat.le_of_ble_eq_true rfl)⟩, ⟨(Nat.le_of_ble_eq_true rfl), (Nat.le_of_ble_eq_true rfl)⟩⟩ rfl rfl (Nat.le_of_ble_eq_true rfl) dX9_readsOrder_95) (fun r hh n1 hpp => ?_)
          obtain ⟨rfl, hn, c_m, ff⟩ := hpp
          replace hn : n = n1 := Eq.symm hn
          subst hn
          replace b_m : bM k m y15.2 hh := c_m
          clear c_m
          replace ff : rx_fr [(m, 9)] _ hh := ff
          replace fr := rx_frt fr ff (fun a ha => ⟨ha.1, trivial⟩)
          replace hF := rx_biE hF; obtain ⟨f16, e_f16, hF⟩ := hF
          replace hF := rx_leE hF; obtain ⟨o_m_17, e_o_m_17, hF⟩ := hF
          refine rx_aM17 C dX9_readsOrder_98 b_m e_f16 e_o_m_17 (fun hh c_m ff => ?_)
          replace b_m := c_m
          replace fr := rx_frt fr ff (fun a ha => ⟨ha.1, trivial⟩)
          refine rx_aload_n C dX9_readsOrder_99 1 rfl ?_
          refine rx_dup C dX9_readsOrder_100 rfl ?_
          refine rx_getf C f_X9_340 dX9_readsOrder_101 b_m.1 rfl ?_
          refine rx_iconst C dX9_readsOrder_104 (1 : Int32) (by decide) ?_
          refine rx_iadd C dX9_readsOrder_105 ?_
          replace hF := rx_leE hF; obtain ⟨o_m_18, e_o_m_18, hF⟩ := hF
          refine rx_pM18 C f_X9_340 dX9_readsOrder_106 b_m e_o_m_18 (fun hh c_m ff => ?_)
          replace b_m := c_m
          replace fr := rx_frt fr ff (fun a ha => ⟨ha.1, trivial⟩)
          refine rx_aload_n C dX9_readsOrder_109 1 rfl ?_
          replace hF := rx_biE hF; obtain ⟨y19, e_y19, hF⟩ := hF
          refine rx_cv (rx_rV C (w_X9_semicolon e_y19 b_m) Y_X9_semicolon V_X9_semicolon m_X9_217 (Or.inl ⟨_, _, _, _, b_m.1, rfl⟩) ⟨⟨rfl, rfl⟩, ⟨(Nat.le_of_ble_eq_true rfl), (Nat.le_of_ble_eq_true rfl)⟩, ⟨(Nat.le_of_ble_eq_true rfl), (Nat.le_of_ble_eq_true rfl)⟩⟩ rfl rfl (Nat.le_of_ble_eq_true rfl) dX9_readsOrder_110) (fun hh n1 hpp => ?_)
          obtain ⟨hn, c_m, ff⟩ := hpp
          replace hn : n = n1 := Eq.symm hn
          subst hn
          replace b_m : bM k m y19 hh := c_m
          clear c_m
          replace ff : rx_fr [(m, 9)] _ hh := ff
          replace fr := rx_frt fr ff (fun a ha => ⟨ha.1, trivial⟩)
          obtain rfl := Option.some.inj hF
          exact rx_vret C dX9_readsOrder_113 (Nat.le_refl _) (Nat.le_refl _) ⟨rfl, b_m, fr⟩
        · rw [if_pos c11] at hF
          refine rx_aload_n C dX9_readsOrder_68 1 rfl ?_
          refine rx_iconst C dX9_readsOrder_69 (1 : Int32) (by decide) ?_
          refine rx_bipush C dX9_readsOrder_70 (50 : Int32) (by decide) ?_
          replace hF := rx_biE hF; obtain ⟨y20, e_y20, hF⟩ := hF
          refine rx_ci (rx_rV C (w_X9_number0 e_y20 b_m) Y_X9_number0 V_X9_number0 m_X9_214 (Or.inl ⟨_, _, _, _, b_m.1, rfl⟩) ⟨⟨rfl, rfl⟩, ⟨(Nat.le_of_ble_eq_true rfl), (Nat.le_of_ble_eq_true rfl)⟩, ⟨(Nat.le_of_ble_eq_true rfl), (Nat.le_of_ble_eq_true rfl)⟩⟩ rfl rfl (Nat.le_of_ble_eq_true rfl) dX9_readsOrder_72) (fun r hh n1 hpp => ?_)
          obtain ⟨rfl, hn, c_m, ff⟩ := hpp
          replace hn : n = n1 := Eq.symm hn
          subst hn
          replace b_m : bM k m y20.2 hh := c_m
          clear c_m
          replace ff : rx_fr [(m, 9)] _ hh := ff
          replace fr := rx_frt fr ff (fun a ha => ⟨ha.1, trivial⟩)
          refine rx_goto C dX9_readsOrder_75 85 (by decide) ?_
          replace hF := rx_biE hF; obtain ⟨f21, e_f21, hF⟩ := hF
          replace hF := rx_leE hF; obtain ⟨o_m_22, e_o_m_22, hF⟩ := hF
          refine rx_aM17 C dX9_readsOrder_85 b_m e_f21 e_o_m_22 (fun hh c_m ff => ?_)
          replace b_m := c_m
          replace fr := rx_frt fr ff (fun a ha => ⟨ha.1, trivial⟩)
          refine rx_aload_n C dX9_readsOrder_86 1 rfl ?_
          refine rx_getf C f_X9_35 dX9_readsOrder_87 b_m.1 rfl ?_
          refine rx_iload_n C dX9_readsOrder_90 0 rfl ?_
          refine rx_iconst C dX9_readsOrder_91 (2 : Int32) (by decide) ?_
          refine rx_iadd C dX9_readsOrder_92 ?_
          refine rx_aload_n C dX9_readsOrder_93 1 rfl ?_
          refine rx_iload_n C dX9_readsOrder_94 2 rfl ?_
          replace hF := rx_biE hF; obtain ⟨y23, e_y23, hF⟩ := hF
          refine rx_ci (rx_rV C (w_X9_second e_y23 b_m) Y_X9_second V_X9_second m_X9_343 (Or.inl ⟨_, _, _, _, b_m.1, rfl⟩) ⟨⟨rfl, rfl⟩, ⟨(Nat.le_of_ble_eq_true rfl), (Nat.le_of_ble_eq_true rfl)⟩, ⟨(Nat.le_of_ble_eq_true rfl), (Nat.le_of_ble_eq_true rfl)⟩⟩ rfl rfl (Nat.le_of_ble_eq_true rfl) dX9_readsOrder_95) (fun r hh n1 hpp => ?_)
          obtain ⟨rfl, hn, c_m, ff⟩ := hpp
          replace hn : n = n1 := Eq.symm hn
          subst hn
          replace b_m : bM k m y23.2 hh := c_m
          clear c_m
          replace ff : rx_fr [(m, 9)] _ hh := ff
          replace fr := rx_frt fr ff (fun a ha => ⟨ha.1, trivial⟩)
          replace hF := rx_biE hF; obtain ⟨f24, e_f24, hF⟩ := hF
          replace hF := rx_leE hF; obtain ⟨o_m_25, e_o_m_25, hF⟩ := hF
          refine rx_aM17 C dX9_readsOrder_98 b_m e_f24 e_o_m_25 (fun hh c_m ff => ?_)
          replace b_m := c_m
          replace fr := rx_frt fr ff (fun a ha => ⟨ha.1, trivial⟩)
          refine rx_aload_n C dX9_readsOrder_99 1 rfl ?_
          refine rx_dup C dX9_readsOrder_100 rfl ?_
          refine rx_getf C f_X9_340 dX9_readsOrder_101 b_m.1 rfl ?_
          refine rx_iconst C dX9_readsOrder_104 (1 : Int32) (by decide) ?_
          refine rx_iadd C dX9_readsOrder_105 ?_
          replace hF := rx_leE hF; obtain ⟨o_m_26, e_o_m_26, hF⟩ := hF
          refine rx_pM18 C f_X9_340 dX9_readsOrder_106 b_m e_o_m_26 (fun hh c_m ff => ?_)
          replace b_m := c_m
          replace fr := rx_frt fr ff (fun a ha => ⟨ha.1, trivial⟩)
          refine rx_aload_n C dX9_readsOrder_109 1 rfl ?_
          replace hF := rx_biE hF; obtain ⟨y27, e_y27, hF⟩ := hF
          refine rx_cv (rx_rV C (w_X9_semicolon e_y27 b_m) Y_X9_semicolon V_X9_semicolon m_X9_217 (Or.inl ⟨_, _, _, _, b_m.1, rfl⟩) ⟨⟨rfl, rfl⟩, ⟨(Nat.le_of_ble_eq_true rfl), (Nat.le_of_ble_eq_true rfl)⟩, ⟨(Nat.le_of_ble_eq_true rfl), (Nat.le_of_ble_eq_true rfl)⟩⟩ rfl rfl (Nat.le_of_ble_eq_true rfl) dX9_readsOrder_110) (fun hh n1 hpp => ?_)
          obtain ⟨hn, c_m, ff⟩ := hpp
          replace hn : n = n1 := Eq.symm hn
          subst hn
          replace b_m : bM k m y27 hh := c_m
          clear c_m
          replace ff : rx_fr [(m, 9)] _ hh := ff
          replace fr := rx_frt fr ff (fun a ha => ⟨ha.1, trivial⟩)
          obtain rfl := Option.some.inj hF
          exact rx_vret C dX9_readsOrder_113 (Nat.le_refl _) (Nat.le_refl _) ⟨rfl, b_m, fr⟩
      · rw [if_neg c6] at hF
        obtain rfl := Option.some.inj hF
        exact rx_vret C dX9_readsOrder_36 (Nat.le_refl _) (Nat.le_refl _) ⟨rfl, b_m, fr⟩
    replace hF := e_zj4
    clear e_zj4
    refine rx_icmp_ne C dX9_readsOrder_21 29 (by decide) (fun c28 => ?_) (fun c28 => ?_)
    · rw [if_neg c28] at hF
      obtain rfl := Option.some.inj hF
      refine rx_sub [0, 1] rfl ?_
      exact KJ5 _ b_m fr
    · rw [if_pos c28] at hF
      refine rx_aload_n C dX9_readsOrder_24 0 rfl ?_
      refine rx_iconst C dX9_readsOrder_25 (3 : Int32) (by decide) ?_
      replace hF := rx_biE hF; obtain ⟨y29, e_y29, hF⟩ := hF
      refine rx_cv (rx_rV C (w_X9_errs e_y29 b_m) Y_X9_errs V_X9_errs m_X9_197 (Or.inl ⟨_, _, _, _, b_m.1, rfl⟩) ⟨⟨rfl, rfl⟩, ⟨(Nat.le_of_ble_eq_true rfl), (Nat.le_of_ble_eq_true rfl)⟩, ⟨(Nat.le_of_ble_eq_true rfl), (Nat.le_of_ble_eq_true rfl)⟩⟩ rfl rfl (Nat.le_of_ble_eq_true rfl) dX9_readsOrder_26) (fun hh n1 hpp => ?_)
      obtain ⟨hn, c_m, ff⟩ := hpp
      replace hn : n = n1 := Eq.symm hn
      subst hn
      replace b_m : bM k m y29 hh := c_m
      clear c_m
      replace ff : rx_fr [(m, 9)] _ hh := ff
      replace fr := rx_frt fr ff (fun a ha => ⟨ha.1, trivial⟩)
      obtain rfl := Option.some.inj hF
      refine rx_sub [0, 1] rfl ?_
      exact KJ5 _ b_m fr
  replace hF := e_zj2
  clear e_zj2
  refine rx_icmp_ne C dX9_readsOrder_7 15 (by decide) (fun c30 => ?_) (fun c30 => ?_)
  · rw [if_neg c30] at hF
    obtain rfl := Option.some.inj hF
    refine rx_sub [1, 0] rfl ?_
    exact KJ3 _ b_m fr
  · rw [if_pos c30] at hF
    refine rx_aload_n C dX9_readsOrder_10 1 rfl ?_
    refine rx_iconst C dX9_readsOrder_11 (1 : Int32) (by decide) ?_
    replace hF := rx_biE hF; obtain ⟨y31, e_y31, hF⟩ := hF
    refine rx_cv (rx_rV C (w_X9_errs e_y31 b_m) Y_X9_errs V_X9_errs m_X9_197 (Or.inl ⟨_, _, _, _, b_m.1, rfl⟩) ⟨⟨rfl, rfl⟩, ⟨(Nat.le_of_ble_eq_true rfl), (Nat.le_of_ble_eq_true rfl)⟩, ⟨(Nat.le_of_ble_eq_true rfl), (Nat.le_of_ble_eq_true rfl)⟩⟩ rfl rfl (Nat.le_of_ble_eq_true rfl) dX9_readsOrder_12) (fun hh n1 hpp => ?_)
    obtain ⟨hn, c_m, ff⟩ := hpp
    replace hn : n = n1 := Eq.symm hn
    subst hn
    replace b_m : bM k m y31 hh := c_m
    clear c_m
    replace ff : rx_fr [(m, 9)] _ hh := ff
    replace fr := rx_frt fr ff (fun a ha => ⟨ha.1, trivial⟩)
    obtain rfl := Option.some.inj hF
    refine rx_sub [1, 0] rfl ?_
    exact KJ3 _ b_m fr
def F_X9_areThere (om : ob) (x1 : Int32) (x2 : Int32) (x3 : Int32) : Option (Int32) := if x1 = (8 : Int32) then (some ((1 : Int32))) else ((rx_ald 144 (om.2 1) ((8 : Int32))).bind fun v2 => if x2 < v2 then (if x1 = (2 : Int32) then ((rx_ald 144 (om.2 1) ((8 : Int32))).bind fun v5 => if v5 ≤ x3 then (some ((0 : Int32))) else ((F_X9_isKingNow om x3).bind fun y7 => if y7 = (0 : Int32) then (some ((0 : Int32))) else (some ((1 : Int32))))) else if x1 = (3 : Int32) then ((rx_ald 144 (om.2 1) ((8 : Int32))).bind fun v11 => if v11 ≤ x3 then (some ((0 : Int32))) else ((F_X9_isKingNow om x3).bind fun y13 => if y13 = (0 : Int32) then (some ((0 : Int32))) else (some ((1 : Int32))))) else if x1 = (4 : Int32) then ((rx_ald 144 (om.2 1) ((8 : Int32))).bind fun v16 => if v16 ≤ x3 then (some ((0 : Int32))) else (if x2 = x3 then (some ((0 : Int32))) else (some ((1 : Int32))))) else (some ((1 : Int32)))) else (some ((0 : Int32))))
set_option maxRecDepth 100000 in
set_option maxHeartbeats 4000000 in
theorem w_X9_areThere {m : Nat} {om : ob} {x1 : Int32} {x2 : Int32} {x3 : Int32} {y : Int32} (hF : F_X9_areThere om x1 x2 x3 = some y) (b_m : bM k m om h) : Met l yX9_areThere (rx_ws yX9_areThere cX9_areThere 4 (some .boolean)) (rx_rm 2 43) (va_Pc [.ref m, .int x1, .int x2, .int x3] (rx_G G k h n)) (va_Qi (fun r u => y = r ∧ (y = 0 ∨ y = 1) ∧ u = (h, n)) (rx_B G k) (rx_A k)) 0 0 (rx_A k) := by
  refine rx_start [(0, .ref m), (1, .int x1), (2, .int x2), (3, .int x3)] rfl (Nat.le_of_ble_eq_true rfl) (by decide) rfl (fun P9 E9 S9 M9 A9 B9 me9 c9 C hname => ?_)
  unfold F_X9_areThere at hF
  refine rx_iload_n C dX9_areThere_0 1 rfl ?_
  refine rx_bipush C dX9_areThere_1 (8 : Int32) (by decide) ?_
  refine rx_icmp_ne C dX9_areThere_3 8 (by decide) (fun c1 => ?_) (fun c1 => ?_)
  · rw [if_neg c1] at hF
    refine rx_iload_n C dX9_areThere_8 2 rfl ?_
    refine rx_aload_n C dX9_areThere_9 0 rfl ?_
    refine rx_getf C f_X9_13 dX9_areThere_10 b_m.1 rfl ?_
    refine rx_bipush C dX9_areThere_13 (8 : Int32) (by decide) ?_
    replace hF := rx_biE hF; obtain ⟨v2, e_v2, hF⟩ := hF
    refine rx_aldF C dX9_areThere_15 b_m.2.1 e_v2 ?_
    refine rx_icmp_lt C dX9_areThere_16 21 (by decide) (fun c3 => ?_) (fun c3 => ?_)
    · rw [if_pos c3] at hF
      refine rx_iload_n C dX9_areThere_21 1 rfl ?_
      by_cases c4 : x1 = (2 : Int32)
      · rw [if_pos c4] at hF
        refine rx_tableIn C dX9_areThere_22 (by rw [c4]; decide) (by rw [c4]; decide) (by rw [c4]; rfl) 48 (by decide) ?_
        refine rx_iload_n C dX9_areThere_48 3 rfl ?_
        refine rx_aload_n C dX9_areThere_49 0 rfl ?_
        refine rx_getf C f_X9_13 dX9_areThere_50 b_m.1 rfl ?_
        refine rx_bipush C dX9_areThere_53 (8 : Int32) (by decide) ?_
        replace hF := rx_biE hF; obtain ⟨v5, e_v5, hF⟩ := hF
        refine rx_aldF C dX9_areThere_55 b_m.2.1 e_v5 ?_
        refine rx_icmp_ge C dX9_areThere_56 71 (by decide) (fun c6 => ?_) (fun c6 => ?_)
        · rw [if_pos c6] at hF
          refine rx_iconst C dX9_areThere_71 (0 : Int32) (by decide) ?_
          obtain rfl := Option.some.inj hF
          exact rx_zret C (rx_nz (Or.inl rfl)) dX9_areThere_72 (Nat.le_refl _) (Nat.le_refl _) ⟨rfl, (Or.inl rfl), rfl⟩
        · rw [if_neg c6] at hF
          refine rx_aload_n C dX9_areThere_59 0 rfl ?_
          refine rx_iload_n C dX9_areThere_60 3 rfl ?_
          replace hF := rx_biE hF; obtain ⟨y7, e_y7, hF⟩ := hF
          refine rx_ci (rx_rV C (w_X9_isKingNow e_y7 b_m) Y_X9_isKingNow V_X9_isKingNow m_X9_64 (Or.inl ⟨_, _, _, _, b_m.1, rfl⟩) ⟨⟨rfl, rfl⟩, ⟨(Nat.le_of_ble_eq_true rfl), (Nat.le_of_ble_eq_true rfl)⟩, ⟨(Nat.le_of_ble_eq_true rfl), (Nat.le_of_ble_eq_true rfl)⟩⟩ rfl rfl (Nat.le_of_ble_eq_true rfl) dX9_areThere_61) (fun r hh n1 hpp => ?_)
          obtain ⟨rfl, bo_y7, hu⟩ := hpp
          cases hu
          refine rx_if_eq C dX9_areThere_64 71 (by decide) (fun c8 => ?_) (fun c8 => ?_)
          · rw [if_pos c8] at hF
            refine rx_iconst C dX9_areThere_71 (0 : Int32) (by decide) ?_
            obtain rfl := Option.some.inj hF
            exact rx_zret C (rx_nz (Or.inl rfl)) dX9_areThere_72 (Nat.le_refl _) (Nat.le_refl _) ⟨rfl, (Or.inl rfl), rfl⟩
          · rw [if_neg c8] at hF
            refine rx_iconst C dX9_areThere_67 (1 : Int32) (by decide) ?_
            refine rx_goto C dX9_areThere_68 72 (by decide) ?_
            obtain rfl := Option.some.inj hF
            exact rx_zret C (rx_nz (Or.inr rfl)) dX9_areThere_72 (Nat.le_refl _) (Nat.le_refl _) ⟨rfl, (Or.inr rfl), rfl⟩
      rw [if_neg c4] at hF
      by_cases c10 : x1 = (3 : Int32)
      · rw [if_pos c10] at hF
        refine rx_tableIn C dX9_areThere_22 (by rw [c10]; decide) (by rw [c10]; decide) (by rw [c10]; rfl) 48 (by decide) ?_
        refine rx_iload_n C dX9_areThere_48 3 rfl ?_
        refine rx_aload_n C dX9_areThere_49 0 rfl ?_
        refine rx_getf C f_X9_13 dX9_areThere_50 b_m.1 rfl ?_
        refine rx_bipush C dX9_areThere_53 (8 : Int32) (by decide) ?_
        replace hF := rx_biE hF; obtain ⟨v11, e_v11, hF⟩ := hF
        refine rx_aldF C dX9_areThere_55 b_m.2.1 e_v11 ?_
        refine rx_icmp_ge C dX9_areThere_56 71 (by decide) (fun c12 => ?_) (fun c12 => ?_)
        · rw [if_pos c12] at hF
          refine rx_iconst C dX9_areThere_71 (0 : Int32) (by decide) ?_
          obtain rfl := Option.some.inj hF
          exact rx_zret C (rx_nz (Or.inl rfl)) dX9_areThere_72 (Nat.le_refl _) (Nat.le_refl _) ⟨rfl, (Or.inl rfl), rfl⟩
        · rw [if_neg c12] at hF
          refine rx_aload_n C dX9_areThere_59 0 rfl ?_
          refine rx_iload_n C dX9_areThere_60 3 rfl ?_
          replace hF := rx_biE hF; obtain ⟨y13, e_y13, hF⟩ := hF
          refine rx_ci (rx_rV C (w_X9_isKingNow e_y13 b_m) Y_X9_isKingNow V_X9_isKingNow m_X9_64 (Or.inl ⟨_, _, _, _, b_m.1, rfl⟩) ⟨⟨rfl, rfl⟩, ⟨(Nat.le_of_ble_eq_true rfl), (Nat.le_of_ble_eq_true rfl)⟩, ⟨(Nat.le_of_ble_eq_true rfl), (Nat.le_of_ble_eq_true rfl)⟩⟩ rfl rfl (Nat.le_of_ble_eq_true rfl) dX9_areThere_61) (fun r hh n1 hpp => ?_)
          obtain ⟨rfl, bo_y13, hu⟩ := hpp
          cases hu
          refine rx_if_eq C dX9_areThere_64 71 (by decide) (fun c14 => ?_) (fun c14 => ?_)
          · rw [if_pos c14] at hF
            refine rx_iconst C dX9_areThere_71 (0 : Int32) (by decide) ?_
            obtain rfl := Option.some.inj hF
            exact rx_zret C (rx_nz (Or.inl rfl)) dX9_areThere_72 (Nat.le_refl _) (Nat.le_refl _) ⟨rfl, (Or.inl rfl), rfl⟩
          · rw [if_neg c14] at hF
            refine rx_iconst C dX9_areThere_67 (1 : Int32) (by decide) ?_
            refine rx_goto C dX9_areThere_68 72 (by decide) ?_
            obtain rfl := Option.some.inj hF
            exact rx_zret C (rx_nz (Or.inr rfl)) dX9_areThere_72 (Nat.le_refl _) (Nat.le_refl _) ⟨rfl, (Or.inr rfl), rfl⟩
      rw [if_neg c10] at hF
      by_cases c15 : x1 = (4 : Int32)
      · rw [if_pos c15] at hF
        refine rx_tableIn C dX9_areThere_22 (by rw [c15]; decide) (by rw [c15]; decide) (by rw [c15]; rfl) 73 (by decide) ?_
        refine rx_iload_n C dX9_areThere_73 3 rfl ?_
        refine rx_aload_n C dX9_areThere_74 0 rfl ?_
        refine rx_getf C f_X9_13 dX9_areThere_75 b_m.1 rfl ?_
        refine rx_bipush C dX9_areThere_78 (8 : Int32) (by decide) ?_
        replace hF := rx_biE hF; obtain ⟨v16, e_v16, hF⟩ := hF
        refine rx_aldF C dX9_areThere_80 b_m.2.1 e_v16 ?_
        refine rx_icmp_ge C dX9_areThere_81 93 (by decide) (fun c17 => ?_) (fun c17 => ?_)
        · rw [if_pos c17] at hF
          refine rx_iconst C dX9_areThere_93 (0 : Int32) (by decide) ?_
          obtain rfl := Option.some.inj hF
          exact rx_zret C (rx_nz (Or.inl rfl)) dX9_areThere_94 (Nat.le_refl _) (Nat.le_refl _) ⟨rfl, (Or.inl rfl), rfl⟩
        · rw [if_neg c17] at hF
          refine rx_iload_n C dX9_areThere_84 2 rfl ?_
          refine rx_iload_n C dX9_areThere_85 3 rfl ?_
          refine rx_icmp_eq C dX9_areThere_86 93 (by decide) (fun c18 => ?_) (fun c18 => ?_)
          · rw [if_pos c18] at hF
            refine rx_iconst C dX9_areThere_93 (0 : Int32) (by decide) ?_
            obtain rfl := Option.some.inj hF
            exact rx_zret C (rx_nz (Or.inl rfl)) dX9_areThere_94 (Nat.le_refl _) (Nat.le_refl _) ⟨rfl, (Or.inl rfl), rfl⟩
          · rw [if_neg c18] at hF
            refine rx_iconst C dX9_areThere_89 (1 : Int32) (by decide) ?_
            refine rx_goto C dX9_areThere_90 94 (by decide) ?_
            obtain rfl := Option.some.inj hF
            exact rx_zret C (rx_nz (Or.inr rfl)) dX9_areThere_94 (Nat.le_refl _) (Nat.le_refl _) ⟨rfl, (Or.inr rfl), rfl⟩
      rw [if_neg c15] at hF
      refine rx_tableOut C dX9_areThere_22 (by have q2 := rx_neI c4; have q3 := rx_neI c10; have q4 := rx_neI c15; have r2 : (2 : Int32).toInt = 2 := rfl; have r3 : (3 : Int32).toInt = 3 := rfl; have r4 : (4 : Int32).toInt = 4 := rfl; omega) 95 (by decide) ?_
      refine rx_iconst C dX9_areThere_95 (1 : Int32) (by decide) ?_
      obtain rfl := Option.some.inj hF
      exact rx_zret C (rx_nz (Or.inr rfl)) dX9_areThere_96 (Nat.le_refl _) (Nat.le_refl _) ⟨rfl, (Or.inr rfl), rfl⟩
    · rw [if_neg c3] at hF
      refine rx_iconst C dX9_areThere_19 (0 : Int32) (by decide) ?_
      obtain rfl := Option.some.inj hF
      exact rx_zret C (rx_nz (Or.inl rfl)) dX9_areThere_20 (Nat.le_refl _) (Nat.le_refl _) ⟨rfl, (Or.inl rfl), rfl⟩
  · rw [if_pos c1] at hF
    refine rx_iconst C dX9_areThere_6 (1 : Int32) (by decide) ?_
    obtain rfl := Option.some.inj hF
    exact rx_zret C (rx_nz (Or.inr rfl)) dX9_areThere_7 (Nat.le_refl _) (Nat.le_refl _) ⟨rfl, (Or.inr rfl), rfl⟩
def F_X9_isDoneNow (om : ob) (x1 : Int32) : Option (Int32 × ob) := (rx_ald 60 (om.2 17) x1).bind fun v1 => (rx_ald 60 (om.2 17) ((x1 + (1 : Int32)))).bind fun v2 => (rx_ald 60 (om.2 17) ((x1 + (2 : Int32)))).bind fun v3 => (F_X9_areThere om v1 v2 v3).bind fun y4 => if y4 = (0 : Int32) then (some ((0 : Int32), om)) else ((F_X9_can om v1 v2 v3).bind fun y6 => if y6 = (0 : Int32) then (some ((0 : Int32), om)) else ((F_X9_does om v1 v2 v3).bind fun y8 => some ((1 : Int32), y8.2)))
set_option maxRecDepth 100000 in
set_option maxHeartbeats 4000000 in
theorem w_X9_isDoneNow {m : Nat} {om : ob} {x1 : Int32} {y : Int32 × ob} (hF : F_X9_isDoneNow om x1 = some y) (b_m : bM k m om h) : Met l yX9_isDoneNow (rx_ws yX9_isDoneNow cX9_isDoneNow 6 (some .boolean)) (rx_rm 8 183) (va_Pc [.ref m, .int x1] (rx_G G k h n)) (va_Qi (fun r u => y.1 = r ∧ (y.1 = 0 ∨ y.1 = 1) ∧ u.2 = n ∧ bM k m y.2 u.1 ∧ rx_fr [(m, 9)] h u.1) (rx_B G k) (rx_A k)) 0 0 (rx_A k) := by
  refine rx_start [(0, .ref m), (1, .int x1)] rfl (Nat.le_of_ble_eq_true rfl) (by decide) rfl (fun P9 E9 S9 M9 A9 B9 me9 c9 C hname => ?_)
  unfold F_X9_isDoneNow at hF
  have fr : rx_fr [(m, 9)] h h := rx_fr0
  refine rx_aload_n C dX9_isDoneNow_0 0 rfl ?_
  refine rx_getf C f_X9_35 dX9_isDoneNow_1 b_m.1 rfl ?_
  refine rx_iload_n C dX9_isDoneNow_4 1 rfl ?_
  replace hF := rx_biE hF; obtain ⟨v1, e_v1, hF⟩ := hF
  refine rx_aldF C dX9_isDoneNow_5 b_m.2.2.2.2.2.2.2.1 e_v1 ?_
  refine rx_istore_n C dX9_isDoneNow_6 (by decide) [(2, .int v1), (0, .ref m), (1, .int x1)] rfl ?_
  refine rx_aload_n C dX9_isDoneNow_7 1 rfl ?_
  refine rx_getf C f_X9_35 dX9_isDoneNow_8 b_m.1 rfl ?_
  refine rx_iload_n C dX9_isDoneNow_11 2 rfl ?_
  refine rx_iconst C dX9_isDoneNow_12 (1 : Int32) (by decide) ?_
  refine rx_iadd C dX9_isDoneNow_13 ?_
  replace hF := rx_biE hF; obtain ⟨v2, e_v2, hF⟩ := hF
  refine rx_aldF C dX9_isDoneNow_14 b_m.2.2.2.2.2.2.2.1 e_v2 ?_
  refine rx_istore_n C dX9_isDoneNow_15 (by decide) [(3, .int v2), (2, .int v1), (0, .ref m), (1, .int x1)] rfl ?_
  refine rx_aload_n C dX9_isDoneNow_16 2 rfl ?_
  refine rx_getf C f_X9_35 dX9_isDoneNow_17 b_m.1 rfl ?_
  refine rx_iload_n C dX9_isDoneNow_20 3 rfl ?_
  refine rx_iconst C dX9_isDoneNow_21 (2 : Int32) (by decide) ?_
  refine rx_iadd C dX9_isDoneNow_22 ?_
  replace hF := rx_biE hF; obtain ⟨v3, e_v3, hF⟩ := hF
  refine rx_aldF C dX9_isDoneNow_23 b_m.2.2.2.2.2.2.2.1 e_v3 ?_
  refine rx_istore C dX9_isDoneNow_24 (by decide) [(4, .int v3), (3, .int v2), (2, .int v1), (0, .ref m), (1, .int x1)] rfl ?_
  refine rx_aload_n C dX9_isDoneNow_26 3 rfl ?_
  refine rx_iload_n C dX9_isDoneNow_27 2 rfl ?_
  refine rx_iload_n C dX9_isDoneNow_28 1 rfl ?_
  refine rx_iload C dX9_isDoneNow_29 0 rfl ?_
  replace hF := rx_biE hF; obtain ⟨y4, e_y4, hF⟩ := hF
  refine rx_ci (rx_rV C (w_X9_areThere e_y4 b_m) Y_X9_areThere V_X9_areThere m_X9_346 (Or.inl ⟨_, _, _, _, b_m.1, rfl⟩) ⟨⟨rfl, rfl⟩, ⟨(Nat.le_of_ble_eq_true rfl), (Nat.le_of_ble_eq_true rfl)⟩, ⟨(Nat.le_of_ble_eq_true rfl), (Nat.le_of_ble_eq_true rfl)⟩⟩ rfl rfl (Nat.le_of_ble_eq_true rfl) dX9_isDoneNow_31) (fun r hh n1 hpp => ?_)
  obtain ⟨rfl, bo_y4, hu⟩ := hpp
  cases hu
  refine rx_if_eq C dX9_isDoneNow_34 48 (by decide) (fun c5 => ?_) (fun c5 => ?_)
  · rw [if_pos c5] at hF
    refine rx_iconst C dX9_isDoneNow_48 (0 : Int32) (by decide) ?_
    obtain rfl := Option.some.inj hF
    exact rx_zret C (rx_nz (Or.inl rfl)) dX9_isDoneNow_49 (Nat.le_refl _) (Nat.le_refl _) ⟨rfl, (Or.inl rfl), rfl, b_m, fr⟩
  · rw [if_neg c5] at hF
    refine rx_aload_n C dX9_isDoneNow_37 3 rfl ?_
    refine rx_iload_n C dX9_isDoneNow_38 2 rfl ?_
    refine rx_iload_n C dX9_isDoneNow_39 1 rfl ?_
    refine rx_iload C dX9_isDoneNow_40 0 rfl ?_
    replace hF := rx_biE hF; obtain ⟨y6, e_y6, hF⟩ := hF
    refine rx_ci (rx_rV C (w_X9_can e_y6 b_m) Y_X9_can V_X9_can m_X9_299 (Or.inl ⟨_, _, _, _, b_m.1, rfl⟩) ⟨⟨rfl, rfl⟩, ⟨(Nat.le_of_ble_eq_true rfl), (Nat.le_of_ble_eq_true rfl)⟩, ⟨(Nat.le_of_ble_eq_true rfl), (Nat.le_of_ble_eq_true rfl)⟩⟩ rfl rfl (Nat.le_of_ble_eq_true rfl) dX9_isDoneNow_42) (fun r hh n1 hpp => ?_)
    obtain ⟨rfl, bo_y6, hu⟩ := hpp
    cases hu
    refine rx_if_ne C dX9_isDoneNow_45 50 (by decide) (fun c7 => ?_) (fun c7 => ?_)
    · rw [if_neg c7] at hF
      refine rx_aload_n C dX9_isDoneNow_50 3 rfl ?_
      refine rx_iload_n C dX9_isDoneNow_51 2 rfl ?_
      refine rx_iload_n C dX9_isDoneNow_52 1 rfl ?_
      refine rx_iload C dX9_isDoneNow_53 0 rfl ?_
      replace hF := rx_biE hF; obtain ⟨y8, e_y8, hF⟩ := hF
      refine rx_ci (rx_rV C (w_X9_does e_y8 b_m) Y_X9_does V_X9_does m_X9_305 (Or.inl ⟨_, _, _, _, b_m.1, rfl⟩) ⟨⟨rfl, rfl⟩, ⟨(Nat.le_of_ble_eq_true rfl), (Nat.le_of_ble_eq_true rfl)⟩, ⟨(Nat.le_of_ble_eq_true rfl), (Nat.le_of_ble_eq_true rfl)⟩⟩ rfl rfl (Nat.le_of_ble_eq_true rfl) dX9_isDoneNow_55) (fun r hh n1 hpp => ?_)
      obtain ⟨rfl, hn, c_m, ff⟩ := hpp
      replace hn : n = n1 := Eq.symm hn
      subst hn
      replace b_m : bM k m y8.2 hh := c_m
      clear c_m
      replace ff : rx_fr [(m, 9)] _ hh := ff
      replace fr := rx_frt fr ff (fun a ha => ⟨ha.1, trivial⟩)
      refine rx_istore C dX9_isDoneNow_58 (by decide) [(5, .int y8.1), (4, .int v3), (3, .int v2), (2, .int v1), (0, .ref m), (1, .int x1)] rfl ?_
      refine rx_iconst C dX9_isDoneNow_60 (1 : Int32) (by decide) ?_
      obtain rfl := Option.some.inj hF
      exact rx_zret C (rx_nz (Or.inr rfl)) dX9_isDoneNow_61 (Nat.le_refl _) (Nat.le_refl _) ⟨rfl, (Or.inr rfl), rfl, b_m, fr⟩
    · rw [if_pos c7] at hF
      refine rx_iconst C dX9_isDoneNow_48 (0 : Int32) (by decide) ?_
      obtain rfl := Option.some.inj hF
      exact rx_zret C (rx_nz (Or.inl rfl)) dX9_isDoneNow_49 (Nat.le_refl _) (Nat.le_refl _) ⟨rfl, (Or.inl rfl), rfl, b_m, fr⟩
def F_X9_runScript_34 (x1 : Int32) : Nat → ob → Option (ob)
  | 0, _ => none
  | fu + 1, om => if (om.1 15) = (0 : Int32) then (if (om.1 13) = (0 : Int32) then (some om) else ((F_X9_readsOrder om).bind fun y12 => F_X9_runScript_34 x1 fu y12)) else (some om)
def F_X9_runScript_70 (x1 : Int32) : Nat → ob → Int32 → Option (Int32 × ob)
  | 0, _, _ => none
  | fu + 1, om, x2 => if (om.1 18) ≤ x2 then (some (x2, om)) else ((F_X9_isDoneNow om (((3 : Int32) * x2))).bind fun y19 => if y19.1 = (0 : Int32) then (some (x2, y19.2)) else (F_X9_runScript_70 x1 fu y19.2 ((x2 + 1))))
def F_X9_runScript (om : ob) (x1 : Int32) : Option (Int32 × ob) := rx_le (upd om.1 0 ((0 : Int32)), om.2) fun o_m_1 => (F_X9_in x1 ((0 : Int32)) ((o_m_1.1 9))).bind fun y2 => (F_X9_fails o_m_1 y2 ((1 : Int32))).bind fun y3 => if y3.1 = (0 : Int32) then ((F_X9_starts y3.2 x1).bind fun y5 => rx_le (upd y5.1 18 ((0 : Int32)), y5.2) fun o_m_6 => (F_X9_runScript_34 x1 100000 o_m_6).bind fun zl13 => if (zl13.1 15) = (0 : Int32) then ((F_X9_keeps zl13).bind fun y15 => (F_X9_runScript_70 x1 100000 y15 ((0 : Int32))).bind fun zl21 => some (zl21.1, zl21.2)) else (some ((-1 : Int32), zl13))) else (some ((0 : Int32), y3.2))
set_option maxRecDepth 100000 in
set_option maxHeartbeats 4000000 in
theorem w_X9_runScript {m : Nat} {om : ob} {x1 : Int32} {y : Int32 × ob} (hF : F_X9_runScript om x1 = some y) (b_m : bM k m om h) : Met l yX9_runScript (rx_ws yX9_runScript cX9_runScript 3 (some .int)) (rx_rm 9 208) (va_Pc [.ref m, .int x1] (rx_G G k h n)) (va_Qi (fun r u => y.1 = r ∧ u.2 = n ∧ bM k m y.2 u.1 ∧ rx_fr [(m, 9)] h u.1) (rx_B G k) (rx_A k)) 0 0 (rx_A k) := by
  refine rx_start [(0, .ref m), (1, .int x1)] rfl (Nat.le_of_ble_eq_true rfl) (by decide) rfl (fun P9 E9 S9 M9 A9 B9 me9 c9 C hname => ?_)
  unfold F_X9_runScript at hF
  have fr : rx_fr [(m, 9)] h h := rx_fr0
  refine rx_aload_n C dX9_runScript_0 0 rfl ?_
  refine rx_iconst C dX9_runScript_1 (0 : Int32) (by decide) ?_
  replace hF := rx_leE hF; obtain ⟨o_m_1, e_o_m_1, hF⟩ := hF
  refine rx_pM0 C f_X9_1 dX9_runScript_2 b_m e_o_m_1 (fun hh c_m ff => ?_)
  replace b_m := c_m
  replace fr := rx_frt fr ff (fun a ha => ⟨ha.1, trivial⟩)
  refine rx_aload_n C dX9_runScript_5 0 rfl ?_
  refine rx_iload_n C dX9_runScript_6 1 rfl ?_
  refine rx_iconst C dX9_runScript_7 (0 : Int32) (by decide) ?_
  refine rx_aload_n C dX9_runScript_8 0 rfl ?_
  refine rx_getf C f_X9_53 dX9_runScript_9 b_m.1 rfl ?_
  replace hF := rx_biE hF; obtain ⟨y2, e_y2, hF⟩ := hF
  refine rx_ci (rx_rS C (w_X9_in e_y2 ) Y_X9_in S_X9_in m_X9_200 ⟨⟨rfl, rfl⟩, ⟨(Nat.le_of_ble_eq_true rfl), (Nat.le_of_ble_eq_true rfl)⟩, ⟨(Nat.le_of_ble_eq_true rfl), (Nat.le_of_ble_eq_true rfl)⟩⟩ rfl rfl (Nat.le_of_ble_eq_true rfl) dX9_runScript_12) (fun r hh n1 hpp => ?_)
  obtain ⟨rfl, bo_y2, hu⟩ := hpp
  cases hu
  refine rx_iconst C dX9_runScript_15 (1 : Int32) (by decide) ?_
  replace hF := rx_biE hF; obtain ⟨y3, e_y3, hF⟩ := hF
  refine rx_ci (rx_rV C (w_X9_fails e_y3 b_m) Y_X9_fails V_X9_fails m_X9_239 (Or.inl ⟨_, _, _, _, b_m.1, rfl⟩) ⟨⟨rfl, rfl⟩, ⟨(Nat.le_of_ble_eq_true rfl), (Nat.le_of_ble_eq_true rfl)⟩, ⟨(Nat.le_of_ble_eq_true rfl), (Nat.le_of_ble_eq_true rfl)⟩⟩ rfl rfl (Nat.le_of_ble_eq_true rfl) dX9_runScript_16) (fun r hh n1 hpp => ?_)
  obtain ⟨rfl, bo_y3, hn, c_m, ff⟩ := hpp
  replace hn : n = n1 := Eq.symm hn
  subst hn
  replace b_m : bM k m y3.2 hh := c_m
  clear c_m
  replace ff : rx_fr [(m, 9)] _ hh := ff
  replace fr := rx_frt fr ff (fun a ha => ⟨ha.1, trivial⟩)
  refine rx_if_eq C dX9_runScript_19 24 (by decide) (fun c4 => ?_) (fun c4 => ?_)
  · rw [if_pos c4] at hF
    refine rx_aload_n C dX9_runScript_24 0 rfl ?_
    refine rx_iload_n C dX9_runScript_25 1 rfl ?_
    replace hF := rx_biE hF; obtain ⟨y5, e_y5, hF⟩ := hF
    refine rx_cv (rx_rV C (w_X9_starts e_y5 b_m) Y_X9_starts V_X9_starts m_X9_247 (Or.inl ⟨_, _, _, _, b_m.1, rfl⟩) ⟨⟨rfl, rfl⟩, ⟨(Nat.le_of_ble_eq_true rfl), (Nat.le_of_ble_eq_true rfl)⟩, ⟨(Nat.le_of_ble_eq_true rfl), (Nat.le_of_ble_eq_true rfl)⟩⟩ rfl rfl (Nat.le_of_ble_eq_true rfl) dX9_runScript_26) (fun hh n1 hpp => ?_)
    obtain ⟨hn, c_m, ff⟩ := hpp
    replace hn : n = n1 := Eq.symm hn
    subst hn
    replace b_m : bM k m y5 hh := c_m
    clear c_m
    replace ff : rx_fr [(m, 9)] _ hh := ff
    replace fr := rx_frt fr ff (fun a ha => ⟨ha.1, trivial⟩)
    refine rx_aload_n C dX9_runScript_29 0 rfl ?_
    refine rx_iconst C dX9_runScript_30 (0 : Int32) (by decide) ?_
    replace hF := rx_leE hF; obtain ⟨o_m_6, e_o_m_6, hF⟩ := hF
    refine rx_pM18 C f_X9_340 dX9_runScript_31 b_m e_o_m_6 (fun hh c_m ff => ?_)
    replace b_m := c_m
    replace fr := rx_frt fr ff (fun a ha => ⟨ha.1, trivial⟩)
    have loop8 : ∀ (fu : Nat) (zz : ob) (om : ob)  (hh : hp), F_X9_runScript_34 x1 fu om = some zz → bM k m om hh → rx_fr [(m, 9)] h hh → (∀ hh : hp, bM k m zz hh → rx_fr [(m, 9)] h hh → rx_W P9 l E9 (rx_rm 9 208) S9 M9 A9 B9 me9 c9 (MQ B9 (va_Qi (fun r u => y.1 = r ∧ u.2 = n ∧ bM k m y.2 u.1 ∧ rx_fr [(m, 9)] h u.1) (rx_B G k) (rx_A k)) A9 S9 0 0 (rx_A k)) G k 3 0 0 hh n 55 [(0, .ref m), (1, .int x1)] []) → rx_W P9 l E9 (rx_rm 9 208) S9 M9 A9 B9 me9 c9 (MQ B9 (va_Qi (fun r u => y.1 = r ∧ u.2 = n ∧ bM k m y.2 u.1 ∧ rx_fr [(m, 9)] h u.1) (rx_B G k) (rx_A k)) A9 S9 0 0 (rx_A k)) G k 3 0 0 hh n 34 [(0, .ref m), (1, .int x1)] [] := by
      intro fu
      induction fu with
      | zero => intro zz om hh hF b_m fr KK; exact absurd hF (by simp [F_X9_runScript_34])
      | succ fu ih_loop8 =>
        intro zz om hh hF b_m fr KK
        unfold F_X9_runScript_34 at hF
        refine rx_aload_n C dX9_runScript_34 0 rfl ?_
        refine rx_getf C f_X9_160 dX9_runScript_35 b_m.1 rfl ?_
        refine rx_if_ne C dX9_runScript_38 55 (by decide) (fun c10 => ?_) (fun c10 => ?_)
        · rw [if_neg c10] at hF
          obtain rfl := Option.some.inj hF
          refine rx_sub [0, 1] rfl ?_
          exact KK _ b_m fr
        · rw [if_pos c10] at hF
          refine rx_aload_n C dX9_runScript_41 0 rfl ?_
          refine rx_getf C f_X9_178 dX9_runScript_42 b_m.1 rfl ?_
          refine rx_if_eq C dX9_runScript_45 55 (by decide) (fun c11 => ?_) (fun c11 => ?_)
          · rw [if_pos c11] at hF
            obtain rfl := Option.some.inj hF
            refine rx_sub [0, 1] rfl ?_
            exact KK _ b_m fr
          · rw [if_neg c11] at hF
            refine rx_aload_n C dX9_runScript_48 0 rfl ?_
            replace hF := rx_biE hF; obtain ⟨y12, e_y12, hF⟩ := hF
            refine rx_cv (rx_rV C (w_X9_readsOrder e_y12 b_m) Y_X9_readsOrder V_X9_readsOrder m_X9_349 (Or.inl ⟨_, _, _, _, b_m.1, rfl⟩) ⟨⟨rfl, rfl⟩, ⟨(Nat.le_of_ble_eq_true rfl), (Nat.le_of_ble_eq_true rfl)⟩, ⟨(Nat.le_of_ble_eq_true rfl), (Nat.le_of_ble_eq_true rfl)⟩⟩ rfl rfl (Nat.le_of_ble_eq_true rfl) dX9_runScript_49) (fun hh n1 hpp => ?_)
            obtain ⟨hn, c_m, ff⟩ := hpp
            replace hn : n = n1 := Eq.symm hn
            subst hn
            replace b_m : bM k m y12 hh := c_m
            clear c_m
            replace ff : rx_fr [(m, 9)] _ hh := ff
            replace fr := rx_frt fr ff (fun a ha => ⟨ha.1, trivial⟩)
            refine rx_goto C dX9_runScript_52 34 (by decide) ?_
            refine rx_sub [0, 1] rfl ?_
            exact ih_loop8 _ _ _ hF b_m fr KK
    refine rx_sub [0, 1] rfl ?_
    replace hF := rx_biE hF; obtain ⟨zl13, e_zl13, hF⟩ := hF
    refine loop8 _ zl13 _ _ e_zl13 b_m fr (fun hh b_m fr => ?_)
    refine rx_aload_n C dX9_runScript_55 0 rfl ?_
    refine rx_getf C f_X9_160 dX9_runScript_56 b_m.1 rfl ?_
    refine rx_if_eq C dX9_runScript_59 64 (by decide) (fun c14 => ?_) (fun c14 => ?_)
    · rw [if_pos c14] at hF
      refine rx_aload_n C dX9_runScript_64 0 rfl ?_
      replace hF := rx_biE hF; obtain ⟨y15, e_y15, hF⟩ := hF
      refine rx_cv (rx_rV C (w_X9_keeps e_y15 b_m) Y_X9_keeps V_X9_keeps m_X9_302 (Or.inl ⟨_, _, _, _, b_m.1, rfl⟩) ⟨⟨rfl, rfl⟩, ⟨(Nat.le_of_ble_eq_true rfl), (Nat.le_of_ble_eq_true rfl)⟩, ⟨(Nat.le_of_ble_eq_true rfl), (Nat.le_of_ble_eq_true rfl)⟩⟩ rfl rfl (Nat.le_of_ble_eq_true rfl) dX9_runScript_65) (fun hh n1 hpp => ?_)
      obtain ⟨hn, c_m, ff⟩ := hpp
      replace hn : n = n1 := Eq.symm hn
      subst hn
      replace b_m : bM k m y15 hh := c_m
      clear c_m
      replace ff : rx_fr [(m, 9)] _ hh := ff
      replace fr := rx_frt fr ff (fun a ha => ⟨ha.1, trivial⟩)
      refine rx_iconst C dX9_runScript_68 (0 : Int32) (by decide) ?_
      refine rx_istore_n C dX9_runScript_69 (by decide) [(2, .int ((0 : Int32))), (0, .ref m), (1, .int x1)] rfl ?_
      have loop17 : ∀ (fu : Nat) (zz : Int32 × ob) (om : ob) (x2 : Int32) (hh : hp), F_X9_runScript_70 x1 fu om x2 = some zz → bM k m om hh → rx_fr [(m, 9)] h hh → (∀ hh : hp, bM k m zz.2 hh → rx_fr [(m, 9)] h hh → rx_W P9 l E9 (rx_rm 9 208) S9 M9 A9 B9 me9 c9 (MQ B9 (va_Qi (fun r u => y.1 = r ∧ u.2 = n ∧ bM k m y.2 u.1 ∧ rx_fr [(m, 9)] h u.1) (rx_B G k) (rx_A k)) A9 S9 0 0 (rx_A k)) G k 3 0 0 hh n 94 [(0, .ref m), (1, .int x1), (2, .int zz.1)] []) → rx_W P9 l E9 (rx_rm 9 208) S9 M9 A9 B9 me9 c9 (MQ B9 (va_Qi (fun r u => y.1 = r ∧ u.2 = n ∧ bM k m y.2 u.1 ∧ rx_fr [(m, 9)] h u.1) (rx_B G k) (rx_A k)) A9 S9 0 0 (rx_A k)) G k 3 0 0 hh n 70 [(0, .ref m), (1, .int x1), (2, .int x2)] [] := by
        intro fu
        induction fu with
        | zero => intro zz om x2 hh hF b_m fr KK; exact absurd hF (by simp [F_X9_runScript_70])
        | succ fu ih_loop17 =>
          intro zz om x2 hh hF b_m fr KK
          unfold F_X9_runScript_70 at hF
          refine rx_iload_n C dX9_runScript_70 2 rfl ?_
          refine rx_aload_n C dX9_runScript_71 0 rfl ?_
          refine rx_getf C f_X9_340 dX9_runScript_72 b_m.1 rfl ?_
          refine rx_icmp_ge C dX9_runScript_75 94 (by decide) (fun c18 => ?_) (fun c18 => ?_)
          · rw [if_pos c18] at hF
            obtain rfl := Option.some.inj hF
            refine rx_sub [0, 1, 2] rfl ?_
            exact KK _ b_m fr
          · rw [if_neg c18] at hF
            refine rx_aload_n C dX9_runScript_78 0 rfl ?_
            refine rx_iconst C dX9_runScript_79 (3 : Int32) (by decide) ?_
            refine rx_iload_n C dX9_runScript_80 2 rfl ?_
            refine rx_imul C dX9_runScript_81 ?_
            replace hF := rx_biE hF; obtain ⟨y19, e_y19, hF⟩ := hF
            refine rx_ci (rx_rV C (w_X9_isDoneNow e_y19 b_m) Y_X9_isDoneNow V_X9_isDoneNow m_X9_352 (Or.inl ⟨_, _, _, _, b_m.1, rfl⟩) ⟨⟨rfl, rfl⟩, ⟨(Nat.le_of_ble_eq_true rfl), (Nat.le_of_ble_eq_true rfl)⟩, ⟨(Nat.le_of_ble_eq_true rfl), (Nat.le_of_ble_eq_true rfl)⟩⟩ rfl rfl (Nat.le_of_ble_eq_true rfl) dX9_runScript_82) (fun r hh n1 hpp => ?_)
            obtain ⟨rfl, bo_y19, hn, c_m, ff⟩ := hpp
            replace hn : n = n1 := Eq.symm hn
            subst hn
            replace b_m : bM k m y19.2 hh := c_m
            clear c_m
            replace ff : rx_fr [(m, 9)] _ hh := ff
            replace fr := rx_frt fr ff (fun a ha => ⟨ha.1, trivial⟩)
            refine rx_if_eq C dX9_runScript_85 94 (by decide) (fun c20 => ?_) (fun c20 => ?_)
            · rw [if_pos c20] at hF
              obtain rfl := Option.some.inj hF
              refine rx_sub [0, 1, 2] rfl ?_
              exact KK _ b_m fr
            · rw [if_neg c20] at hF
              refine rx_iinc C dX9_runScript_88 2 rfl (x2 + 1) rfl (by decide) [(2, .int ((x2 + 1))), (0, .ref m), (1, .int x1)] rfl ?_
              refine rx_goto C dX9_runScript_91 70 (by decide) ?_
              refine rx_sub [1, 2, 0] rfl ?_
              exact ih_loop17 _ _ _ _ hF b_m fr KK
      refine rx_sub [1, 2, 0] rfl ?_
      replace hF := rx_biE hF; obtain ⟨zl21, e_zl21, hF⟩ := hF
      refine loop17 _ zl21 _ _ _ e_zl21 b_m fr (fun hh b_m fr => ?_)
      refine rx_iload_n C dX9_runScript_94 2 rfl ?_
      obtain rfl := Option.some.inj hF
      exact rx_iret C dX9_runScript_95 (Nat.le_refl _) (Nat.le_refl _) ⟨rfl, rfl, b_m, fr⟩
    · rw [if_neg c14] at hF
      refine rx_iconst C dX9_runScript_62 (-1 : Int32) (by decide) ?_
      obtain rfl := Option.some.inj hF
      exact rx_iret C dX9_runScript_63 (Nat.le_refl _) (Nat.le_refl _) ⟨rfl, rfl, b_m, fr⟩
  · rw [if_neg c4] at hF
    refine rx_iconst C dX9_runScript_22 (0 : Int32) (by decide) ?_
    obtain rfl := Option.some.inj hF
    exact rx_iret C dX9_runScript_23 (Nat.le_refl _) (Nat.le_refl _) ⟨rfl, rfl, b_m, fr⟩
def F_X9_writes (om : ob) (x1 : Int32) : Option (ob) := (rx_ast 80 (om.2 19) ((om.1 20)) x1).bind fun f1 => rx_le (om.1, va_up om.2 19 f1) fun o_m_2 => rx_le (upd o_m_2.1 20 (((o_m_2.1 20) + (1 : Int32))), o_m_2.2) fun o_m_3 => some o_m_3
set_option maxRecDepth 100000 in
set_option maxHeartbeats 4000000 in
theorem w_X9_writes {m : Nat} {om : ob} {x1 : Int32} {y : ob} (hF : F_X9_writes om x1 = some y) (b_m : bM k m om h) : Met l yX9_writes (rx_ws yX9_writes cX9_writes 2 none) (rx_rm 0 0) (va_Pc [.ref m, .int x1] (rx_G G k h n)) (va_Qv (fun u => u.2 = n ∧ bM k m y u.1 ∧ rx_fr [(m, 9)] h u.1) (rx_B G k) (rx_A k)) 0 0 (rx_A k) := by
  refine rx_start [(0, .ref m), (1, .int x1)] rfl (Nat.le_of_ble_eq_true rfl) (by decide) rfl (fun P9 E9 S9 M9 A9 B9 me9 c9 C hname => ?_)
  unfold F_X9_writes at hF
  have fr : rx_fr [(m, 9)] h h := rx_fr0
  refine rx_aload_n C dX9_writes_0 0 rfl ?_
  refine rx_getf C f_X9_38 dX9_writes_1 b_m.1 rfl ?_
  refine rx_aload_n C dX9_writes_4 0 rfl ?_
  refine rx_getf C f_X9_355 dX9_writes_5 b_m.1 rfl ?_
  refine rx_iload_n C dX9_writes_8 1 rfl ?_
  replace hF := rx_biE hF; obtain ⟨f1, e_f1, hF⟩ := hF
  replace hF := rx_leE hF; obtain ⟨o_m_2, e_o_m_2, hF⟩ := hF
  refine rx_aM19 C dX9_writes_9 b_m e_f1 e_o_m_2 (fun hh c_m ff => ?_)
  replace b_m := c_m
  replace fr := rx_frt fr ff (fun a ha => ⟨ha.1, trivial⟩)
  refine rx_aload_n C dX9_writes_10 0 rfl ?_
  refine rx_dup C dX9_writes_11 rfl ?_
  refine rx_getf C f_X9_355 dX9_writes_12 b_m.1 rfl ?_
  refine rx_iconst C dX9_writes_15 (1 : Int32) (by decide) ?_
  refine rx_iadd C dX9_writes_16 ?_
  replace hF := rx_leE hF; obtain ⟨o_m_3, e_o_m_3, hF⟩ := hF
  refine rx_pM20 C f_X9_355 dX9_writes_17 b_m e_o_m_3 (fun hh c_m ff => ?_)
  replace b_m := c_m
  replace fr := rx_frt fr ff (fun a ha => ⟨ha.1, trivial⟩)
  obtain rfl := Option.some.inj hF
  exact rx_vret C dX9_writes_20 (Nat.le_refl _) (Nat.le_refl _) ⟨rfl, b_m, fr⟩
def F_X9_writesNumber (om : ob) (x1 : Int32) : Option (ob) := (if x1 ≤ (9 : Int32) then (some om) else ((F_X9_writes om (((48 : Int32) + (x1 / (10 : Int32))))).bind fun y5 => some y5)).bind fun zj1 => (F_X9_writes zj1 (((48 : Int32) + (x1 - x1 / (10 : Int32) * (10 : Int32))))).bind fun y3 => some y3
set_option maxRecDepth 100000 in
set_option maxHeartbeats 4000000 in
theorem w_X9_writesNumber {m : Nat} {om : ob} {x1 : Int32} {y : ob} (hF : F_X9_writesNumber om x1 = some y) (b_m : bM k m om h) : Met l yX9_writesNumber (rx_ws yX9_writesNumber cX9_writesNumber 2 none) (rx_rm 1 21) (va_Pc [.ref m, .int x1] (rx_G G k h n)) (va_Qv (fun u => u.2 = n ∧ bM k m y u.1 ∧ rx_fr [(m, 9)] h u.1) (rx_B G k) (rx_A k)) 0 0 (rx_A k) := by
  refine rx_start [(0, .ref m), (1, .int x1)] rfl (Nat.le_of_ble_eq_true rfl) (by decide) rfl (fun P9 E9 S9 M9 A9 B9 me9 c9 C hname => ?_)
  unfold F_X9_writesNumber at hF
  have fr : rx_fr [(m, 9)] h h := rx_fr0
  refine rx_iload_n C dX9_writesNumber_0 1 rfl ?_
  refine rx_bipush C dX9_writesNumber_1 (9 : Int32) (by decide) ?_
  replace hF := rx_biE hF; obtain ⟨zj1, e_zj1, hF⟩ := hF
  have KJ2 : ∀ hh : hp, bM k m zj1 hh → rx_fr [(m, 9)] h hh → rx_W P9 l E9 (rx_rm 1 21) S9 M9 A9 B9 me9 c9 (MQ B9 (va_Qv (fun u => u.2 = n ∧ bM k m y u.1 ∧ rx_fr [(m, 9)] h u.1) (rx_B G k) (rx_A k)) A9 S9 0 0 (rx_A k)) G k 2 0 0 hh n 17 [(0, .ref m), (1, .int x1)] [] := by
    intro hh b_m fr
    refine rx_aload_n C dX9_writesNumber_17 0 rfl ?_
    refine rx_bipush C dX9_writesNumber_18 (48 : Int32) (by decide) ?_
    refine rx_iload_n C dX9_writesNumber_20 1 rfl ?_
    refine rx_bipush C dX9_writesNumber_21 (10 : Int32) (by decide) ?_
    refine rx_irem C dX9_writesNumber_23 (by decide) ?_
    refine rx_iadd C dX9_writesNumber_24 ?_
    replace hF := rx_biE hF; obtain ⟨y3, e_y3, hF⟩ := hF
    refine rx_cv (rx_rV C (w_X9_writes e_y3 b_m) Y_X9_writes V_X9_writes m_X9_358 (Or.inl ⟨_, _, _, _, b_m.1, rfl⟩) ⟨⟨rfl, rfl⟩, ⟨(Nat.le_of_ble_eq_true rfl), (Nat.le_of_ble_eq_true rfl)⟩, ⟨(Nat.le_of_ble_eq_true rfl), (Nat.le_of_ble_eq_true rfl)⟩⟩ rfl rfl (Nat.le_of_ble_eq_true rfl) dX9_writesNumber_25) (fun hh n1 hpp => ?_)
    obtain ⟨hn, c_m, ff⟩ := hpp
    replace hn : n = n1 := Eq.symm hn
    subst hn
    replace b_m : bM k m y3 hh := c_m
    clear c_m
    replace ff : rx_fr [(m, 9)] _ hh := ff
    replace fr := rx_frt fr ff (fun a ha => ⟨ha.1, trivial⟩)
    obtain rfl := Option.some.inj hF
    exact rx_vret C dX9_writesNumber_28 (Nat.le_refl _) (Nat.le_refl _) ⟨rfl, b_m, fr⟩
  replace hF := e_zj1
  clear e_zj1
  refine rx_icmp_le C dX9_writesNumber_3 17 (by decide) (fun c4 => ?_) (fun c4 => ?_)
  · rw [if_pos c4] at hF
    obtain rfl := Option.some.inj hF
    refine rx_sub [0, 1] rfl ?_
    exact KJ2 _ b_m fr
  · rw [if_neg c4] at hF
    refine rx_aload_n C dX9_writesNumber_6 0 rfl ?_
    refine rx_bipush C dX9_writesNumber_7 (48 : Int32) (by decide) ?_
    refine rx_iload_n C dX9_writesNumber_9 1 rfl ?_
    refine rx_bipush C dX9_writesNumber_10 (10 : Int32) (by decide) ?_
    refine rx_idiv C dX9_writesNumber_12 (by decide) ?_
    refine rx_iadd C dX9_writesNumber_13 ?_
    replace hF := rx_biE hF; obtain ⟨y5, e_y5, hF⟩ := hF
    refine rx_cv (rx_rV C (w_X9_writes e_y5 b_m) Y_X9_writes V_X9_writes m_X9_358 (Or.inl ⟨_, _, _, _, b_m.1, rfl⟩) ⟨⟨rfl, rfl⟩, ⟨(Nat.le_of_ble_eq_true rfl), (Nat.le_of_ble_eq_true rfl)⟩, ⟨(Nat.le_of_ble_eq_true rfl), (Nat.le_of_ble_eq_true rfl)⟩⟩ rfl rfl (Nat.le_of_ble_eq_true rfl) dX9_writesNumber_14) (fun hh n1 hpp => ?_)
    obtain ⟨hn, c_m, ff⟩ := hpp
    replace hn : n = n1 := Eq.symm hn
    subst hn
    replace b_m : bM k m y5 hh := c_m
    clear c_m
    replace ff : rx_fr [(m, 9)] _ hh := ff
    replace fr := rx_frt fr ff (fun a ha => ⟨ha.1, trivial⟩)
    obtain rfl := Option.some.inj hF
    refine rx_sub [0, 1] rfl ?_
    exact KJ2 _ b_m fr
def F_X9_writeQueue_12 (x1 : Int32) : Nat → ob → Int32 → Option (Int32 × ob)
  | 0, _, _ => none
  | fu + 1, om, x2 => (F_X9_truth x1).bind fun y5 => (F_X9_lengthOf om y5).bind fun y6 => if y6 ≤ x2 then (some (x2, om)) else ((F_X9_truth x1).bind fun y8 => (F_X9_at om y8 x2).bind fun y9 => (if x2 ≤ (0 : Int32) then (some om) else ((F_X9_writes om ((32 : Int32))).bind fun y23 => some y23)).bind fun zj10 => (F_X9_writesNumber zj10 y9).bind fun y12 => (F_X9_writes y12 ((58 : Int32))).bind fun y13 => (F_X9_of y13 y9 ((6 : Int32))).bind fun y14 => (F_X9_writesNumber y13 ((y14 - (1 : Int32)))).bind fun y15 => (F_X9_rankOf y15 y9).bind fun y16 => (F_X9_isTaken y15 y9 y16).bind fun y17 => (if y17 = (0 : Int32) then (some y15) else ((F_X9_writes y15 ((33 : Int32))).bind fun y21 => some y21)).bind fun zj18 => F_X9_writeQueue_12 x1 fu zj18 ((x2 + 1)))
def F_X9_writeQueue (om : ob) (x1 : Int32) : Option (Int32 × ob) := rx_le (upd om.1 0 ((0 : Int32)), om.2) fun o_m_1 => rx_le (upd o_m_1.1 20 ((0 : Int32)), o_m_1.2) fun o_m_2 => (F_X9_writeQueue_12 x1 100000 o_m_2 ((0 : Int32))).bind fun zl24 => some ((zl24.2.1 20), zl24.2)
set_option maxRecDepth 100000 in
set_option maxHeartbeats 4000000 in
theorem w_X9_writeQueue {m : Nat} {om : ob} {x1 : Int32} {y : Int32 × ob} (hF : F_X9_writeQueue om x1 = some y) (b_m : bM k m om h) : Met l yX9_writeQueue (rx_ws yX9_writeQueue cX9_writeQueue 4 (some .int)) (rx_rm 4 90) (va_Pc [.ref m, .int x1] (rx_G G k h n)) (va_Qi (fun r u => y.1 = r ∧ u.2 = n ∧ bM k m y.2 u.1 ∧ rx_fr [(m, 9)] h u.1) (rx_B G k) (rx_A k)) 0 0 (rx_A k) := by
  refine rx_start [(0, .ref m), (1, .int x1)] rfl (Nat.le_of_ble_eq_true rfl) (by decide) rfl (fun P9 E9 S9 M9 A9 B9 me9 c9 C hname => ?_)
  unfold F_X9_writeQueue at hF
  have fr : rx_fr [(m, 9)] h h := rx_fr0
  refine rx_aload_n C dX9_writeQueue_0 0 rfl ?_
  refine rx_iconst C dX9_writeQueue_1 (0 : Int32) (by decide) ?_
  replace hF := rx_leE hF; obtain ⟨o_m_1, e_o_m_1, hF⟩ := hF
  refine rx_pM0 C f_X9_1 dX9_writeQueue_2 b_m e_o_m_1 (fun hh c_m ff => ?_)
  replace b_m := c_m
  replace fr := rx_frt fr ff (fun a ha => ⟨ha.1, trivial⟩)
  refine rx_aload_n C dX9_writeQueue_5 0 rfl ?_
  refine rx_iconst C dX9_writeQueue_6 (0 : Int32) (by decide) ?_
  replace hF := rx_leE hF; obtain ⟨o_m_2, e_o_m_2, hF⟩ := hF
  refine rx_pM20 C f_X9_355 dX9_writeQueue_7 b_m e_o_m_2 (fun hh c_m ff => ?_)
  replace b_m := c_m
  replace fr := rx_frt fr ff (fun a ha => ⟨ha.1, trivial⟩)
  refine rx_iconst C dX9_writeQueue_10 (0 : Int32) (by decide) ?_
  refine rx_istore_n C dX9_writeQueue_11 (by decide) [(2, .int ((0 : Int32))), (0, .ref m), (1, .int x1)] rfl ?_
  have loop4 : ∀ (fu : Nat) (zz : Int32 × ob) (om : ob) (x2 : Int32) (hh : hp), F_X9_writeQueue_12 x1 fu om x2 = some zz → bM k m om hh → rx_fr [(m, 9)] h hh → (∀ hh : hp, bM k m zz.2 hh → rx_fr [(m, 9)] h hh → rx_W P9 l E9 (rx_rm 4 90) S9 M9 A9 B9 me9 c9 (MQ B9 (va_Qi (fun r u => y.1 = r ∧ u.2 = n ∧ bM k m y.2 u.1 ∧ rx_fr [(m, 9)] h u.1) (rx_B G k) (rx_A k)) A9 S9 0 0 (rx_A k)) G k 4 0 0 hh n 93 [(0, .ref m), (1, .int x1), (2, .int zz.1)] []) → rx_W P9 l E9 (rx_rm 4 90) S9 M9 A9 B9 me9 c9 (MQ B9 (va_Qi (fun r u => y.1 = r ∧ u.2 = n ∧ bM k m y.2 u.1 ∧ rx_fr [(m, 9)] h u.1) (rx_B G k) (rx_A k)) A9 S9 0 0 (rx_A k)) G k 4 0 0 hh n 12 [(0, .ref m), (1, .int x1), (2, .int x2)] [] := by
    intro fu
    induction fu with
    | zero => intro zz om x2 hh hF b_m fr KK; exact absurd hF (by simp [F_X9_writeQueue_12])
    | succ fu ih_loop4 =>
      intro zz om x2 hh hF b_m fr KK
      unfold F_X9_writeQueue_12 at hF
      refine rx_iload_n C dX9_writeQueue_12 2 rfl ?_
      refine rx_aload_n C dX9_writeQueue_13 0 rfl ?_
      refine rx_iload_n C dX9_writeQueue_14 1 rfl ?_
      replace hF := rx_biE hF; obtain ⟨y5, e_y5, hF⟩ := hF
      refine rx_ci (rx_rS C (w_X9_truth e_y5 ) Y_X9_truth S_X9_truth m_X9_85 ⟨⟨rfl, rfl⟩, ⟨(Nat.le_of_ble_eq_true rfl), (Nat.le_of_ble_eq_true rfl)⟩, ⟨(Nat.le_of_ble_eq_true rfl), (Nat.le_of_ble_eq_true rfl)⟩⟩ rfl rfl (Nat.le_of_ble_eq_true rfl) dX9_writeQueue_15) (fun r hh n1 hpp => ?_)
      obtain ⟨rfl, hu⟩ := hpp
      cases hu
      replace hF := rx_biE hF; obtain ⟨y6, e_y6, hF⟩ := hF
      refine rx_ci (rx_rV C (w_X9_lengthOf e_y6 b_m) Y_X9_lengthOf V_X9_lengthOf m_X9_278 (Or.inl ⟨_, _, _, _, b_m.1, rfl⟩) ⟨⟨rfl, rfl⟩, ⟨(Nat.le_of_ble_eq_true rfl), (Nat.le_of_ble_eq_true rfl)⟩, ⟨(Nat.le_of_ble_eq_true rfl), (Nat.le_of_ble_eq_true rfl)⟩⟩ rfl rfl (Nat.le_of_ble_eq_true rfl) dX9_writeQueue_18) (fun r hh n1 hpp => ?_)
      obtain ⟨rfl, hu⟩ := hpp
      cases hu
      refine rx_icmp_ge C dX9_writeQueue_21 93 (by decide) (fun c7 => ?_) (fun c7 => ?_)
      · rw [if_pos c7] at hF
        obtain rfl := Option.some.inj hF
        refine rx_sub [0, 1, 2] rfl ?_
        exact KK _ b_m fr
      · rw [if_neg c7] at hF
        refine rx_aload_n C dX9_writeQueue_24 0 rfl ?_
        refine rx_iload_n C dX9_writeQueue_25 1 rfl ?_
        replace hF := rx_biE hF; obtain ⟨y8, e_y8, hF⟩ := hF
        refine rx_ci (rx_rS C (w_X9_truth e_y8 ) Y_X9_truth S_X9_truth m_X9_85 ⟨⟨rfl, rfl⟩, ⟨(Nat.le_of_ble_eq_true rfl), (Nat.le_of_ble_eq_true rfl)⟩, ⟨(Nat.le_of_ble_eq_true rfl), (Nat.le_of_ble_eq_true rfl)⟩⟩ rfl rfl (Nat.le_of_ble_eq_true rfl) dX9_writeQueue_26) (fun r hh n1 hpp => ?_)
        obtain ⟨rfl, hu⟩ := hpp
        cases hu
        refine rx_iload_n C dX9_writeQueue_29 2 rfl ?_
        replace hF := rx_biE hF; obtain ⟨y9, e_y9, hF⟩ := hF
        refine rx_ci (rx_rV C (w_X9_at e_y9 b_m) Y_X9_at V_X9_at m_X9_118 (Or.inl ⟨_, _, _, _, b_m.1, rfl⟩) ⟨⟨rfl, rfl⟩, ⟨(Nat.le_of_ble_eq_true rfl), (Nat.le_of_ble_eq_true rfl)⟩, ⟨(Nat.le_of_ble_eq_true rfl), (Nat.le_of_ble_eq_true rfl)⟩⟩ rfl rfl (Nat.le_of_ble_eq_true rfl) dX9_writeQueue_30) (fun r hh n1 hpp => ?_)
        obtain ⟨rfl, hu⟩ := hpp
        cases hu
        refine rx_istore_n C dX9_writeQueue_33 (by decide) [(3, .int y9), (0, .ref m), (1, .int x1), (2, .int x2)] rfl ?_
        refine rx_iload_n C dX9_writeQueue_34 3 rfl ?_
        replace hF := rx_biE hF; obtain ⟨zj10, e_zj10, hF⟩ := hF
        have KJ11 : ∀ hh : hp, bM k m zj10 hh → rx_fr [(m, 9)] h hh → rx_W P9 l E9 (rx_rm 4 90) S9 M9 A9 B9 me9 c9 (MQ B9 (va_Qi (fun r u => y.1 = r ∧ u.2 = n ∧ bM k m y.2 u.1 ∧ rx_fr [(m, 9)] h u.1) (rx_B G k) (rx_A k)) A9 S9 0 0 (rx_A k)) G k 4 0 0 hh n 44 [(0, .ref m), (1, .int x1), (2, .int x2), (3, .int y9)] [] := by
          intro hh b_m fr
          refine rx_aload_n C dX9_writeQueue_44 0 rfl ?_
          refine rx_iload_n C dX9_writeQueue_45 3 rfl ?_
          replace hF := rx_biE hF; obtain ⟨y12, e_y12, hF⟩ := hF
          refine rx_cv (rx_rV C (w_X9_writesNumber e_y12 b_m) Y_X9_writesNumber V_X9_writesNumber m_X9_361 (Or.inl ⟨_, _, _, _, b_m.1, rfl⟩) ⟨⟨rfl, rfl⟩, ⟨(Nat.le_of_ble_eq_true rfl), (Nat.le_of_ble_eq_true rfl)⟩, ⟨(Nat.le_of_ble_eq_true rfl), (Nat.le_of_ble_eq_true rfl)⟩⟩ rfl rfl (Nat.le_of_ble_eq_true rfl) dX9_writeQueue_46) (fun hh n1 hpp => ?_)
          obtain ⟨hn, c_m, ff⟩ := hpp
          replace hn : n = n1 := Eq.symm hn
          subst hn
          replace b_m : bM k m y12 hh := c_m
          clear c_m
          replace ff : rx_fr [(m, 9)] _ hh := ff
          replace fr := rx_frt fr ff (fun a ha => ⟨ha.1, trivial⟩)
          refine rx_aload_n C dX9_writeQueue_49 0 rfl ?_
          refine rx_bipush C dX9_writeQueue_50 (58 : Int32) (by decide) ?_
          replace hF := rx_biE hF; obtain ⟨y13, e_y13, hF⟩ := hF
          refine rx_cv (rx_rV C (w_X9_writes e_y13 b_m) Y_X9_writes V_X9_writes m_X9_358 (Or.inl ⟨_, _, _, _, b_m.1, rfl⟩) ⟨⟨rfl, rfl⟩, ⟨(Nat.le_of_ble_eq_true rfl), (Nat.le_of_ble_eq_true rfl)⟩, ⟨(Nat.le_of_ble_eq_true rfl), (Nat.le_of_ble_eq_true rfl)⟩⟩ rfl rfl (Nat.le_of_ble_eq_true rfl) dX9_writeQueue_52) (fun hh n1 hpp => ?_)
          obtain ⟨hn, c_m, ff⟩ := hpp
          replace hn : n = n1 := Eq.symm hn
          subst hn
          replace b_m : bM k m y13 hh := c_m
          clear c_m
          replace ff : rx_fr [(m, 9)] _ hh := ff
          replace fr := rx_frt fr ff (fun a ha => ⟨ha.1, trivial⟩)
          refine rx_aload_n C dX9_writeQueue_55 0 rfl ?_
          refine rx_aload_n C dX9_writeQueue_56 0 rfl ?_
          refine rx_iload_n C dX9_writeQueue_57 3 rfl ?_
          refine rx_bipush C dX9_writeQueue_58 (6 : Int32) (by decide) ?_
          replace hF := rx_biE hF; obtain ⟨y14, e_y14, hF⟩ := hF
          refine rx_ci (rx_rV C (w_X9_of e_y14 b_m) Y_X9_of V_X9_of m_X9_60 (Or.inl ⟨_, _, _, _, b_m.1, rfl⟩) ⟨⟨rfl, rfl⟩, ⟨(Nat.le_of_ble_eq_true rfl), (Nat.le_of_ble_eq_true rfl)⟩, ⟨(Nat.le_of_ble_eq_true rfl), (Nat.le_of_ble_eq_true rfl)⟩⟩ rfl rfl (Nat.le_of_ble_eq_true rfl) dX9_writeQueue_60) (fun r hh n1 hpp => ?_)
          obtain ⟨rfl, hu⟩ := hpp
          cases hu
          refine rx_iconst C dX9_writeQueue_63 (1 : Int32) (by decide) ?_
          refine rx_isub C dX9_writeQueue_64 ?_
          replace hF := rx_biE hF; obtain ⟨y15, e_y15, hF⟩ := hF
          refine rx_cv (rx_rV C (w_X9_writesNumber e_y15 b_m) Y_X9_writesNumber V_X9_writesNumber m_X9_361 (Or.inl ⟨_, _, _, _, b_m.1, rfl⟩) ⟨⟨rfl, rfl⟩, ⟨(Nat.le_of_ble_eq_true rfl), (Nat.le_of_ble_eq_true rfl)⟩, ⟨(Nat.le_of_ble_eq_true rfl), (Nat.le_of_ble_eq_true rfl)⟩⟩ rfl rfl (Nat.le_of_ble_eq_true rfl) dX9_writeQueue_65) (fun hh n1 hpp => ?_)
          obtain ⟨hn, c_m, ff⟩ := hpp
          replace hn : n = n1 := Eq.symm hn
          subst hn
          replace b_m : bM k m y15 hh := c_m
          clear c_m
          replace ff : rx_fr [(m, 9)] _ hh := ff
          replace fr := rx_frt fr ff (fun a ha => ⟨ha.1, trivial⟩)
          refine rx_aload_n C dX9_writeQueue_68 0 rfl ?_
          refine rx_iload_n C dX9_writeQueue_69 3 rfl ?_
          refine rx_aload_n C dX9_writeQueue_70 0 rfl ?_
          refine rx_iload_n C dX9_writeQueue_71 3 rfl ?_
          replace hF := rx_biE hF; obtain ⟨y16, e_y16, hF⟩ := hF
          refine rx_ci (rx_rV C (w_X9_rankOf e_y16 b_m) Y_X9_rankOf V_X9_rankOf m_X9_102 (Or.inl ⟨_, _, _, _, b_m.1, rfl⟩) ⟨⟨rfl, rfl⟩, ⟨(Nat.le_of_ble_eq_true rfl), (Nat.le_of_ble_eq_true rfl)⟩, ⟨(Nat.le_of_ble_eq_true rfl), (Nat.le_of_ble_eq_true rfl)⟩⟩ rfl rfl (Nat.le_of_ble_eq_true rfl) dX9_writeQueue_72) (fun r hh n1 hpp => ?_)
          obtain ⟨rfl, hu⟩ := hpp
          cases hu
          replace hF := rx_biE hF; obtain ⟨y17, e_y17, hF⟩ := hF
          refine rx_ci (rx_rV C (w_X9_isTaken e_y17 b_m) Y_X9_isTaken V_X9_isTaken m_X9_75 (Or.inl ⟨_, _, _, _, b_m.1, rfl⟩) ⟨⟨rfl, rfl⟩, ⟨(Nat.le_of_ble_eq_true rfl), (Nat.le_of_ble_eq_true rfl)⟩, ⟨(Nat.le_of_ble_eq_true rfl), (Nat.le_of_ble_eq_true rfl)⟩⟩ rfl rfl (Nat.le_of_ble_eq_true rfl) dX9_writeQueue_75) (fun r hh n1 hpp => ?_)
          obtain ⟨rfl, bo_y17, hu⟩ := hpp
          cases hu
          replace hF := rx_biE hF; obtain ⟨zj18, e_zj18, hF⟩ := hF
          have KJ19 : ∀ hh : hp, bM k m zj18 hh → rx_fr [(m, 9)] h hh → rx_W P9 l E9 (rx_rm 4 90) S9 M9 A9 B9 me9 c9 (MQ B9 (va_Qi (fun r u => y.1 = r ∧ u.2 = n ∧ bM k m y.2 u.1 ∧ rx_fr [(m, 9)] h u.1) (rx_B G k) (rx_A k)) A9 S9 0 0 (rx_A k)) G k 4 0 0 hh n 87 [(0, .ref m), (1, .int x1), (2, .int x2), (3, .int y9)] [] := by
            intro hh b_m fr
            refine rx_iinc C dX9_writeQueue_87 2 rfl (x2 + 1) rfl (by decide) [(2, .int ((x2 + 1))), (0, .ref m), (1, .int x1), (3, .int y9)] rfl ?_
            refine rx_goto C dX9_writeQueue_90 12 (by decide) ?_
            refine rx_sub [1, 2, 0] rfl ?_
            exact ih_loop4 _ _ _ _ hF b_m fr KK
          replace hF := e_zj18
          clear e_zj18
          refine rx_if_eq C dX9_writeQueue_78 87 (by decide) (fun c20 => ?_) (fun c20 => ?_)
          · rw [if_pos c20] at hF
            obtain rfl := Option.some.inj hF
            refine rx_sub [0, 1, 2, 3] rfl ?_
            exact KJ19 _ b_m fr
          · rw [if_neg c20] at hF
            refine rx_aload_n C dX9_writeQueue_81 0 rfl ?_
            refine rx_bipush C dX9_writeQueue_82 (33 : Int32) (by decide) ?_
            replace hF := rx_biE hF; obtain ⟨y21, e_y21, hF⟩ := hF
            refine rx_cv (rx_rV C (w_X9_writes e_y21 b_m) Y_X9_writes V_X9_writes m_X9_358 (Or.inl ⟨_, _, _, _, b_m.1, rfl⟩) ⟨⟨rfl, rfl⟩, ⟨(Nat.le_of_ble_eq_true rfl), (Nat.le_of_ble_eq_true rfl)⟩, ⟨(Nat.le_of_ble_eq_true rfl), (Nat.le_of_ble_eq_true rfl)⟩⟩ rfl rfl (Nat.le_of_ble_eq_true rfl) dX9_writeQueue_84) (fun hh n1 hpp => ?_)
            obtain ⟨hn, c_m, ff⟩ := hpp
            replace hn : n = n1 := Eq.symm hn
            subst hn
            replace b_m : bM k m y21 hh := c_m
            clear c_m
            replace ff : rx_fr [(m, 9)] _ hh := ff
            replace fr := rx_frt fr ff (fun a ha => ⟨ha.1, trivial⟩)
            obtain rfl := Option.some.inj hF
            refine rx_sub [0, 1, 2, 3] rfl ?_
            exact KJ19 _ b_m fr
        replace hF := e_zj10
        clear e_zj10
        refine rx_if_le C dX9_writeQueue_35 44 (by decide) (fun c22 => ?_) (fun c22 => ?_)
        · rw [if_pos c22] at hF
          obtain rfl := Option.some.inj hF
          refine rx_sub [1, 2, 3, 0] rfl ?_
          exact KJ11 _ b_m fr
        · rw [if_neg c22] at hF
          refine rx_aload_n C dX9_writeQueue_38 1 rfl ?_
          refine rx_bipush C dX9_writeQueue_39 (32 : Int32) (by decide) ?_
          replace hF := rx_biE hF; obtain ⟨y23, e_y23, hF⟩ := hF
          refine rx_cv (rx_rV C (w_X9_writes e_y23 b_m) Y_X9_writes V_X9_writes m_X9_358 (Or.inl ⟨_, _, _, _, b_m.1, rfl⟩) ⟨⟨rfl, rfl⟩, ⟨(Nat.le_of_ble_eq_true rfl), (Nat.le_of_ble_eq_true rfl)⟩, ⟨(Nat.le_of_ble_eq_true rfl), (Nat.le_of_ble_eq_true rfl)⟩⟩ rfl rfl (Nat.le_of_ble_eq_true rfl) dX9_writeQueue_41) (fun hh n1 hpp => ?_)
          obtain ⟨hn, c_m, ff⟩ := hpp
          replace hn : n = n1 := Eq.symm hn
          subst hn
          replace b_m : bM k m y23 hh := c_m
          clear c_m
          replace ff : rx_fr [(m, 9)] _ hh := ff
          replace fr := rx_frt fr ff (fun a ha => ⟨ha.1, trivial⟩)
          obtain rfl := Option.some.inj hF
          refine rx_sub [1, 2, 3, 0] rfl ?_
          exact KJ11 _ b_m fr
  refine rx_sub [1, 2, 0] rfl ?_
  replace hF := rx_biE hF; obtain ⟨zl24, e_zl24, hF⟩ := hF
  refine loop4 _ zl24 _ _ _ e_zl24 b_m fr (fun hh b_m fr => ?_)
  refine rx_aload_n C dX9_writeQueue_93 0 rfl ?_
  refine rx_getf C f_X9_355 dX9_writeQueue_94 b_m.1 rfl ?_
  obtain rfl := Option.some.inj hF
  exact rx_iret C dX9_writeQueue_97 (Nat.le_refl _) (Nat.le_refl _) ⟨rfl, rfl, b_m, fr⟩
def F_X9_outputByte (om : ob) (x1 : Int32) : Option (Int32 × ob) := rx_le (upd om.1 0 ((0 : Int32)), om.2) fun o_m_1 => (F_X9_in x1 ((0 : Int32)) (((o_m_1.1 20) - (1 : Int32)))).bind fun y2 => (F_X9_fails o_m_1 y2 ((1 : Int32))).bind fun y3 => if y3.1 = (0 : Int32) then ((rx_ald 80 (y3.2.2 19) x1).bind fun v5 => some (v5, y3.2)) else (some ((0 : Int32), y3.2))
set_option maxRecDepth 100000 in
set_option maxHeartbeats 4000000 in
theorem w_X9_outputByte {m : Nat} {om : ob} {x1 : Int32} {y : Int32 × ob} (hF : F_X9_outputByte om x1 = some y) (b_m : bM k m om h) : Met l yX9_outputByte (rx_ws yX9_outputByte cX9_outputByte 2 (some .int)) (rx_rm 1 22) (va_Pc [.ref m, .int x1] (rx_G G k h n)) (va_Qi (fun r u => y.1 = r ∧ u.2 = n ∧ bM k m y.2 u.1 ∧ rx_fr [(m, 9)] h u.1) (rx_B G k) (rx_A k)) 0 0 (rx_A k) := by
  refine rx_start [(0, .ref m), (1, .int x1)] rfl (Nat.le_of_ble_eq_true rfl) (by decide) rfl (fun P9 E9 S9 M9 A9 B9 me9 c9 C hname => ?_)
  unfold F_X9_outputByte at hF
  have fr : rx_fr [(m, 9)] h h := rx_fr0
  refine rx_aload_n C dX9_outputByte_0 0 rfl ?_
  refine rx_iconst C dX9_outputByte_1 (0 : Int32) (by decide) ?_
  replace hF := rx_leE hF; obtain ⟨o_m_1, e_o_m_1, hF⟩ := hF
  refine rx_pM0 C f_X9_1 dX9_outputByte_2 b_m e_o_m_1 (fun hh c_m ff => ?_)
  replace b_m := c_m
  replace fr := rx_frt fr ff (fun a ha => ⟨ha.1, trivial⟩)
  refine rx_aload_n C dX9_outputByte_5 0 rfl ?_
  refine rx_iload_n C dX9_outputByte_6 1 rfl ?_
  refine rx_iconst C dX9_outputByte_7 (0 : Int32) (by decide) ?_
  refine rx_aload_n C dX9_outputByte_8 0 rfl ?_
  refine rx_getf C f_X9_355 dX9_outputByte_9 b_m.1 rfl ?_
  refine rx_iconst C dX9_outputByte_12 (1 : Int32) (by decide) ?_
  refine rx_isub C dX9_outputByte_13 ?_
  replace hF := rx_biE hF; obtain ⟨y2, e_y2, hF⟩ := hF
  refine rx_ci (rx_rS C (w_X9_in e_y2 ) Y_X9_in S_X9_in m_X9_200 ⟨⟨rfl, rfl⟩, ⟨(Nat.le_of_ble_eq_true rfl), (Nat.le_of_ble_eq_true rfl)⟩, ⟨(Nat.le_of_ble_eq_true rfl), (Nat.le_of_ble_eq_true rfl)⟩⟩ rfl rfl (Nat.le_of_ble_eq_true rfl) dX9_outputByte_14) (fun r hh n1 hpp => ?_)
  obtain ⟨rfl, bo_y2, hu⟩ := hpp
  cases hu
  refine rx_iconst C dX9_outputByte_17 (1 : Int32) (by decide) ?_
  replace hF := rx_biE hF; obtain ⟨y3, e_y3, hF⟩ := hF
  refine rx_ci (rx_rV C (w_X9_fails e_y3 b_m) Y_X9_fails V_X9_fails m_X9_239 (Or.inl ⟨_, _, _, _, b_m.1, rfl⟩) ⟨⟨rfl, rfl⟩, ⟨(Nat.le_of_ble_eq_true rfl), (Nat.le_of_ble_eq_true rfl)⟩, ⟨(Nat.le_of_ble_eq_true rfl), (Nat.le_of_ble_eq_true rfl)⟩⟩ rfl rfl (Nat.le_of_ble_eq_true rfl) dX9_outputByte_18) (fun r hh n1 hpp => ?_)
  obtain ⟨rfl, bo_y3, hn, c_m, ff⟩ := hpp
  replace hn : n = n1 := Eq.symm hn
  subst hn
  replace b_m : bM k m y3.2 hh := c_m
  clear c_m
  replace ff : rx_fr [(m, 9)] _ hh := ff
  replace fr := rx_frt fr ff (fun a ha => ⟨ha.1, trivial⟩)
  refine rx_if_eq C dX9_outputByte_21 28 (by decide) (fun c4 => ?_) (fun c4 => ?_)
  · rw [if_pos c4] at hF
    refine rx_aload_n C dX9_outputByte_28 0 rfl ?_
    refine rx_getf C f_X9_38 dX9_outputByte_29 b_m.1 rfl ?_
    refine rx_iload_n C dX9_outputByte_32 1 rfl ?_
    replace hF := rx_biE hF; obtain ⟨v5, e_v5, hF⟩ := hF
    refine rx_aldF C dX9_outputByte_33 b_m.2.2.2.2.2.2.2.2 e_v5 ?_
    obtain rfl := Option.some.inj hF
    exact rx_iret C dX9_outputByte_34 (Nat.le_refl _) (Nat.le_refl _) ⟨rfl, rfl, b_m, fr⟩
  · rw [if_neg c4] at hF
    refine rx_iconst C dX9_outputByte_24 (0 : Int32) (by decide) ?_
    refine rx_goto C dX9_outputByte_25 34 (by decide) ?_
    obtain rfl := Option.some.inj hF
    exact rx_iret C dX9_outputByte_34 (Nat.le_refl _) (Nat.le_refl _) ⟨rfl, rfl, b_m, fr⟩
def F_X9_undoableCount (om : ob) : Option (Int32 × ob) := rx_le (upd om.1 0 ((0 : Int32)), om.2) fun o_m_1 => some ((o_m_1.1 6), o_m_1)
set_option maxRecDepth 100000 in
set_option maxHeartbeats 4000000 in
theorem w_X9_undoableCount {m : Nat} {om : ob} {y : Int32 × ob} (hF : F_X9_undoableCount om = some y) (b_m : bM k m om h) : Met l yX9_undoableCount (rx_ws yX9_undoableCount cX9_undoableCount 1 (some .int)) (rx_rm 0 0) (va_Pc [.ref m] (rx_G G k h n)) (va_Qi (fun r u => y.1 = r ∧ u.2 = n ∧ bM k m y.2 u.1 ∧ rx_fr [(m, 9)] h u.1) (rx_B G k) (rx_A k)) 0 0 (rx_A k) := by
  refine rx_start [(0, .ref m)] rfl (Nat.le_of_ble_eq_true rfl) (by decide) rfl (fun P9 E9 S9 M9 A9 B9 me9 c9 C hname => ?_)
  unfold F_X9_undoableCount at hF
  have fr : rx_fr [(m, 9)] h h := rx_fr0
  refine rx_aload_n C dX9_undoableCount_0 0 rfl ?_
  refine rx_iconst C dX9_undoableCount_1 (0 : Int32) (by decide) ?_
  replace hF := rx_leE hF; obtain ⟨o_m_1, e_o_m_1, hF⟩ := hF
  refine rx_pM0 C f_X9_1 dX9_undoableCount_2 b_m e_o_m_1 (fun hh c_m ff => ?_)
  replace b_m := c_m
  replace fr := rx_frt fr ff (fun a ha => ⟨ha.1, trivial⟩)
  refine rx_aload_n C dX9_undoableCount_5 0 rfl ?_
  refine rx_getf C f_X9_253 dX9_undoableCount_6 b_m.1 rfl ?_
  obtain rfl := Option.some.inj hF
  exact rx_iret C dX9_undoableCount_9 (Nat.le_refl _) (Nat.le_refl _) ⟨rfl, rfl, b_m, fr⟩
def F_X9_undo (om : ob) : Option (Int32 × ob) := rx_le (upd om.1 0 ((0 : Int32)), om.2) fun o_m_1 => if (o_m_1.1 6) ≤ (0 : Int32) then ((F_X9_fails o_m_1 ((0 : Int32)) ((1 : Int32))).bind fun y3 => if y3.1 = (0 : Int32) then (rx_le (upd y3.2.1 6 (((y3.2.1 6) - (1 : Int32))), y3.2.2) fun o_m_5 => (F_X9_copies_5_1 o_m_5 (((144 : Int32) * (o_m_5.1 6))) ((0 : Int32)) ((144 : Int32))).bind fun y6 => some ((y6.1 6), y6)) else (some ((0 : Int32), y3.2))) else ((F_X9_fails o_m_1 ((1 : Int32)) ((1 : Int32))).bind fun y7 => if y7.1 = (0 : Int32) then (rx_le (upd y7.2.1 6 (((y7.2.1 6) - (1 : Int32))), y7.2.2) fun o_m_9 => (F_X9_copies_5_1 o_m_9 (((144 : Int32) * (o_m_9.1 6))) ((0 : Int32)) ((144 : Int32))).bind fun y10 => some ((y10.1 6), y10)) else (some ((0 : Int32), y7.2)))
set_option maxRecDepth 100000 in
set_option maxHeartbeats 4000000 in
theorem w_X9_undo {m : Nat} {om : ob} {y : Int32 × ob} (hF : F_X9_undo om = some y) (b_m : bM k m om h) : Met l yX9_undo (rx_ws yX9_undo cX9_undo 1 (some .int)) (rx_rm 1 25) (va_Pc [.ref m] (rx_G G k h n)) (va_Qi (fun r u => y.1 = r ∧ u.2 = n ∧ bM k m y.2 u.1 ∧ rx_fr [(m, 9)] h u.1) (rx_B G k) (rx_A k)) 0 0 (rx_A k) := by
  refine rx_start [(0, .ref m)] rfl (Nat.le_of_ble_eq_true rfl) (by decide) rfl (fun P9 E9 S9 M9 A9 B9 me9 c9 C hname => ?_)
  unfold F_X9_undo at hF
  have fr : rx_fr [(m, 9)] h h := rx_fr0
  refine rx_aload_n C dX9_undo_0 0 rfl ?_
  refine rx_iconst C dX9_undo_1 (0 : Int32) (by decide) ?_
  replace hF := rx_leE hF; obtain ⟨o_m_1, e_o_m_1, hF⟩ := hF
  refine rx_pM0 C f_X9_1 dX9_undo_2 b_m e_o_m_1 (fun hh c_m ff => ?_)
  replace b_m := c_m
  replace fr := rx_frt fr ff (fun a ha => ⟨ha.1, trivial⟩)
  refine rx_aload_n C dX9_undo_5 0 rfl ?_
  refine rx_aload_n C dX9_undo_6 0 rfl ?_
  refine rx_getf C f_X9_253 dX9_undo_7 b_m.1 rfl ?_
  refine rx_if_le C dX9_undo_10 17 (by decide) (fun c2 => ?_) (fun c2 => ?_)
  · rw [if_pos c2] at hF
    refine rx_iconst C dX9_undo_17 (0 : Int32) (by decide) ?_
    refine rx_iconst C dX9_undo_18 (1 : Int32) (by decide) ?_
    replace hF := rx_biE hF; obtain ⟨y3, e_y3, hF⟩ := hF
    refine rx_ci (rx_rV C (w_X9_fails e_y3 b_m) Y_X9_fails V_X9_fails m_X9_239 (Or.inl ⟨_, _, _, _, b_m.1, rfl⟩) ⟨⟨rfl, rfl⟩, ⟨(Nat.le_of_ble_eq_true rfl), (Nat.le_of_ble_eq_true rfl)⟩, ⟨(Nat.le_of_ble_eq_true rfl), (Nat.le_of_ble_eq_true rfl)⟩⟩ rfl rfl (Nat.le_of_ble_eq_true rfl) dX9_undo_19) (fun r hh n1 hpp => ?_)
    obtain ⟨rfl, bo_y3, hn, c_m, ff⟩ := hpp
    replace hn : n = n1 := Eq.symm hn
    subst hn
    replace b_m : bM k m y3.2 hh := c_m
    clear c_m
    replace ff : rx_fr [(m, 9)] _ hh := ff
    replace fr := rx_frt fr ff (fun a ha => ⟨ha.1, trivial⟩)
    refine rx_if_eq C dX9_undo_22 27 (by decide) (fun c4 => ?_) (fun c4 => ?_)
    · rw [if_pos c4] at hF
      refine rx_aload_n C dX9_undo_27 0 rfl ?_
      refine rx_dup C dX9_undo_28 rfl ?_
      refine rx_getf C f_X9_253 dX9_undo_29 b_m.1 rfl ?_
      refine rx_iconst C dX9_undo_32 (1 : Int32) (by decide) ?_
      refine rx_isub C dX9_undo_33 ?_
      replace hF := rx_leE hF; obtain ⟨o_m_5, e_o_m_5, hF⟩ := hF
      refine rx_pM6 C f_X9_253 dX9_undo_34 b_m e_o_m_5 (fun hh c_m ff => ?_)
      replace b_m := c_m
      replace fr := rx_frt fr ff (fun a ha => ⟨ha.1, trivial⟩)
      refine rx_aload_n C dX9_undo_37 0 rfl ?_
      refine rx_getf C f_X9_26 dX9_undo_38 b_m.1 rfl ?_
      refine rx_sipush C dX9_undo_41 (144 : Int32) (by decide) ?_
      refine rx_aload_n C dX9_undo_44 0 rfl ?_
      refine rx_getf C f_X9_253 dX9_undo_45 b_m.1 rfl ?_
      refine rx_imul C dX9_undo_48 ?_
      refine rx_aload_n C dX9_undo_49 0 rfl ?_
      refine rx_getf C f_X9_13 dX9_undo_50 b_m.1 rfl ?_
      refine rx_iconst C dX9_undo_53 (0 : Int32) (by decide) ?_
      refine rx_sipush C dX9_undo_54 (144 : Int32) (by decide) ?_
      replace hF := rx_biE hF; obtain ⟨y6, e_y6, hF⟩ := hF
      refine rx_cv (rx_rS C (w_X9_copies_5_1 e_y6 b_m) Y_X9_copies S_X9_copies m_X9_243 ⟨⟨rfl, rfl⟩, ⟨(Nat.le_of_ble_eq_true rfl), (Nat.le_of_ble_eq_true rfl)⟩, ⟨(Nat.le_of_ble_eq_true rfl), (Nat.le_of_ble_eq_true rfl)⟩⟩ rfl rfl (Nat.le_of_ble_eq_true rfl) dX9_undo_57) (fun hh n1 hpp => ?_)
      obtain ⟨hn, c_m, ff⟩ := hpp
      replace hn : n = n1 := Eq.symm hn
      subst hn
      replace b_m : bM k m y6 hh := c_m
      clear c_m
      replace ff : rx_fr [(m, 9)] _ hh := ff
      replace fr := rx_frt fr ff (fun a ha => ⟨ha.1, trivial⟩)
      refine rx_aload_n C dX9_undo_60 0 rfl ?_
      refine rx_getf C f_X9_253 dX9_undo_61 b_m.1 rfl ?_
      obtain rfl := Option.some.inj hF
      exact rx_iret C dX9_undo_64 (Nat.le_refl _) (Nat.le_refl _) ⟨rfl, rfl, b_m, fr⟩
    · rw [if_neg c4] at hF
      refine rx_iconst C dX9_undo_25 (0 : Int32) (by decide) ?_
      obtain rfl := Option.some.inj hF
      exact rx_iret C dX9_undo_26 (Nat.le_refl _) (Nat.le_refl _) ⟨rfl, rfl, b_m, fr⟩
  · rw [if_neg c2] at hF
    refine rx_iconst C dX9_undo_13 (1 : Int32) (by decide) ?_
    refine rx_goto C dX9_undo_14 18 (by decide) ?_
    refine rx_iconst C dX9_undo_18 (1 : Int32) (by decide) ?_
    replace hF := rx_biE hF; obtain ⟨y7, e_y7, hF⟩ := hF
    refine rx_ci (rx_rV C (w_X9_fails e_y7 b_m) Y_X9_fails V_X9_fails m_X9_239 (Or.inl ⟨_, _, _, _, b_m.1, rfl⟩) ⟨⟨rfl, rfl⟩, ⟨(Nat.le_of_ble_eq_true rfl), (Nat.le_of_ble_eq_true rfl)⟩, ⟨(Nat.le_of_ble_eq_true rfl), (Nat.le_of_ble_eq_true rfl)⟩⟩ rfl rfl (Nat.le_of_ble_eq_true rfl) dX9_undo_19) (fun r hh n1 hpp => ?_)
    obtain ⟨rfl, bo_y7, hn, c_m, ff⟩ := hpp
    replace hn : n = n1 := Eq.symm hn
    subst hn
    replace b_m : bM k m y7.2 hh := c_m
    clear c_m
    replace ff : rx_fr [(m, 9)] _ hh := ff
    replace fr := rx_frt fr ff (fun a ha => ⟨ha.1, trivial⟩)
    refine rx_if_eq C dX9_undo_22 27 (by decide) (fun c8 => ?_) (fun c8 => ?_)
    · rw [if_pos c8] at hF
      refine rx_aload_n C dX9_undo_27 0 rfl ?_
      refine rx_dup C dX9_undo_28 rfl ?_
      refine rx_getf C f_X9_253 dX9_undo_29 b_m.1 rfl ?_
      refine rx_iconst C dX9_undo_32 (1 : Int32) (by decide) ?_
      refine rx_isub C dX9_undo_33 ?_
      replace hF := rx_leE hF; obtain ⟨o_m_9, e_o_m_9, hF⟩ := hF
      refine rx_pM6 C f_X9_253 dX9_undo_34 b_m e_o_m_9 (fun hh c_m ff => ?_)
      replace b_m := c_m
      replace fr := rx_frt fr ff (fun a ha => ⟨ha.1, trivial⟩)
      refine rx_aload_n C dX9_undo_37 0 rfl ?_
      refine rx_getf C f_X9_26 dX9_undo_38 b_m.1 rfl ?_
      refine rx_sipush C dX9_undo_41 (144 : Int32) (by decide) ?_
      refine rx_aload_n C dX9_undo_44 0 rfl ?_
      refine rx_getf C f_X9_253 dX9_undo_45 b_m.1 rfl ?_
      refine rx_imul C dX9_undo_48 ?_
      refine rx_aload_n C dX9_undo_49 0 rfl ?_
      refine rx_getf C f_X9_13 dX9_undo_50 b_m.1 rfl ?_
      refine rx_iconst C dX9_undo_53 (0 : Int32) (by decide) ?_
      refine rx_sipush C dX9_undo_54 (144 : Int32) (by decide) ?_
      replace hF := rx_biE hF; obtain ⟨y10, e_y10, hF⟩ := hF
      refine rx_cv (rx_rS C (w_X9_copies_5_1 e_y10 b_m) Y_X9_copies S_X9_copies m_X9_243 ⟨⟨rfl, rfl⟩, ⟨(Nat.le_of_ble_eq_true rfl), (Nat.le_of_ble_eq_true rfl)⟩, ⟨(Nat.le_of_ble_eq_true rfl), (Nat.le_of_ble_eq_true rfl)⟩⟩ rfl rfl (Nat.le_of_ble_eq_true rfl) dX9_undo_57) (fun hh n1 hpp => ?_)
      obtain ⟨hn, c_m, ff⟩ := hpp
      replace hn : n = n1 := Eq.symm hn
      subst hn
      replace b_m : bM k m y10 hh := c_m
      clear c_m
      replace ff : rx_fr [(m, 9)] _ hh := ff
      replace fr := rx_frt fr ff (fun a ha => ⟨ha.1, trivial⟩)
      refine rx_aload_n C dX9_undo_60 0 rfl ?_
      refine rx_getf C f_X9_253 dX9_undo_61 b_m.1 rfl ?_
      obtain rfl := Option.some.inj hF
      exact rx_iret C dX9_undo_64 (Nat.le_refl _) (Nat.le_refl _) ⟨rfl, rfl, b_m, fr⟩
    · rw [if_neg c8] at hF
      refine rx_iconst C dX9_undo_25 (0 : Int32) (by decide) ?_
      obtain rfl := Option.some.inj hF
      exact rx_iret C dX9_undo_26 (Nat.le_refl _) (Nat.le_refl _) ⟨rfl, rfl, b_m, fr⟩
def F_X9_saveSnapshot (om : ob) : Option (ob) := rx_le (upd om.1 0 ((0 : Int32)), om.2) fun o_m_1 => (F_X9_copies_1_3 o_m_1 ((0 : Int32)) ((0 : Int32)) ((144 : Int32))).bind fun y2 => rx_le (upd y2.1 7 ((1 : Int32)), y2.2) fun o_m_3 => some o_m_3
set_option maxRecDepth 100000 in
set_option maxHeartbeats 4000000 in
theorem w_X9_saveSnapshot {m : Nat} {om : ob} {y : ob} (hF : F_X9_saveSnapshot om = some y) (b_m : bM k m om h) : Met l yX9_saveSnapshot (rx_ws yX9_saveSnapshot cX9_saveSnapshot 1 none) (rx_rm 1 25) (va_Pc [.ref m] (rx_G G k h n)) (va_Qv (fun u => u.2 = n ∧ bM k m y u.1 ∧ rx_fr [(m, 9)] h u.1) (rx_B G k) (rx_A k)) 0 0 (rx_A k) := by
  refine rx_start [(0, .ref m)] rfl (Nat.le_of_ble_eq_true rfl) (by decide) rfl (fun P9 E9 S9 M9 A9 B9 me9 c9 C hname => ?_)
  unfold F_X9_saveSnapshot at hF
  have fr : rx_fr [(m, 9)] h h := rx_fr0
  refine rx_aload_n C dX9_saveSnapshot_0 0 rfl ?_
  refine rx_iconst C dX9_saveSnapshot_1 (0 : Int32) (by decide) ?_
  replace hF := rx_leE hF; obtain ⟨o_m_1, e_o_m_1, hF⟩ := hF
  refine rx_pM0 C f_X9_1 dX9_saveSnapshot_2 b_m e_o_m_1 (fun hh c_m ff => ?_)
  replace b_m := c_m
  replace fr := rx_frt fr ff (fun a ha => ⟨ha.1, trivial⟩)
  refine rx_aload_n C dX9_saveSnapshot_5 0 rfl ?_
  refine rx_getf C f_X9_13 dX9_saveSnapshot_6 b_m.1 rfl ?_
  refine rx_iconst C dX9_saveSnapshot_9 (0 : Int32) (by decide) ?_
  refine rx_aload_n C dX9_saveSnapshot_10 0 rfl ?_
  refine rx_getf C f_X9_20 dX9_saveSnapshot_11 b_m.1 rfl ?_
  refine rx_iconst C dX9_saveSnapshot_14 (0 : Int32) (by decide) ?_
  refine rx_sipush C dX9_saveSnapshot_15 (144 : Int32) (by decide) ?_
  replace hF := rx_biE hF; obtain ⟨y2, e_y2, hF⟩ := hF
  refine rx_cv (rx_rS C (w_X9_copies_1_3 e_y2 b_m) Y_X9_copies S_X9_copies m_X9_243 ⟨⟨rfl, rfl⟩, ⟨(Nat.le_of_ble_eq_true rfl), (Nat.le_of_ble_eq_true rfl)⟩, ⟨(Nat.le_of_ble_eq_true rfl), (Nat.le_of_ble_eq_true rfl)⟩⟩ rfl rfl (Nat.le_of_ble_eq_true rfl) dX9_saveSnapshot_18) (fun hh n1 hpp => ?_)
  obtain ⟨hn, c_m, ff⟩ := hpp
  replace hn : n = n1 := Eq.symm hn
  subst hn
  replace b_m : bM k m y2 hh := c_m
  clear c_m
  replace ff : rx_fr [(m, 9)] _ hh := ff
  replace fr := rx_frt fr ff (fun a ha => ⟨ha.1, trivial⟩)
  refine rx_aload_n C dX9_saveSnapshot_21 0 rfl ?_
  refine rx_iconst C dX9_saveSnapshot_22 (1 : Int32) (by decide) ?_
  replace hF := rx_leE hF; obtain ⟨o_m_3, e_o_m_3, hF⟩ := hF
  refine rx_pM7 C f_X9_256 dX9_saveSnapshot_23 b_m e_o_m_3 (Or.inr rfl) (fun hh c_m ff => ?_)
  replace b_m := c_m
  replace fr := rx_frt fr ff (fun a ha => ⟨ha.1, trivial⟩)
  obtain rfl := Option.some.inj hF
  exact rx_vret C dX9_saveSnapshot_26 (Nat.le_refl _) (Nat.le_refl _) ⟨rfl, b_m, fr⟩
def F_X9_restoreSnapshot (om : ob) : Option (Int32 × ob) := rx_le (upd om.1 0 ((0 : Int32)), om.2) fun o_m_1 => (F_X9_fails o_m_1 ((o_m_1.1 7)) ((1 : Int32))).bind fun y2 => if y2.1 = (0 : Int32) then ((F_X9_copies_3_1 y2.2 ((0 : Int32)) ((0 : Int32)) ((144 : Int32))).bind fun y4 => rx_le (upd y4.1 6 ((0 : Int32)), y4.2) fun o_m_5 => (rx_ald 144 (o_m_5.2 1) ((0 : Int32))).bind fun v6 => some (v6, o_m_5)) else (some ((0 : Int32), y2.2))
set_option maxRecDepth 100000 in
set_option maxHeartbeats 4000000 in
theorem w_X9_restoreSnapshot {m : Nat} {om : ob} {y : Int32 × ob} (hF : F_X9_restoreSnapshot om = some y) (b_m : bM k m om h) : Met l yX9_restoreSnapshot (rx_ws yX9_restoreSnapshot cX9_restoreSnapshot 1 (some .int)) (rx_rm 1 25) (va_Pc [.ref m] (rx_G G k h n)) (va_Qi (fun r u => y.1 = r ∧ u.2 = n ∧ bM k m y.2 u.1 ∧ rx_fr [(m, 9)] h u.1) (rx_B G k) (rx_A k)) 0 0 (rx_A k) := by
  refine rx_start [(0, .ref m)] rfl (Nat.le_of_ble_eq_true rfl) (by decide) rfl (fun P9 E9 S9 M9 A9 B9 me9 c9 C hname => ?_)
  unfold F_X9_restoreSnapshot at hF
  have fr : rx_fr [(m, 9)] h h := rx_fr0
  refine rx_aload_n C dX9_restoreSnapshot_0 0 rfl ?_
  refine rx_iconst C dX9_restoreSnapshot_1 (0 : Int32) (by decide) ?_
  replace hF := rx_leE hF; obtain ⟨o_m_1, e_o_m_1, hF⟩ := hF
  refine rx_pM0 C f_X9_1 dX9_restoreSnapshot_2 b_m e_o_m_1 (fun hh c_m ff => ?_)
  replace b_m := c_m
  replace fr := rx_frt fr ff (fun a ha => ⟨ha.1, trivial⟩)
  refine rx_aload_n C dX9_restoreSnapshot_5 0 rfl ?_
  refine rx_aload_n C dX9_restoreSnapshot_6 0 rfl ?_
  refine rx_getf C f_X9_256 dX9_restoreSnapshot_7 b_m.1 rfl ?_
  refine rx_iconst C dX9_restoreSnapshot_10 (1 : Int32) (by decide) ?_
  replace hF := rx_biE hF; obtain ⟨y2, e_y2, hF⟩ := hF
  refine rx_ci (rx_rV C (w_X9_fails e_y2 b_m) Y_X9_fails V_X9_fails m_X9_239 (Or.inl ⟨_, _, _, _, b_m.1, rfl⟩) ⟨⟨rfl, rfl⟩, ⟨(Nat.le_of_ble_eq_true rfl), (Nat.le_of_ble_eq_true rfl)⟩, ⟨(Nat.le_of_ble_eq_true rfl), (Nat.le_of_ble_eq_true rfl)⟩⟩ rfl rfl (Nat.le_of_ble_eq_true rfl) dX9_restoreSnapshot_11) (fun r hh n1 hpp => ?_)
  obtain ⟨rfl, bo_y2, hn, c_m, ff⟩ := hpp
  replace hn : n = n1 := Eq.symm hn
  subst hn
  replace b_m : bM k m y2.2 hh := c_m
  clear c_m
  replace ff : rx_fr [(m, 9)] _ hh := ff
  replace fr := rx_frt fr ff (fun a ha => ⟨ha.1, trivial⟩)
  refine rx_if_eq C dX9_restoreSnapshot_14 19 (by decide) (fun c3 => ?_) (fun c3 => ?_)
  · rw [if_pos c3] at hF
    refine rx_aload_n C dX9_restoreSnapshot_19 0 rfl ?_
    refine rx_getf C f_X9_20 dX9_restoreSnapshot_20 b_m.1 rfl ?_
    refine rx_iconst C dX9_restoreSnapshot_23 (0 : Int32) (by decide) ?_
    refine rx_aload_n C dX9_restoreSnapshot_24 0 rfl ?_
    refine rx_getf C f_X9_13 dX9_restoreSnapshot_25 b_m.1 rfl ?_
    refine rx_iconst C dX9_restoreSnapshot_28 (0 : Int32) (by decide) ?_
    refine rx_sipush C dX9_restoreSnapshot_29 (144 : Int32) (by decide) ?_
    replace hF := rx_biE hF; obtain ⟨y4, e_y4, hF⟩ := hF
    refine rx_cv (rx_rS C (w_X9_copies_3_1 e_y4 b_m) Y_X9_copies S_X9_copies m_X9_243 ⟨⟨rfl, rfl⟩, ⟨(Nat.le_of_ble_eq_true rfl), (Nat.le_of_ble_eq_true rfl)⟩, ⟨(Nat.le_of_ble_eq_true rfl), (Nat.le_of_ble_eq_true rfl)⟩⟩ rfl rfl (Nat.le_of_ble_eq_true rfl) dX9_restoreSnapshot_32) (fun hh n1 hpp => ?_)
    obtain ⟨hn, c_m, ff⟩ := hpp
    replace hn : n = n1 := Eq.symm hn
    subst hn
    replace b_m : bM k m y4 hh := c_m
    clear c_m
    replace ff : rx_fr [(m, 9)] _ hh := ff
    replace fr := rx_frt fr ff (fun a ha => ⟨ha.1, trivial⟩)
    refine rx_aload_n C dX9_restoreSnapshot_35 0 rfl ?_
    refine rx_iconst C dX9_restoreSnapshot_36 (0 : Int32) (by decide) ?_
    replace hF := rx_leE hF; obtain ⟨o_m_5, e_o_m_5, hF⟩ := hF
    refine rx_pM6 C f_X9_253 dX9_restoreSnapshot_37 b_m e_o_m_5 (fun hh c_m ff => ?_)
    replace b_m := c_m
    replace fr := rx_frt fr ff (fun a ha => ⟨ha.1, trivial⟩)
    refine rx_aload_n C dX9_restoreSnapshot_40 0 rfl ?_
    refine rx_getf C f_X9_13 dX9_restoreSnapshot_41 b_m.1 rfl ?_
    refine rx_iconst C dX9_restoreSnapshot_44 (0 : Int32) (by decide) ?_
    replace hF := rx_biE hF; obtain ⟨v6, e_v6, hF⟩ := hF
    refine rx_aldF C dX9_restoreSnapshot_45 b_m.2.1 e_v6 ?_
    obtain rfl := Option.some.inj hF
    exact rx_iret C dX9_restoreSnapshot_46 (Nat.le_refl _) (Nat.le_refl _) ⟨rfl, rfl, b_m, fr⟩
  · rw [if_neg c3] at hF
    refine rx_iconst C dX9_restoreSnapshot_17 (0 : Int32) (by decide) ?_
    obtain rfl := Option.some.inj hF
    exact rx_iret C dX9_restoreSnapshot_18 (Nat.le_refl _) (Nat.le_refl _) ⟨rfl, rfl, b_m, fr⟩
end GEN
