section GEN
variable {l : Launch} {G : va_G} {k : Nat → Nat} {h : hp} {n : Nat}
def F_L_isOrdered_5 (om : ob) (oB : ob) (os : ob) (op : ob) (ow : ob) (oe : ob) (x2 : Int32) : Nat → Int32 → Int32 → Option (Int32 × Int32)
  | 0, _, _ => none
  | fu + 1, x3, x4 => if (om.1 3) ≤ x4 then (some (x3, x4)) else ((F_X8_offer oB os op ow oe x4).bind fun y4 => if y4 < (0 : Int32) then (rx_le ((x3 + (0 : Int32))) fun v6 => F_L_isOrdered_5 om oB os op ow oe x2 fu v6 ((x4 + 1))) else ((F_X8_isEast oB os op x4).bind fun y7 => if y7 = x2 then (rx_le ((x3 + (1 : Int32))) fun v10 => F_L_isOrdered_5 om oB os op ow oe x2 fu v10 ((x4 + 1))) else (rx_le ((x3 + (0 : Int32))) fun v9 => F_L_isOrdered_5 om oB os op ow oe x2 fu v9 ((x4 + 1)))))
def F_L_isOrdered_81 (om : ob) (oB : ob) (os : ob) (op : ob) (ow : ob) (oe : ob) (x2 : Int32) (v18 : Int32) : Nat → Int32 → Option (Int32)
  | 0, _ => none
  | fu + 1, x4 => if v18 ≤ x4 then (some ((1 : Int32))) else ((F_X8_queued oB op ow oe x2 x4).bind fun y22 => (F_X8_isEast oB os op y22).bind fun y23 => if y23 = x2 then ((F_X8_offer oB os op ow oe y22).bind fun y25 => if (0 : Int32) ≤ y25 then (if x4 ≤ (0 : Int32) then (F_L_isOrdered_81 om oB os op ow oe x2 v18 fu ((x4 + 1))) else ((F_X8_offer oB os op ow oe y22).bind fun y28 => (F_X8_queued oB op ow oe x2 ((x4 - (1 : Int32)))).bind fun y29 => (F_X8_offer oB os op ow oe y29).bind fun y30 => if y28 ≤ y30 then (F_L_isOrdered_81 om oB os op ow oe x2 v18 fu ((x4 + 1))) else (some ((0 : Int32))))) else (some ((0 : Int32)))) else (some ((0 : Int32))))
def F_L_isOrdered (om : ob) (oB : ob) (os : ob) (op : ob) (ow : ob) (oe : ob) (x2 : Int32) : Option (Int32) := (F_L_isOrdered_5 om oB os op ow oe x2 100000 ((0 : Int32)) ((0 : Int32))).bind fun zl11 => (F_X8_queueLength oB op ow oe x2).bind fun y12 => if y12 = zl11.1 then ((F_X8_queued oB op ow oe x2 zl11.1).bind fun y14 => if y14 = (-1 : Int32) then ((F_X8_queued oB op ow oe x2 ((-1 : Int32))).bind fun y16 => if y16 = (-1 : Int32) then (rx_le zl11.1 fun v18 => F_L_isOrdered_81 om oB os op ow oe x2 v18 100000 ((0 : Int32))) else (some ((0 : Int32)))) else (some ((0 : Int32)))) else (some ((0 : Int32)))
set_option maxRecDepth 100000 in
set_option maxHeartbeats 4000000 in
theorem w_L_isOrdered {m b : Nat} {om : ob} {oB : ob} {os : ob} {op : ob} {ow : ob} {oe : ob} {x2 : Int32} {y : Int32} (hF : F_L_isOrdered om oB os op ow oe x2 = some y) (b_m : bM k m om h) (b_B : bB k b oB h) (b_s : bS k (b + 12) os h) (b_p : bP k (b + 21) (b + 12) op h) (b_w : bQ k (b + 21 + 10) ow h) (b_e : bQ k (b + 21 + 13) oe h) (hd0 : m + 3 ≤ b ∨ b + 204 ≤ m) : Met l yL_isOrdered (rx_ws yL_isOrdered cL_isOrdered 6 (some .boolean)) (rx_rm 4 86) (va_Pc [.ref m, .ref b, .int x2] (rx_G G k h n)) (va_Qi (fun r u => y = r ∧ (y = 0 ∨ y = 1) ∧ u = (h, n)) (rx_B G k) (rx_A k)) 0 0 (rx_A k) := by
  refine rx_start [(0, .ref m), (1, .ref b), (2, .int x2)] rfl (Nat.le_of_ble_eq_true rfl) (by decide) rfl (fun P9 E9 S9 M9 A9 B9 me9 c9 C hname => ?_)
  unfold F_L_isOrdered at hF
  refine rx_iconst C dL_isOrdered_0 (0 : Int32) (by decide) ?_
  refine rx_istore_n C dL_isOrdered_1 (by decide) [(3, .int ((0 : Int32))), (0, .ref m), (1, .ref b), (2, .int x2)] rfl ?_
  refine rx_iconst C dL_isOrdered_2 (0 : Int32) (by decide) ?_
  refine rx_istore C dL_isOrdered_3 (by decide) [(4, .int ((0 : Int32))), (3, .int ((0 : Int32))), (0, .ref m), (1, .ref b), (2, .int x2)] rfl ?_
  have loop2 : ∀ (fu : Nat) (zz : Int32 × Int32)  (x3 : Int32) (x4 : Int32), F_L_isOrdered_5 om oB os op ow oe x2 fu x3 x4 = some zz → bM k m om h → bB k b oB h → bS k (b + 12) os h → bP k (b + 21) (b + 12) op h → bQ k (b + 21 + 10) ow h → bQ k (b + 21 + 13) oe h → (rx_W P9 l E9 (rx_rm 4 86) S9 M9 A9 B9 me9 c9 (MQ B9 (va_Qi (fun r u => y = r ∧ (y = 0 ∨ y = 1) ∧ u = (h, n)) (rx_B G k) (rx_A k)) A9 S9 0 0 (rx_A k)) G k 6 0 0 h n 47 [(0, .ref m), (1, .ref b), (2, .int x2), (3, .int zz.1), (4, .int zz.2)] []) → rx_W P9 l E9 (rx_rm 4 86) S9 M9 A9 B9 me9 c9 (MQ B9 (va_Qi (fun r u => y = r ∧ (y = 0 ∨ y = 1) ∧ u = (h, n)) (rx_B G k) (rx_A k)) A9 S9 0 0 (rx_A k)) G k 6 0 0 h n 5 [(0, .ref m), (1, .ref b), (2, .int x2), (3, .int x3), (4, .int x4)] [] := by
    intro fu
    induction fu with
    | zero => intro zz x3 x4 hF b_m b_B b_s b_p b_w b_e KK; exact absurd hF (by simp [F_L_isOrdered_5])
    | succ fu ih_loop2 =>
      intro zz x3 x4 hF b_m b_B b_s b_p b_w b_e KK
      unfold F_L_isOrdered_5 at hF
      refine rx_iload C dL_isOrdered_5 4 rfl ?_
      refine rx_aload_n C dL_isOrdered_7 0 rfl ?_
      refine rx_getf C f_L_45 dL_isOrdered_8 b_m.1 rfl ?_
      refine rx_icmp_ge C dL_isOrdered_11 47 (by decide) (fun c3 => ?_) (fun c3 => ?_)
      · rw [if_pos c3] at hF
        obtain rfl := Option.some.inj hF
        refine rx_sub [0, 1, 2, 3, 4] rfl ?_
        exact KK
      · rw [if_neg c3] at hF
        refine rx_iload_n C dL_isOrdered_14 3 rfl ?_
        refine rx_aload_n C dL_isOrdered_15 1 rfl ?_
        refine rx_iload C dL_isOrdered_16 4 rfl ?_
        replace hF := rx_biE hF; obtain ⟨y4, e_y4, hF⟩ := hF
        refine rx_ci (rx_rV C (w_X8_offer e_y4 b_B b_s b_p b_w b_e) Y_X8_offer V_X8_offer m_L_133 (Or.inl ⟨_, _, _, _, b_B, rfl⟩) ⟨⟨rfl, rfl⟩, ⟨(Nat.le_of_ble_eq_true rfl), (Nat.le_of_ble_eq_true rfl)⟩, ⟨(Nat.le_of_ble_eq_true rfl), (Nat.le_of_ble_eq_true rfl)⟩⟩ rfl rfl (Nat.le_of_ble_eq_true rfl) dL_isOrdered_18) (fun r hh n1 hpp => ?_)
        obtain ⟨rfl, hu⟩ := hpp
        cases hu
        refine rx_if_lt C dL_isOrdered_21 38 (by decide) (fun c5 => ?_) (fun c5 => ?_)
        · rw [if_pos c5] at hF
          refine rx_iconst C dL_isOrdered_38 (0 : Int32) (by decide) ?_
          refine rx_iadd C dL_isOrdered_39 ?_
          replace hF := rx_leE hF; obtain ⟨v6, e_v6, hF⟩ := hF
          rw [e_v6]
          refine rx_istore_n C dL_isOrdered_40 (by decide) [(3, .int v6), (0, .ref m), (1, .ref b), (2, .int x2), (4, .int x4)] rfl ?_
          refine rx_iinc C dL_isOrdered_41 4 rfl (x4 + 1) rfl (by decide) [(4, .int ((x4 + 1))), (3, .int v6), (0, .ref m), (1, .ref b), (2, .int x2)] rfl ?_
          refine rx_goto C dL_isOrdered_44 5 (by decide) ?_
          refine rx_sub [2, 3, 4, 1, 0] rfl ?_
          exact ih_loop2 _ _ _ hF b_m b_B b_s b_p b_w b_e KK
        · rw [if_neg c5] at hF
          refine rx_aload_n C dL_isOrdered_24 1 rfl ?_
          refine rx_iload C dL_isOrdered_25 4 rfl ?_
          replace hF := rx_biE hF; obtain ⟨y7, e_y7, hF⟩ := hF
          refine rx_ci (rx_rV C (w_X8_isEast e_y7 b_B b_s b_p) Y_X8_isEast V_X8_isEast m_L_108 (Or.inl ⟨_, _, _, _, b_B, rfl⟩) ⟨⟨rfl, rfl⟩, ⟨(Nat.le_of_ble_eq_true rfl), (Nat.le_of_ble_eq_true rfl)⟩, ⟨(Nat.le_of_ble_eq_true rfl), (Nat.le_of_ble_eq_true rfl)⟩⟩ rfl rfl (Nat.le_of_ble_eq_true rfl) dL_isOrdered_27) (fun r hh n1 hpp => ?_)
          obtain ⟨rfl, bo_y7, hu⟩ := hpp
          cases hu
          refine rx_iload_n C dL_isOrdered_30 2 rfl ?_
          refine rx_icmp_ne C dL_isOrdered_31 38 (by decide) (fun c8 => ?_) (fun c8 => ?_)
          · rw [if_neg c8] at hF
            refine rx_iconst C dL_isOrdered_38 (0 : Int32) (by decide) ?_
            refine rx_iadd C dL_isOrdered_39 ?_
            replace hF := rx_leE hF; obtain ⟨v9, e_v9, hF⟩ := hF
            rw [e_v9]
            refine rx_istore_n C dL_isOrdered_40 (by decide) [(3, .int v9), (0, .ref m), (1, .ref b), (2, .int x2), (4, .int x4)] rfl ?_
            refine rx_iinc C dL_isOrdered_41 4 rfl (x4 + 1) rfl (by decide) [(4, .int ((x4 + 1))), (3, .int v9), (0, .ref m), (1, .ref b), (2, .int x2)] rfl ?_
            refine rx_goto C dL_isOrdered_44 5 (by decide) ?_
            refine rx_sub [2, 3, 4, 1, 0] rfl ?_
            exact ih_loop2 _ _ _ hF b_m b_B b_s b_p b_w b_e KK
          · rw [if_pos c8] at hF
            refine rx_iconst C dL_isOrdered_34 (1 : Int32) (by decide) ?_
            refine rx_goto C dL_isOrdered_35 39 (by decide) ?_
            refine rx_iadd C dL_isOrdered_39 ?_
            replace hF := rx_leE hF; obtain ⟨v10, e_v10, hF⟩ := hF
            rw [e_v10]
            refine rx_istore_n C dL_isOrdered_40 (by decide) [(3, .int v10), (0, .ref m), (1, .ref b), (2, .int x2), (4, .int x4)] rfl ?_
            refine rx_iinc C dL_isOrdered_41 4 rfl (x4 + 1) rfl (by decide) [(4, .int ((x4 + 1))), (3, .int v10), (0, .ref m), (1, .ref b), (2, .int x2)] rfl ?_
            refine rx_goto C dL_isOrdered_44 5 (by decide) ?_
            refine rx_sub [2, 3, 4, 1, 0] rfl ?_
            exact ih_loop2 _ _ _ hF b_m b_B b_s b_p b_w b_e KK
  refine rx_sub [2, 3, 4, 1, 0] rfl ?_
  replace hF := rx_biE hF; obtain ⟨zl11, e_zl11, hF⟩ := hF
  refine loop2 _ zl11 _ _ e_zl11 b_m b_B b_s b_p b_w b_e ?_
  refine rx_aload_n C dL_isOrdered_47 1 rfl ?_
  refine rx_iload_n C dL_isOrdered_48 2 rfl ?_
  replace hF := rx_biE hF; obtain ⟨y12, e_y12, hF⟩ := hF
  refine rx_ci (rx_rV C (w_X8_queueLength e_y12 b_B b_p b_w b_e) Y_X8_queueLength V_X8_queueLength m_L_201 (Or.inl ⟨_, _, _, _, b_B, rfl⟩) ⟨⟨rfl, rfl⟩, ⟨(Nat.le_of_ble_eq_true rfl), (Nat.le_of_ble_eq_true rfl)⟩, ⟨(Nat.le_of_ble_eq_true rfl), (Nat.le_of_ble_eq_true rfl)⟩⟩ rfl rfl (Nat.le_of_ble_eq_true rfl) dL_isOrdered_49) (fun r hh n1 hpp => ?_)
  obtain ⟨rfl, hu⟩ := hpp
  cases hu
  refine rx_iload_n C dL_isOrdered_52 3 rfl ?_
  refine rx_icmp_ne C dL_isOrdered_53 76 (by decide) (fun c13 => ?_) (fun c13 => ?_)
  · rw [if_neg c13] at hF
    refine rx_iconst C dL_isOrdered_76 (0 : Int32) (by decide) ?_
    obtain rfl := Option.some.inj hF
    exact rx_zret C (rx_nz (Or.inl rfl)) dL_isOrdered_77 (Nat.le_refl _) (Nat.le_refl _) ⟨rfl, (Or.inl rfl), rfl⟩
  · rw [if_pos c13] at hF
    refine rx_aload_n C dL_isOrdered_56 1 rfl ?_
    refine rx_iload_n C dL_isOrdered_57 2 rfl ?_
    refine rx_iload_n C dL_isOrdered_58 3 rfl ?_
    replace hF := rx_biE hF; obtain ⟨y14, e_y14, hF⟩ := hF
    refine rx_ci (rx_rV C (w_X8_queued e_y14 b_B b_p b_w b_e) Y_X8_queued V_X8_queued m_L_204 (Or.inl ⟨_, _, _, _, b_B, rfl⟩) ⟨⟨rfl, rfl⟩, ⟨(Nat.le_of_ble_eq_true rfl), (Nat.le_of_ble_eq_true rfl)⟩, ⟨(Nat.le_of_ble_eq_true rfl), (Nat.le_of_ble_eq_true rfl)⟩⟩ rfl rfl (Nat.le_of_ble_eq_true rfl) dL_isOrdered_59) (fun r hh n1 hpp => ?_)
    obtain ⟨rfl, hu⟩ := hpp
    cases hu
    refine rx_iconst C dL_isOrdered_62 (-1 : Int32) (by decide) ?_
    refine rx_icmp_ne C dL_isOrdered_63 76 (by decide) (fun c15 => ?_) (fun c15 => ?_)
    · rw [if_neg c15] at hF
      refine rx_iconst C dL_isOrdered_76 (0 : Int32) (by decide) ?_
      obtain rfl := Option.some.inj hF
      exact rx_zret C (rx_nz (Or.inl rfl)) dL_isOrdered_77 (Nat.le_refl _) (Nat.le_refl _) ⟨rfl, (Or.inl rfl), rfl⟩
    · rw [if_pos c15] at hF
      refine rx_aload_n C dL_isOrdered_66 1 rfl ?_
      refine rx_iload_n C dL_isOrdered_67 2 rfl ?_
      refine rx_iconst C dL_isOrdered_68 (-1 : Int32) (by decide) ?_
      replace hF := rx_biE hF; obtain ⟨y16, e_y16, hF⟩ := hF
      refine rx_ci (rx_rV C (w_X8_queued e_y16 b_B b_p b_w b_e) Y_X8_queued V_X8_queued m_L_204 (Or.inl ⟨_, _, _, _, b_B, rfl⟩) ⟨⟨rfl, rfl⟩, ⟨(Nat.le_of_ble_eq_true rfl), (Nat.le_of_ble_eq_true rfl)⟩, ⟨(Nat.le_of_ble_eq_true rfl), (Nat.le_of_ble_eq_true rfl)⟩⟩ rfl rfl (Nat.le_of_ble_eq_true rfl) dL_isOrdered_69) (fun r hh n1 hpp => ?_)
      obtain ⟨rfl, hu⟩ := hpp
      cases hu
      refine rx_iconst C dL_isOrdered_72 (-1 : Int32) (by decide) ?_
      refine rx_icmp_eq C dL_isOrdered_73 78 (by decide) (fun c17 => ?_) (fun c17 => ?_)
      · rw [if_pos c17] at hF
        refine rx_iconst C dL_isOrdered_78 (0 : Int32) (by decide) ?_
        refine rx_istore C dL_isOrdered_79 (by decide) [(4, .int ((0 : Int32))), (0, .ref m), (1, .ref b), (2, .int x2), (3, .int zl11.1)] rfl ?_
        replace hF := rx_leE hF; obtain ⟨v18, e_v18, hF⟩ := hF
        rw [e_v18]
        have loop20 : ∀ (fu : Nat)  (x4 : Int32), F_L_isOrdered_81 om oB os op ow oe x2 v18 fu x4 = some y → bM k m om h → bB k b oB h → bS k (b + 12) os h → bP k (b + 21) (b + 12) op h → bQ k (b + 21 + 10) ow h → bQ k (b + 21 + 13) oe h → rx_W P9 l E9 (rx_rm 4 86) S9 M9 A9 B9 me9 c9 (MQ B9 (va_Qi (fun r u => y = r ∧ (y = 0 ∨ y = 1) ∧ u = (h, n)) (rx_B G k) (rx_A k)) A9 S9 0 0 (rx_A k)) G k 6 0 0 h n 81 [(0, .ref m), (1, .ref b), (2, .int x2), (3, .int v18), (4, .int x4)] [] := by
          intro fu
          induction fu with
          | zero => intro x4 hF b_m b_B b_s b_p b_w b_e; exact absurd hF (by simp [F_L_isOrdered_81])
          | succ fu ih_loop20 =>
            intro x4 hF b_m b_B b_s b_p b_w b_e
            unfold F_L_isOrdered_81 at hF
            refine rx_iload C dL_isOrdered_81 4 rfl ?_
            refine rx_iload_n C dL_isOrdered_83 3 rfl ?_
            refine rx_icmp_ge C dL_isOrdered_84 152 (by decide) (fun c21 => ?_) (fun c21 => ?_)
            · rw [if_pos c21] at hF
              refine rx_iconst C dL_isOrdered_152 (1 : Int32) (by decide) ?_
              obtain rfl := Option.some.inj hF
              exact rx_zret C (rx_nz (Or.inr rfl)) dL_isOrdered_153 (Nat.le_refl _) (Nat.le_refl _) ⟨rfl, (Or.inr rfl), rfl⟩
            · rw [if_neg c21] at hF
              refine rx_aload_n C dL_isOrdered_87 1 rfl ?_
              refine rx_iload_n C dL_isOrdered_88 2 rfl ?_
              refine rx_iload C dL_isOrdered_89 4 rfl ?_
              replace hF := rx_biE hF; obtain ⟨y22, e_y22, hF⟩ := hF
              refine rx_ci (rx_rV C (w_X8_queued e_y22 b_B b_p b_w b_e) Y_X8_queued V_X8_queued m_L_204 (Or.inl ⟨_, _, _, _, b_B, rfl⟩) ⟨⟨rfl, rfl⟩, ⟨(Nat.le_of_ble_eq_true rfl), (Nat.le_of_ble_eq_true rfl)⟩, ⟨(Nat.le_of_ble_eq_true rfl), (Nat.le_of_ble_eq_true rfl)⟩⟩ rfl rfl (Nat.le_of_ble_eq_true rfl) dL_isOrdered_91) (fun r hh n1 hpp => ?_)
              obtain ⟨rfl, hu⟩ := hpp
              cases hu
              refine rx_istore C dL_isOrdered_94 (by decide) [(5, .int y22), (0, .ref m), (1, .ref b), (2, .int x2), (3, .int v18), (4, .int x4)] rfl ?_
              refine rx_aload_n C dL_isOrdered_96 2 rfl ?_
              refine rx_iload C dL_isOrdered_97 0 rfl ?_
              replace hF := rx_biE hF; obtain ⟨y23, e_y23, hF⟩ := hF
              refine rx_ci (rx_rV C (w_X8_isEast e_y23 b_B b_s b_p) Y_X8_isEast V_X8_isEast m_L_108 (Or.inl ⟨_, _, _, _, b_B, rfl⟩) ⟨⟨rfl, rfl⟩, ⟨(Nat.le_of_ble_eq_true rfl), (Nat.le_of_ble_eq_true rfl)⟩, ⟨(Nat.le_of_ble_eq_true rfl), (Nat.le_of_ble_eq_true rfl)⟩⟩ rfl rfl (Nat.le_of_ble_eq_true rfl) dL_isOrdered_99) (fun r hh n1 hpp => ?_)
              obtain ⟨rfl, bo_y23, hu⟩ := hpp
              cases hu
              refine rx_iload_n C dL_isOrdered_102 3 rfl ?_
              refine rx_icmp_ne C dL_isOrdered_103 115 (by decide) (fun c24 => ?_) (fun c24 => ?_)
              · rw [if_neg c24] at hF
                refine rx_iconst C dL_isOrdered_115 (0 : Int32) (by decide) ?_
                obtain rfl := Option.some.inj hF
                exact rx_zret C (rx_nz (Or.inl rfl)) dL_isOrdered_116 (Nat.le_refl _) (Nat.le_refl _) ⟨rfl, (Or.inl rfl), rfl⟩
              · rw [if_pos c24] at hF
                refine rx_aload_n C dL_isOrdered_106 2 rfl ?_
                refine rx_iload C dL_isOrdered_107 0 rfl ?_
                replace hF := rx_biE hF; obtain ⟨y25, e_y25, hF⟩ := hF
                refine rx_ci (rx_rV C (w_X8_offer e_y25 b_B b_s b_p b_w b_e) Y_X8_offer V_X8_offer m_L_133 (Or.inl ⟨_, _, _, _, b_B, rfl⟩) ⟨⟨rfl, rfl⟩, ⟨(Nat.le_of_ble_eq_true rfl), (Nat.le_of_ble_eq_true rfl)⟩, ⟨(Nat.le_of_ble_eq_true rfl), (Nat.le_of_ble_eq_true rfl)⟩⟩ rfl rfl (Nat.le_of_ble_eq_true rfl) dL_isOrdered_109) (fun r hh n1 hpp => ?_)
                obtain ⟨rfl, hu⟩ := hpp
                cases hu
                refine rx_if_ge C dL_isOrdered_112 117 (by decide) (fun c26 => ?_) (fun c26 => ?_)
                · rw [if_pos c26] at hF
                  refine rx_iload C dL_isOrdered_117 5 rfl ?_
                  refine rx_if_le C dL_isOrdered_119 146 (by decide) (fun c27 => ?_) (fun c27 => ?_)
                  · rw [if_pos c27] at hF
                    refine rx_iinc C dL_isOrdered_146 5 rfl (x4 + 1) rfl (by decide) [(4, .int ((x4 + 1))), (5, .int y22), (0, .ref m), (1, .ref b), (2, .int x2), (3, .int v18)] rfl ?_
                    refine rx_goto C dL_isOrdered_149 81 (by decide) ?_
                    refine rx_sub [2, 3, 4, 5, 0] rfl ?_
                    exact ih_loop20 _ hF b_m b_B b_s b_p b_w b_e
                  · rw [if_neg c27] at hF
                    refine rx_aload_n C dL_isOrdered_122 2 rfl ?_
                    refine rx_iload C dL_isOrdered_123 0 rfl ?_
                    replace hF := rx_biE hF; obtain ⟨y28, e_y28, hF⟩ := hF
                    refine rx_ci (rx_rV C (w_X8_offer e_y28 b_B b_s b_p b_w b_e) Y_X8_offer V_X8_offer m_L_133 (Or.inl ⟨_, _, _, _, b_B, rfl⟩) ⟨⟨rfl, rfl⟩, ⟨(Nat.le_of_ble_eq_true rfl), (Nat.le_of_ble_eq_true rfl)⟩, ⟨(Nat.le_of_ble_eq_true rfl), (Nat.le_of_ble_eq_true rfl)⟩⟩ rfl rfl (Nat.le_of_ble_eq_true rfl) dL_isOrdered_125) (fun r hh n1 hpp => ?_)
                    obtain ⟨rfl, hu⟩ := hpp
                    cases hu
                    refine rx_aload_n C dL_isOrdered_128 2 rfl ?_
                    refine rx_aload_n C dL_isOrdered_129 2 rfl ?_
                    refine rx_iload_n C dL_isOrdered_130 3 rfl ?_
                    refine rx_iload C dL_isOrdered_131 5 rfl ?_
                    refine rx_iconst C dL_isOrdered_133 (1 : Int32) (by decide) ?_
                    refine rx_isub C dL_isOrdered_134 ?_
                    replace hF := rx_biE hF; obtain ⟨y29, e_y29, hF⟩ := hF
                    refine rx_ci (rx_rV C (w_X8_queued e_y29 b_B b_p b_w b_e) Y_X8_queued V_X8_queued m_L_204 (Or.inl ⟨_, _, _, _, b_B, rfl⟩) ⟨⟨rfl, rfl⟩, ⟨(Nat.le_of_ble_eq_true rfl), (Nat.le_of_ble_eq_true rfl)⟩, ⟨(Nat.le_of_ble_eq_true rfl), (Nat.le_of_ble_eq_true rfl)⟩⟩ rfl rfl (Nat.le_of_ble_eq_true rfl) dL_isOrdered_135) (fun r hh n1 hpp => ?_)
                    obtain ⟨rfl, hu⟩ := hpp
                    cases hu
                    replace hF := rx_biE hF; obtain ⟨y30, e_y30, hF⟩ := hF
                    refine rx_ci (rx_rV C (w_X8_offer e_y30 b_B b_s b_p b_w b_e) Y_X8_offer V_X8_offer m_L_133 (Or.inl ⟨_, _, _, _, b_B, rfl⟩) ⟨⟨rfl, rfl⟩, ⟨(Nat.le_of_ble_eq_true rfl), (Nat.le_of_ble_eq_true rfl)⟩, ⟨(Nat.le_of_ble_eq_true rfl), (Nat.le_of_ble_eq_true rfl)⟩⟩ rfl rfl (Nat.le_of_ble_eq_true rfl) dL_isOrdered_138) (fun r hh n1 hpp => ?_)
                    obtain ⟨rfl, hu⟩ := hpp
                    cases hu
                    refine rx_icmp_le C dL_isOrdered_141 146 (by decide) (fun c31 => ?_) (fun c31 => ?_)
                    · rw [if_pos c31] at hF
                      refine rx_iinc C dL_isOrdered_146 5 rfl (x4 + 1) rfl (by decide) [(4, .int ((x4 + 1))), (5, .int y22), (0, .ref m), (1, .ref b), (2, .int x2), (3, .int v18)] rfl ?_
                      refine rx_goto C dL_isOrdered_149 81 (by decide) ?_
                      refine rx_sub [2, 3, 4, 5, 0] rfl ?_
                      exact ih_loop20 _ hF b_m b_B b_s b_p b_w b_e
                    · rw [if_neg c31] at hF
                      refine rx_iconst C dL_isOrdered_144 (0 : Int32) (by decide) ?_
                      obtain rfl := Option.some.inj hF
                      exact rx_zret C (rx_nz (Or.inl rfl)) dL_isOrdered_145 (Nat.le_refl _) (Nat.le_refl _) ⟨rfl, (Or.inl rfl), rfl⟩
                · rw [if_neg c26] at hF
                  refine rx_iconst C dL_isOrdered_115 (0 : Int32) (by decide) ?_
                  obtain rfl := Option.some.inj hF
                  exact rx_zret C (rx_nz (Or.inl rfl)) dL_isOrdered_116 (Nat.le_refl _) (Nat.le_refl _) ⟨rfl, (Or.inl rfl), rfl⟩
        refine rx_sub [1, 2, 3, 4, 0] rfl ?_
        exact loop20 _ _ hF b_m b_B b_s b_p b_w b_e
      · rw [if_neg c17] at hF
        refine rx_iconst C dL_isOrdered_76 (0 : Int32) (by decide) ?_
        obtain rfl := Option.some.inj hF
        exact rx_zret C (rx_nz (Or.inl rfl)) dL_isOrdered_77 (Nat.le_refl _) (Nat.le_refl _) ⟨rfl, (Or.inl rfl), rfl⟩
def F_L_isWell_13 (om : ob) (oB : ob) (os : ob) (op : ob) (ow : ob) (oe : ob) : Nat → Int32 → Int32 → Int32 → Int32 → Int32 → Option (Int32)
  | 0, _, _, _, _, _ => none
  | fu + 1, x2, x3, x4, x5, x6 => if (om.1 3) ≤ x6 then ((F_X8_kingCount oB os).bind fun y4 => if x2 = y4 then ((F_X8_countedRoyalCoins oB os op).bind fun y6 => if x3 = y6 then (if x4 = x5 then ((F_X8_bankCount oB os op ((0 : Int32))).bind fun y9 => (F_X8_bankCount oB os op ((1 : Int32))).bind fun y10 => if (y9 + y10) = (om.1 3) then ((F_L_isOrdered om oB os op ow oe ((0 : Int32))).bind fun y12 => if y12 = (0 : Int32) then (some ((0 : Int32))) else ((F_L_isOrdered om oB os op ow oe ((1 : Int32))).bind fun y14 => if y14 = (0 : Int32) then (some ((0 : Int32))) else ((F_X8_limitAngle oB op).bind fun y16 => if y16 < (0 : Int32) then (some ((0 : Int32))) else ((F_X8_limitAngle oB op).bind fun y18 => if (90 : Int32) < y18 then (some ((0 : Int32))) else (some ((1 : Int32))))))) else (some ((0 : Int32)))) else (some ((0 : Int32)))) else (some ((0 : Int32)))) else (some ((0 : Int32)))) else ((F_X8_rags oB os op x6).bind fun y20 => (F_X8_wearer oB os op y20).bind fun y21 => if y21 = x6 then ((F_X8_wearer oB os op x6).bind fun y23 => (F_X8_rags oB os op y23).bind fun y24 => if y24 = x6 then ((F_X8_royalCoins oB os op x6).bind fun y26 => rx_le ((x5 + y26)) fun v27 => (F_X8_isKing oB os x6).bind fun y28 => if y28 = (0 : Int32) then (F_L_isWell_13 om oB os op ow oe fu x2 x3 x4 v27 ((x6 + 1))) else ((F_X8_isCounted oB os op x6).bind fun y30 => if y30 = (0 : Int32) then (rx_le ((x3 + (0 : Int32))) fun v32 => (F_X8_royalHolder oB os op x6).bind fun y33 => if y33 = (-1 : Int32) then (rx_le ((x4 + (0 : Int32))) fun v40 => if y33 = (-1 : Int32) then (F_L_isWell_13 om oB os op ow oe fu ((x2 + 1)) v32 v40 v27 ((x6 + 1))) else ((F_X8_isRoyalCoinEast oB os op x6).bind fun y42 => (F_X8_isEast oB os op y33).bind fun y43 => if y42 = y43 then (F_L_isWell_13 om oB os op ow oe fu ((x2 + 1)) v32 v40 v27 ((x6 + 1))) else (some ((0 : Int32))))) else (rx_le ((x4 + (1 : Int32))) fun v35 => if y33 = (-1 : Int32) then (F_L_isWell_13 om oB os op ow oe fu ((x2 + 1)) v32 v35 v27 ((x6 + 1))) else ((F_X8_isRoyalCoinEast oB os op x6).bind fun y37 => (F_X8_isEast oB os op y33).bind fun y38 => if y37 = y38 then (F_L_isWell_13 om oB os op ow oe fu ((x2 + 1)) v32 v35 v27 ((x6 + 1))) else (some ((0 : Int32)))))) else (rx_le ((x3 + (1 : Int32))) fun v45 => (F_X8_royalHolder oB os op x6).bind fun y46 => if y46 = (-1 : Int32) then (rx_le ((x4 + (0 : Int32))) fun v53 => if y46 = (-1 : Int32) then (F_L_isWell_13 om oB os op ow oe fu ((x2 + 1)) v45 v53 v27 ((x6 + 1))) else ((F_X8_isRoyalCoinEast oB os op x6).bind fun y55 => (F_X8_isEast oB os op y46).bind fun y56 => if y55 = y56 then (F_L_isWell_13 om oB os op ow oe fu ((x2 + 1)) v45 v53 v27 ((x6 + 1))) else (some ((0 : Int32))))) else (rx_le ((x4 + (1 : Int32))) fun v48 => if y46 = (-1 : Int32) then (F_L_isWell_13 om oB os op ow oe fu ((x2 + 1)) v45 v48 v27 ((x6 + 1))) else ((F_X8_isRoyalCoinEast oB os op x6).bind fun y50 => (F_X8_isEast oB os op y46).bind fun y51 => if y50 = y51 then (F_L_isWell_13 om oB os op ow oe fu ((x2 + 1)) v45 v48 v27 ((x6 + 1))) else (some ((0 : Int32)))))))) else (some ((0 : Int32)))) else (some ((0 : Int32))))
def F_L_isWell (om : ob) (oB : ob) (os : ob) (op : ob) (ow : ob) (oe : ob) : Option (Int32) := F_L_isWell_13 om oB os op ow oe 100000 ((0 : Int32)) ((0 : Int32)) ((0 : Int32)) ((0 : Int32)) ((0 : Int32))
set_option maxRecDepth 100000 in
set_option maxHeartbeats 4000000 in
theorem w_L_isWell {m b : Nat} {om : ob} {oB : ob} {os : ob} {op : ob} {ow : ob} {oe : ob} {y : Int32} (hF : F_L_isWell om oB os op ow oe = some y) (b_m : bM k m om h) (b_B : bB k b oB h) (b_s : bS k (b + 12) os h) (b_p : bP k (b + 21) (b + 12) op h) (b_w : bQ k (b + 21 + 10) ow h) (b_e : bQ k (b + 21 + 13) oe h) (hd0 : m + 3 ≤ b ∨ b + 204 ≤ m) : Met l yL_isWell (rx_ws yL_isWell cL_isWell 8 (some .boolean)) (rx_rm 5 111) (va_Pc [.ref m, .ref b] (rx_G G k h n)) (va_Qi (fun r u => y = r ∧ (y = 0 ∨ y = 1) ∧ u = (h, n)) (rx_B G k) (rx_A k)) 0 0 (rx_A k) := by
  refine rx_start [(0, .ref m), (1, .ref b)] rfl (Nat.le_of_ble_eq_true rfl) (by decide) rfl (fun P9 E9 S9 M9 A9 B9 me9 c9 C hname => ?_)
  unfold F_L_isWell at hF
  refine rx_iconst C dL_isWell_0 (0 : Int32) (by decide) ?_
  refine rx_istore_n C dL_isWell_1 (by decide) [(2, .int ((0 : Int32))), (0, .ref m), (1, .ref b)] rfl ?_
  refine rx_iconst C dL_isWell_2 (0 : Int32) (by decide) ?_
  refine rx_istore_n C dL_isWell_3 (by decide) [(3, .int ((0 : Int32))), (2, .int ((0 : Int32))), (0, .ref m), (1, .ref b)] rfl ?_
  refine rx_iconst C dL_isWell_4 (0 : Int32) (by decide) ?_
  refine rx_istore C dL_isWell_5 (by decide) [(4, .int ((0 : Int32))), (3, .int ((0 : Int32))), (2, .int ((0 : Int32))), (0, .ref m), (1, .ref b)] rfl ?_
  refine rx_iconst C dL_isWell_7 (0 : Int32) (by decide) ?_
  refine rx_istore C dL_isWell_8 (by decide) [(5, .int ((0 : Int32))), (4, .int ((0 : Int32))), (3, .int ((0 : Int32))), (2, .int ((0 : Int32))), (0, .ref m), (1, .ref b)] rfl ?_
  refine rx_iconst C dL_isWell_10 (0 : Int32) (by decide) ?_
  refine rx_istore C dL_isWell_11 (by decide) [(6, .int ((0 : Int32))), (5, .int ((0 : Int32))), (4, .int ((0 : Int32))), (3, .int ((0 : Int32))), (2, .int ((0 : Int32))), (0, .ref m), (1, .ref b)] rfl ?_
  have loop2 : ∀ (fu : Nat)  (x2 : Int32) (x3 : Int32) (x4 : Int32) (x5 : Int32) (x6 : Int32), F_L_isWell_13 om oB os op ow oe fu x2 x3 x4 x5 x6 = some y → bM k m om h → bB k b oB h → bS k (b + 12) os h → bP k (b + 21) (b + 12) op h → bQ k (b + 21 + 10) ow h → bQ k (b + 21 + 13) oe h → rx_W P9 l E9 (rx_rm 5 111) S9 M9 A9 B9 me9 c9 (MQ B9 (va_Qi (fun r u => y = r ∧ (y = 0 ∨ y = 1) ∧ u = (h, n)) (rx_B G k) (rx_A k)) A9 S9 0 0 (rx_A k)) G k 8 0 0 h n 13 [(0, .ref m), (1, .ref b), (2, .int x2), (3, .int x3), (4, .int x4), (5, .int x5), (6, .int x6)] [] := by
    intro fu
    induction fu with
    | zero => intro x2 x3 x4 x5 x6 hF b_m b_B b_s b_p b_w b_e; exact absurd hF (by simp [F_L_isWell_13])
    | succ fu ih_loop2 =>
      intro x2 x3 x4 x5 x6 hF b_m b_B b_s b_p b_w b_e
      unfold F_L_isWell_13 at hF
      refine rx_iload C dL_isWell_13 6 rfl ?_
      refine rx_aload_n C dL_isWell_15 0 rfl ?_
      refine rx_getf C f_L_45 dL_isWell_16 b_m.1 rfl ?_
      refine rx_icmp_ge C dL_isWell_19 150 (by decide) (fun c3 => ?_) (fun c3 => ?_)
      · rw [if_pos c3] at hF
        refine rx_iload_n C dL_isWell_150 2 rfl ?_
        refine rx_aload_n C dL_isWell_151 1 rfl ?_
        replace hF := rx_biE hF; obtain ⟨y4, e_y4, hF⟩ := hF
        refine rx_ci (rx_rV C (w_X8_kingCount e_y4 b_B b_s) Y_X8_kingCount V_X8_kingCount m_L_188 (Or.inl ⟨_, _, _, _, b_B, rfl⟩) ⟨⟨rfl, rfl⟩, ⟨(Nat.le_of_ble_eq_true rfl), (Nat.le_of_ble_eq_true rfl)⟩, ⟨(Nat.le_of_ble_eq_true rfl), (Nat.le_of_ble_eq_true rfl)⟩⟩ rfl rfl (Nat.le_of_ble_eq_true rfl) dL_isWell_152) (fun r hh n1 hpp => ?_)
        obtain ⟨rfl, hu⟩ := hpp
        cases hu
        refine rx_icmp_ne C dL_isWell_155 229 (by decide) (fun c5 => ?_) (fun c5 => ?_)
        · rw [if_neg c5] at hF
          refine rx_iconst C dL_isWell_229 (0 : Int32) (by decide) ?_
          obtain rfl := Option.some.inj hF
          exact rx_zret C (rx_nz (Or.inl rfl)) dL_isWell_230 (Nat.le_refl _) (Nat.le_refl _) ⟨rfl, (Or.inl rfl), rfl⟩
        · rw [if_pos c5] at hF
          refine rx_iload_n C dL_isWell_158 3 rfl ?_
          refine rx_aload_n C dL_isWell_159 1 rfl ?_
          replace hF := rx_biE hF; obtain ⟨y6, e_y6, hF⟩ := hF
          refine rx_ci (rx_rV C (w_X8_countedRoyalCoins e_y6 b_B b_s b_p) Y_X8_countedRoyalCoins V_X8_countedRoyalCoins m_L_156 (Or.inl ⟨_, _, _, _, b_B, rfl⟩) ⟨⟨rfl, rfl⟩, ⟨(Nat.le_of_ble_eq_true rfl), (Nat.le_of_ble_eq_true rfl)⟩, ⟨(Nat.le_of_ble_eq_true rfl), (Nat.le_of_ble_eq_true rfl)⟩⟩ rfl rfl (Nat.le_of_ble_eq_true rfl) dL_isWell_160) (fun r hh n1 hpp => ?_)
          obtain ⟨rfl, hu⟩ := hpp
          cases hu
          refine rx_icmp_ne C dL_isWell_163 229 (by decide) (fun c7 => ?_) (fun c7 => ?_)
          · rw [if_neg c7] at hF
            refine rx_iconst C dL_isWell_229 (0 : Int32) (by decide) ?_
            obtain rfl := Option.some.inj hF
            exact rx_zret C (rx_nz (Or.inl rfl)) dL_isWell_230 (Nat.le_refl _) (Nat.le_refl _) ⟨rfl, (Or.inl rfl), rfl⟩
          · rw [if_pos c7] at hF
            refine rx_iload C dL_isWell_166 4 rfl ?_
            refine rx_iload C dL_isWell_168 5 rfl ?_
            refine rx_icmp_ne C dL_isWell_170 229 (by decide) (fun c8 => ?_) (fun c8 => ?_)
            · rw [if_neg c8] at hF
              refine rx_iconst C dL_isWell_229 (0 : Int32) (by decide) ?_
              obtain rfl := Option.some.inj hF
              exact rx_zret C (rx_nz (Or.inl rfl)) dL_isWell_230 (Nat.le_refl _) (Nat.le_refl _) ⟨rfl, (Or.inl rfl), rfl⟩
            · rw [if_pos c8] at hF
              refine rx_aload_n C dL_isWell_173 1 rfl ?_
              refine rx_iconst C dL_isWell_174 (0 : Int32) (by decide) ?_
              replace hF := rx_biE hF; obtain ⟨y9, e_y9, hF⟩ := hF
              refine rx_ci (rx_rV C (w_X8_bankCount e_y9 b_B b_s b_p) Y_X8_bankCount V_X8_bankCount m_L_191 (Or.inl ⟨_, _, _, _, b_B, rfl⟩) ⟨⟨rfl, rfl⟩, ⟨(Nat.le_of_ble_eq_true rfl), (Nat.le_of_ble_eq_true rfl)⟩, ⟨(Nat.le_of_ble_eq_true rfl), (Nat.le_of_ble_eq_true rfl)⟩⟩ rfl rfl (Nat.le_of_ble_eq_true rfl) dL_isWell_175) (fun r hh n1 hpp => ?_)
              obtain ⟨rfl, hu⟩ := hpp
              cases hu
              refine rx_aload_n C dL_isWell_178 1 rfl ?_
              refine rx_iconst C dL_isWell_179 (1 : Int32) (by decide) ?_
              replace hF := rx_biE hF; obtain ⟨y10, e_y10, hF⟩ := hF
              refine rx_ci (rx_rV C (w_X8_bankCount e_y10 b_B b_s b_p) Y_X8_bankCount V_X8_bankCount m_L_191 (Or.inl ⟨_, _, _, _, b_B, rfl⟩) ⟨⟨rfl, rfl⟩, ⟨(Nat.le_of_ble_eq_true rfl), (Nat.le_of_ble_eq_true rfl)⟩, ⟨(Nat.le_of_ble_eq_true rfl), (Nat.le_of_ble_eq_true rfl)⟩⟩ rfl rfl (Nat.le_of_ble_eq_true rfl) dL_isWell_180) (fun r hh n1 hpp => ?_)
              obtain ⟨rfl, hu⟩ := hpp
              cases hu
              refine rx_iadd C dL_isWell_183 ?_
              refine rx_aload_n C dL_isWell_184 0 rfl ?_
              refine rx_getf C f_L_45 dL_isWell_185 b_m.1 rfl ?_
              refine rx_icmp_ne C dL_isWell_188 229 (by decide) (fun c11 => ?_) (fun c11 => ?_)
              · rw [if_neg c11] at hF
                refine rx_iconst C dL_isWell_229 (0 : Int32) (by decide) ?_
                obtain rfl := Option.some.inj hF
                exact rx_zret C (rx_nz (Or.inl rfl)) dL_isWell_230 (Nat.le_refl _) (Nat.le_refl _) ⟨rfl, (Or.inl rfl), rfl⟩
              · rw [if_pos c11] at hF
                refine rx_aload_n C dL_isWell_191 0 rfl ?_
                refine rx_aload_n C dL_isWell_192 1 rfl ?_
                refine rx_iconst C dL_isWell_193 (0 : Int32) (by decide) ?_
                replace hF := rx_biE hF; obtain ⟨y12, e_y12, hF⟩ := hF
                refine rx_ci (rx_rV C (w_L_isOrdered e_y12 b_m b_B b_s b_p b_w b_e (by omega)) Y_L_isOrdered V_L_isOrdered m_L_194 (Or.inl ⟨_, _, _, _, b_m.1, rfl⟩) ⟨⟨rfl, rfl⟩, ⟨(Nat.le_of_ble_eq_true rfl), (Nat.le_of_ble_eq_true rfl)⟩, ⟨(Nat.le_of_ble_eq_true rfl), (Nat.le_of_ble_eq_true rfl)⟩⟩ rfl rfl (Nat.le_of_ble_eq_true rfl) dL_isWell_194) (fun r hh n1 hpp => ?_)
                obtain ⟨rfl, bo_y12, hu⟩ := hpp
                cases hu
                refine rx_if_eq C dL_isWell_197 229 (by decide) (fun c13 => ?_) (fun c13 => ?_)
                · rw [if_pos c13] at hF
                  refine rx_iconst C dL_isWell_229 (0 : Int32) (by decide) ?_
                  obtain rfl := Option.some.inj hF
                  exact rx_zret C (rx_nz (Or.inl rfl)) dL_isWell_230 (Nat.le_refl _) (Nat.le_refl _) ⟨rfl, (Or.inl rfl), rfl⟩
                · rw [if_neg c13] at hF
                  refine rx_aload_n C dL_isWell_200 0 rfl ?_
                  refine rx_aload_n C dL_isWell_201 1 rfl ?_
                  refine rx_iconst C dL_isWell_202 (1 : Int32) (by decide) ?_
                  replace hF := rx_biE hF; obtain ⟨y14, e_y14, hF⟩ := hF
                  refine rx_ci (rx_rV C (w_L_isOrdered e_y14 b_m b_B b_s b_p b_w b_e (by omega)) Y_L_isOrdered V_L_isOrdered m_L_194 (Or.inl ⟨_, _, _, _, b_m.1, rfl⟩) ⟨⟨rfl, rfl⟩, ⟨(Nat.le_of_ble_eq_true rfl), (Nat.le_of_ble_eq_true rfl)⟩, ⟨(Nat.le_of_ble_eq_true rfl), (Nat.le_of_ble_eq_true rfl)⟩⟩ rfl rfl (Nat.le_of_ble_eq_true rfl) dL_isWell_203) (fun r hh n1 hpp => ?_)
                  obtain ⟨rfl, bo_y14, hu⟩ := hpp
                  cases hu
                  refine rx_if_eq C dL_isWell_206 229 (by decide) (fun c15 => ?_) (fun c15 => ?_)
                  · rw [if_pos c15] at hF
                    refine rx_iconst C dL_isWell_229 (0 : Int32) (by decide) ?_
                    obtain rfl := Option.some.inj hF
                    exact rx_zret C (rx_nz (Or.inl rfl)) dL_isWell_230 (Nat.le_refl _) (Nat.le_refl _) ⟨rfl, (Or.inl rfl), rfl⟩
                  · rw [if_neg c15] at hF
                    refine rx_aload_n C dL_isWell_209 1 rfl ?_
                    replace hF := rx_biE hF; obtain ⟨y16, e_y16, hF⟩ := hF
                    refine rx_ci (rx_rV C (w_X8_limitAngle e_y16 b_B b_p) Y_X8_limitAngle V_X8_limitAngle m_L_198 (Or.inl ⟨_, _, _, _, b_B, rfl⟩) ⟨⟨rfl, rfl⟩, ⟨(Nat.le_of_ble_eq_true rfl), (Nat.le_of_ble_eq_true rfl)⟩, ⟨(Nat.le_of_ble_eq_true rfl), (Nat.le_of_ble_eq_true rfl)⟩⟩ rfl rfl (Nat.le_of_ble_eq_true rfl) dL_isWell_210) (fun r hh n1 hpp => ?_)
                    obtain ⟨rfl, hu⟩ := hpp
                    cases hu
                    refine rx_if_lt C dL_isWell_213 229 (by decide) (fun c17 => ?_) (fun c17 => ?_)
                    · rw [if_pos c17] at hF
                      refine rx_iconst C dL_isWell_229 (0 : Int32) (by decide) ?_
                      obtain rfl := Option.some.inj hF
                      exact rx_zret C (rx_nz (Or.inl rfl)) dL_isWell_230 (Nat.le_refl _) (Nat.le_refl _) ⟨rfl, (Or.inl rfl), rfl⟩
                    · rw [if_neg c17] at hF
                      refine rx_aload_n C dL_isWell_216 1 rfl ?_
                      replace hF := rx_biE hF; obtain ⟨y18, e_y18, hF⟩ := hF
                      refine rx_ci (rx_rV C (w_X8_limitAngle e_y18 b_B b_p) Y_X8_limitAngle V_X8_limitAngle m_L_198 (Or.inl ⟨_, _, _, _, b_B, rfl⟩) ⟨⟨rfl, rfl⟩, ⟨(Nat.le_of_ble_eq_true rfl), (Nat.le_of_ble_eq_true rfl)⟩, ⟨(Nat.le_of_ble_eq_true rfl), (Nat.le_of_ble_eq_true rfl)⟩⟩ rfl rfl (Nat.le_of_ble_eq_true rfl) dL_isWell_217) (fun r hh n1 hpp => ?_)
                      obtain ⟨rfl, hu⟩ := hpp
                      cases hu
                      refine rx_bipush C dL_isWell_220 (90 : Int32) (by decide) ?_
                      refine rx_icmp_gt C dL_isWell_222 229 (by decide) (fun c19 => ?_) (fun c19 => ?_)
                      · rw [if_pos c19] at hF
                        refine rx_iconst C dL_isWell_229 (0 : Int32) (by decide) ?_
                        obtain rfl := Option.some.inj hF
                        exact rx_zret C (rx_nz (Or.inl rfl)) dL_isWell_230 (Nat.le_refl _) (Nat.le_refl _) ⟨rfl, (Or.inl rfl), rfl⟩
                      · rw [if_neg c19] at hF
                        refine rx_iconst C dL_isWell_225 (1 : Int32) (by decide) ?_
                        refine rx_goto C dL_isWell_226 230 (by decide) ?_
                        obtain rfl := Option.some.inj hF
                        exact rx_zret C (rx_nz (Or.inr rfl)) dL_isWell_230 (Nat.le_refl _) (Nat.le_refl _) ⟨rfl, (Or.inr rfl), rfl⟩
      · rw [if_neg c3] at hF
        refine rx_aload_n C dL_isWell_22 1 rfl ?_
        refine rx_aload_n C dL_isWell_23 1 rfl ?_
        refine rx_iload C dL_isWell_24 6 rfl ?_
        replace hF := rx_biE hF; obtain ⟨y20, e_y20, hF⟩ := hF
        refine rx_ci (rx_rV C (w_X8_rags e_y20 b_B b_s b_p) Y_X8_rags V_X8_rags m_L_176 (Or.inl ⟨_, _, _, _, b_B, rfl⟩) ⟨⟨rfl, rfl⟩, ⟨(Nat.le_of_ble_eq_true rfl), (Nat.le_of_ble_eq_true rfl)⟩, ⟨(Nat.le_of_ble_eq_true rfl), (Nat.le_of_ble_eq_true rfl)⟩⟩ rfl rfl (Nat.le_of_ble_eq_true rfl) dL_isWell_26) (fun r hh n1 hpp => ?_)
        obtain ⟨rfl, hu⟩ := hpp
        cases hu
        replace hF := rx_biE hF; obtain ⟨y21, e_y21, hF⟩ := hF
        refine rx_ci (rx_rV C (w_X8_wearer e_y21 b_B b_s b_p) Y_X8_wearer V_X8_wearer m_L_179 (Or.inl ⟨_, _, _, _, b_B, rfl⟩) ⟨⟨rfl, rfl⟩, ⟨(Nat.le_of_ble_eq_true rfl), (Nat.le_of_ble_eq_true rfl)⟩, ⟨(Nat.le_of_ble_eq_true rfl), (Nat.le_of_ble_eq_true rfl)⟩⟩ rfl rfl (Nat.le_of_ble_eq_true rfl) dL_isWell_29) (fun r hh n1 hpp => ?_)
        obtain ⟨rfl, hu⟩ := hpp
        cases hu
        refine rx_iload C dL_isWell_32 6 rfl ?_
        refine rx_icmp_ne C dL_isWell_34 52 (by decide) (fun c22 => ?_) (fun c22 => ?_)
        · rw [if_neg c22] at hF
          refine rx_iconst C dL_isWell_52 (0 : Int32) (by decide) ?_
          obtain rfl := Option.some.inj hF
          exact rx_zret C (rx_nz (Or.inl rfl)) dL_isWell_53 (Nat.le_refl _) (Nat.le_refl _) ⟨rfl, (Or.inl rfl), rfl⟩
        · rw [if_pos c22] at hF
          refine rx_aload_n C dL_isWell_37 1 rfl ?_
          refine rx_aload_n C dL_isWell_38 1 rfl ?_
          refine rx_iload C dL_isWell_39 6 rfl ?_
          replace hF := rx_biE hF; obtain ⟨y23, e_y23, hF⟩ := hF
          refine rx_ci (rx_rV C (w_X8_wearer e_y23 b_B b_s b_p) Y_X8_wearer V_X8_wearer m_L_179 (Or.inl ⟨_, _, _, _, b_B, rfl⟩) ⟨⟨rfl, rfl⟩, ⟨(Nat.le_of_ble_eq_true rfl), (Nat.le_of_ble_eq_true rfl)⟩, ⟨(Nat.le_of_ble_eq_true rfl), (Nat.le_of_ble_eq_true rfl)⟩⟩ rfl rfl (Nat.le_of_ble_eq_true rfl) dL_isWell_41) (fun r hh n1 hpp => ?_)
          obtain ⟨rfl, hu⟩ := hpp
          cases hu
          replace hF := rx_biE hF; obtain ⟨y24, e_y24, hF⟩ := hF
          refine rx_ci (rx_rV C (w_X8_rags e_y24 b_B b_s b_p) Y_X8_rags V_X8_rags m_L_176 (Or.inl ⟨_, _, _, _, b_B, rfl⟩) ⟨⟨rfl, rfl⟩, ⟨(Nat.le_of_ble_eq_true rfl), (Nat.le_of_ble_eq_true rfl)⟩, ⟨(Nat.le_of_ble_eq_true rfl), (Nat.le_of_ble_eq_true rfl)⟩⟩ rfl rfl (Nat.le_of_ble_eq_true rfl) dL_isWell_44) (fun r hh n1 hpp => ?_)
          obtain ⟨rfl, hu⟩ := hpp
          cases hu
          refine rx_iload C dL_isWell_47 6 rfl ?_
          refine rx_icmp_eq C dL_isWell_49 54 (by decide) (fun c25 => ?_) (fun c25 => ?_)
          · rw [if_pos c25] at hF
            refine rx_iload C dL_isWell_54 5 rfl ?_
            refine rx_aload_n C dL_isWell_56 1 rfl ?_
            refine rx_iload C dL_isWell_57 6 rfl ?_
            replace hF := rx_biE hF; obtain ⟨y26, e_y26, hF⟩ := hF
            refine rx_ci (rx_rV C (w_X8_royalCoins e_y26 b_B b_s b_p) Y_X8_royalCoins V_X8_royalCoins m_L_182 (Or.inl ⟨_, _, _, _, b_B, rfl⟩) ⟨⟨rfl, rfl⟩, ⟨(Nat.le_of_ble_eq_true rfl), (Nat.le_of_ble_eq_true rfl)⟩, ⟨(Nat.le_of_ble_eq_true rfl), (Nat.le_of_ble_eq_true rfl)⟩⟩ rfl rfl (Nat.le_of_ble_eq_true rfl) dL_isWell_59) (fun r hh n1 hpp => ?_)
            obtain ⟨rfl, hu⟩ := hpp
            cases hu
            refine rx_iadd C dL_isWell_62 ?_
            replace hF := rx_leE hF; obtain ⟨v27, e_v27, hF⟩ := hF
            rw [e_v27]
            refine rx_istore C dL_isWell_63 (by decide) [(5, .int v27), (0, .ref m), (1, .ref b), (2, .int x2), (3, .int x3), (4, .int x4), (6, .int x6)] rfl ?_
            refine rx_aload_n C dL_isWell_65 2 rfl ?_
            refine rx_iload C dL_isWell_66 6 rfl ?_
            replace hF := rx_biE hF; obtain ⟨y28, e_y28, hF⟩ := hF
            refine rx_ci (rx_rV C (w_X8_isKing e_y28 b_B b_s) Y_X8_isKing V_X8_isKing m_L_94 (Or.inl ⟨_, _, _, _, b_B, rfl⟩) ⟨⟨rfl, rfl⟩, ⟨(Nat.le_of_ble_eq_true rfl), (Nat.le_of_ble_eq_true rfl)⟩, ⟨(Nat.le_of_ble_eq_true rfl), (Nat.le_of_ble_eq_true rfl)⟩⟩ rfl rfl (Nat.le_of_ble_eq_true rfl) dL_isWell_68) (fun r hh n1 hpp => ?_)
            obtain ⟨rfl, bo_y28, hu⟩ := hpp
            cases hu
            refine rx_if_ne C dL_isWell_71 77 (by decide) (fun c29 => ?_) (fun c29 => ?_)
            · rw [if_neg c29] at hF
              refine rx_iinc C dL_isWell_77 3 rfl (x2 + 1) rfl (by decide) [(2, .int ((x2 + 1))), (5, .int v27), (0, .ref m), (1, .ref b), (3, .int x3), (4, .int x4), (6, .int x6)] rfl ?_
              refine rx_iload_n C dL_isWell_80 4 rfl ?_
              refine rx_aload_n C dL_isWell_81 3 rfl ?_
              refine rx_iload C dL_isWell_82 6 rfl ?_
              replace hF := rx_biE hF; obtain ⟨y30, e_y30, hF⟩ := hF
              refine rx_ci (rx_rV C (w_X8_isCounted e_y30 b_B b_s b_p) Y_X8_isCounted V_X8_isCounted m_L_185 (Or.inl ⟨_, _, _, _, b_B, rfl⟩) ⟨⟨rfl, rfl⟩, ⟨(Nat.le_of_ble_eq_true rfl), (Nat.le_of_ble_eq_true rfl)⟩, ⟨(Nat.le_of_ble_eq_true rfl), (Nat.le_of_ble_eq_true rfl)⟩⟩ rfl rfl (Nat.le_of_ble_eq_true rfl) dL_isWell_84) (fun r hh n1 hpp => ?_)
              obtain ⟨rfl, bo_y30, hu⟩ := hpp
              cases hu
              refine rx_if_eq C dL_isWell_87 94 (by decide) (fun c31 => ?_) (fun c31 => ?_)
              · rw [if_pos c31] at hF
                refine rx_iconst C dL_isWell_94 (0 : Int32) (by decide) ?_
                refine rx_iadd C dL_isWell_95 ?_
                replace hF := rx_leE hF; obtain ⟨v32, e_v32, hF⟩ := hF
                rw [e_v32]
                refine rx_istore_n C dL_isWell_96 (by decide) [(3, .int v32), (2, .int ((x2 + 1))), (5, .int v27), (0, .ref m), (1, .ref b), (4, .int x4), (6, .int x6)] rfl ?_
                refine rx_aload_n C dL_isWell_97 4 rfl ?_
                refine rx_iload C dL_isWell_98 6 rfl ?_
                replace hF := rx_biE hF; obtain ⟨y33, e_y33, hF⟩ := hF
                refine rx_ci (rx_rV C (w_X8_royalHolder e_y33 b_B b_s b_p) Y_X8_royalHolder V_X8_royalHolder m_L_118 (Or.inl ⟨_, _, _, _, b_B, rfl⟩) ⟨⟨rfl, rfl⟩, ⟨(Nat.le_of_ble_eq_true rfl), (Nat.le_of_ble_eq_true rfl)⟩, ⟨(Nat.le_of_ble_eq_true rfl), (Nat.le_of_ble_eq_true rfl)⟩⟩ rfl rfl (Nat.le_of_ble_eq_true rfl) dL_isWell_100) (fun r hh n1 hpp => ?_)
                obtain ⟨rfl, hu⟩ := hpp
                cases hu
                refine rx_istore C dL_isWell_103 (by decide) [(7, .int y33), (3, .int v32), (2, .int ((x2 + 1))), (5, .int v27), (0, .ref m), (1, .ref b), (4, .int x4), (6, .int x6)] rfl ?_
                refine rx_iload C dL_isWell_105 6 rfl ?_
                refine rx_iload C dL_isWell_107 0 rfl ?_
                refine rx_iconst C dL_isWell_109 (-1 : Int32) (by decide) ?_
                refine rx_icmp_ne C dL_isWell_110 117 (by decide) (fun c34 => ?_) (fun c34 => ?_)
                · rw [if_neg c34] at hF
                  refine rx_iconst C dL_isWell_117 (1 : Int32) (by decide) ?_
                  refine rx_iadd C dL_isWell_118 ?_
                  replace hF := rx_leE hF; obtain ⟨v35, e_v35, hF⟩ := hF
                  rw [e_v35]
                  refine rx_istore C dL_isWell_119 (by decide) [(4, .int v35), (7, .int y33), (3, .int v32), (2, .int ((x2 + 1))), (5, .int v27), (0, .ref m), (1, .ref b), (6, .int x6)] rfl ?_
                  refine rx_iload C dL_isWell_121 1 rfl ?_
                  refine rx_iconst C dL_isWell_123 (-1 : Int32) (by decide) ?_
                  refine rx_icmp_eq C dL_isWell_124 144 (by decide) (fun c36 => ?_) (fun c36 => ?_)
                  · rw [if_pos c36] at hF
                    refine rx_iinc C dL_isWell_144 7 rfl (x6 + 1) rfl (by decide) [(6, .int ((x6 + 1))), (4, .int v35), (7, .int y33), (3, .int v32), (2, .int ((x2 + 1))), (5, .int v27), (0, .ref m), (1, .ref b)] rfl ?_
                    refine rx_goto C dL_isWell_147 13 (by decide) ?_
                    refine rx_sub [6, 7, 4, 3, 1, 5, 0] rfl ?_
                    exact ih_loop2 _ _ _ _ _ hF b_m b_B b_s b_p b_w b_e
                  · rw [if_neg c36] at hF
                    refine rx_aload_n C dL_isWell_127 6 rfl ?_
                    refine rx_iload C dL_isWell_128 7 rfl ?_
                    replace hF := rx_biE hF; obtain ⟨y37, e_y37, hF⟩ := hF
                    refine rx_ci (rx_rV C (w_X8_isRoyalCoinEast e_y37 b_B b_s b_p) Y_X8_isRoyalCoinEast V_X8_isRoyalCoinEast m_L_124 (Or.inl ⟨_, _, _, _, b_B, rfl⟩) ⟨⟨rfl, rfl⟩, ⟨(Nat.le_of_ble_eq_true rfl), (Nat.le_of_ble_eq_true rfl)⟩, ⟨(Nat.le_of_ble_eq_true rfl), (Nat.le_of_ble_eq_true rfl)⟩⟩ rfl rfl (Nat.le_of_ble_eq_true rfl) dL_isWell_130) (fun r hh n1 hpp => ?_)
                    obtain ⟨rfl, bo_y37, hu⟩ := hpp
                    cases hu
                    refine rx_aload_n C dL_isWell_133 6 rfl ?_
                    refine rx_iload C dL_isWell_134 1 rfl ?_
                    replace hF := rx_biE hF; obtain ⟨y38, e_y38, hF⟩ := hF
                    refine rx_ci (rx_rV C (w_X8_isEast e_y38 b_B b_s b_p) Y_X8_isEast V_X8_isEast m_L_108 (Or.inl ⟨_, _, _, _, b_B, rfl⟩) ⟨⟨rfl, rfl⟩, ⟨(Nat.le_of_ble_eq_true rfl), (Nat.le_of_ble_eq_true rfl)⟩, ⟨(Nat.le_of_ble_eq_true rfl), (Nat.le_of_ble_eq_true rfl)⟩⟩ rfl rfl (Nat.le_of_ble_eq_true rfl) dL_isWell_136) (fun r hh n1 hpp => ?_)
                    obtain ⟨rfl, bo_y38, hu⟩ := hpp
                    cases hu
                    refine rx_icmp_eq C dL_isWell_139 144 (by decide) (fun c39 => ?_) (fun c39 => ?_)
                    · rw [if_pos c39] at hF
                      refine rx_iinc C dL_isWell_144 7 rfl (x6 + 1) rfl (by decide) [(6, .int ((x6 + 1))), (4, .int v35), (7, .int y33), (3, .int v32), (2, .int ((x2 + 1))), (5, .int v27), (0, .ref m), (1, .ref b)] rfl ?_
                      refine rx_goto C dL_isWell_147 13 (by decide) ?_
                      refine rx_sub [6, 7, 4, 3, 1, 5, 0] rfl ?_
                      exact ih_loop2 _ _ _ _ _ hF b_m b_B b_s b_p b_w b_e
                    · rw [if_neg c39] at hF
                      refine rx_iconst C dL_isWell_142 (0 : Int32) (by decide) ?_
                      obtain rfl := Option.some.inj hF
                      exact rx_zret C (rx_nz (Or.inl rfl)) dL_isWell_143 (Nat.le_refl _) (Nat.le_refl _) ⟨rfl, (Or.inl rfl), rfl⟩
                · rw [if_pos c34] at hF
                  refine rx_iconst C dL_isWell_113 (0 : Int32) (by decide) ?_
                  refine rx_goto C dL_isWell_114 118 (by decide) ?_
                  refine rx_iadd C dL_isWell_118 ?_
                  replace hF := rx_leE hF; obtain ⟨v40, e_v40, hF⟩ := hF
                  rw [e_v40]
                  refine rx_istore C dL_isWell_119 (by decide) [(4, .int v40), (7, .int y33), (3, .int v32), (2, .int ((x2 + 1))), (5, .int v27), (0, .ref m), (1, .ref b), (6, .int x6)] rfl ?_
                  refine rx_iload C dL_isWell_121 1 rfl ?_
                  refine rx_iconst C dL_isWell_123 (-1 : Int32) (by decide) ?_
                  refine rx_icmp_eq C dL_isWell_124 144 (by decide) (fun c41 => ?_) (fun c41 => ?_)
                  · rw [if_pos c41] at hF
                    refine rx_iinc C dL_isWell_144 7 rfl (x6 + 1) rfl (by decide) [(6, .int ((x6 + 1))), (4, .int v40), (7, .int y33), (3, .int v32), (2, .int ((x2 + 1))), (5, .int v27), (0, .ref m), (1, .ref b)] rfl ?_
                    refine rx_goto C dL_isWell_147 13 (by decide) ?_
                    refine rx_sub [6, 7, 4, 3, 1, 5, 0] rfl ?_
                    exact ih_loop2 _ _ _ _ _ hF b_m b_B b_s b_p b_w b_e
                  · rw [if_neg c41] at hF
                    refine rx_aload_n C dL_isWell_127 6 rfl ?_
                    refine rx_iload C dL_isWell_128 7 rfl ?_
                    replace hF := rx_biE hF; obtain ⟨y42, e_y42, hF⟩ := hF
                    refine rx_ci (rx_rV C (w_X8_isRoyalCoinEast e_y42 b_B b_s b_p) Y_X8_isRoyalCoinEast V_X8_isRoyalCoinEast m_L_124 (Or.inl ⟨_, _, _, _, b_B, rfl⟩) ⟨⟨rfl, rfl⟩, ⟨(Nat.le_of_ble_eq_true rfl), (Nat.le_of_ble_eq_true rfl)⟩, ⟨(Nat.le_of_ble_eq_true rfl), (Nat.le_of_ble_eq_true rfl)⟩⟩ rfl rfl (Nat.le_of_ble_eq_true rfl) dL_isWell_130) (fun r hh n1 hpp => ?_)
                    obtain ⟨rfl, bo_y42, hu⟩ := hpp
                    cases hu
                    refine rx_aload_n C dL_isWell_133 6 rfl ?_
                    refine rx_iload C dL_isWell_134 1 rfl ?_
                    replace hF := rx_biE hF; obtain ⟨y43, e_y43, hF⟩ := hF
                    refine rx_ci (rx_rV C (w_X8_isEast e_y43 b_B b_s b_p) Y_X8_isEast V_X8_isEast m_L_108 (Or.inl ⟨_, _, _, _, b_B, rfl⟩) ⟨⟨rfl, rfl⟩, ⟨(Nat.le_of_ble_eq_true rfl), (Nat.le_of_ble_eq_true rfl)⟩, ⟨(Nat.le_of_ble_eq_true rfl), (Nat.le_of_ble_eq_true rfl)⟩⟩ rfl rfl (Nat.le_of_ble_eq_true rfl) dL_isWell_136) (fun r hh n1 hpp => ?_)
                    obtain ⟨rfl, bo_y43, hu⟩ := hpp
                    cases hu
                    refine rx_icmp_eq C dL_isWell_139 144 (by decide) (fun c44 => ?_) (fun c44 => ?_)
                    · rw [if_pos c44] at hF
                      refine rx_iinc C dL_isWell_144 7 rfl (x6 + 1) rfl (by decide) [(6, .int ((x6 + 1))), (4, .int v40), (7, .int y33), (3, .int v32), (2, .int ((x2 + 1))), (5, .int v27), (0, .ref m), (1, .ref b)] rfl ?_
                      refine rx_goto C dL_isWell_147 13 (by decide) ?_
                      refine rx_sub [6, 7, 4, 3, 1, 5, 0] rfl ?_
                      exact ih_loop2 _ _ _ _ _ hF b_m b_B b_s b_p b_w b_e
                    · rw [if_neg c44] at hF
                      refine rx_iconst C dL_isWell_142 (0 : Int32) (by decide) ?_
                      obtain rfl := Option.some.inj hF
                      exact rx_zret C (rx_nz (Or.inl rfl)) dL_isWell_143 (Nat.le_refl _) (Nat.le_refl _) ⟨rfl, (Or.inl rfl), rfl⟩
              · rw [if_neg c31] at hF
                refine rx_iconst C dL_isWell_90 (1 : Int32) (by decide) ?_
                refine rx_goto C dL_isWell_91 95 (by decide) ?_
                refine rx_iadd C dL_isWell_95 ?_
                replace hF := rx_leE hF; obtain ⟨v45, e_v45, hF⟩ := hF
                rw [e_v45]
                refine rx_istore_n C dL_isWell_96 (by decide) [(3, .int v45), (2, .int ((x2 + 1))), (5, .int v27), (0, .ref m), (1, .ref b), (4, .int x4), (6, .int x6)] rfl ?_
                refine rx_aload_n C dL_isWell_97 4 rfl ?_
                refine rx_iload C dL_isWell_98 6 rfl ?_
                replace hF := rx_biE hF; obtain ⟨y46, e_y46, hF⟩ := hF
                refine rx_ci (rx_rV C (w_X8_royalHolder e_y46 b_B b_s b_p) Y_X8_royalHolder V_X8_royalHolder m_L_118 (Or.inl ⟨_, _, _, _, b_B, rfl⟩) ⟨⟨rfl, rfl⟩, ⟨(Nat.le_of_ble_eq_true rfl), (Nat.le_of_ble_eq_true rfl)⟩, ⟨(Nat.le_of_ble_eq_true rfl), (Nat.le_of_ble_eq_true rfl)⟩⟩ rfl rfl (Nat.le_of_ble_eq_true rfl) dL_isWell_100) (fun r hh n1 hpp => ?_)
                obtain ⟨rfl, hu⟩ := hpp
                cases hu
                refine rx_istore C dL_isWell_103 (by decide) [(7, .int y46), (3, .int v45), (2, .int ((x2 + 1))), (5, .int v27), (0, .ref m), (1, .ref b), (4, .int x4), (6, .int x6)] rfl ?_
                refine rx_iload C dL_isWell_105 6 rfl ?_
                refine rx_iload C dL_isWell_107 0 rfl ?_
                refine rx_iconst C dL_isWell_109 (-1 : Int32) (by decide) ?_
                refine rx_icmp_ne C dL_isWell_110 117 (by decide) (fun c47 => ?_) (fun c47 => ?_)
                · rw [if_neg c47] at hF
                  refine rx_iconst C dL_isWell_117 (1 : Int32) (by decide) ?_
                  refine rx_iadd C dL_isWell_118 ?_
                  replace hF := rx_leE hF; obtain ⟨v48, e_v48, hF⟩ := hF
                  rw [e_v48]
                  refine rx_istore C dL_isWell_119 (by decide) [(4, .int v48), (7, .int y46), (3, .int v45), (2, .int ((x2 + 1))), (5, .int v27), (0, .ref m), (1, .ref b), (6, .int x6)] rfl ?_
                  refine rx_iload C dL_isWell_121 1 rfl ?_
                  refine rx_iconst C dL_isWell_123 (-1 : Int32) (by decide) ?_
                  refine rx_icmp_eq C dL_isWell_124 144 (by decide) (fun c49 => ?_) (fun c49 => ?_)
                  · rw [if_pos c49] at hF
                    refine rx_iinc C dL_isWell_144 7 rfl (x6 + 1) rfl (by decide) [(6, .int ((x6 + 1))), (4, .int v48), (7, .int y46), (3, .int v45), (2, .int ((x2 + 1))), (5, .int v27), (0, .ref m), (1, .ref b)] rfl ?_
                    refine rx_goto C dL_isWell_147 13 (by decide) ?_
                    refine rx_sub [6, 7, 4, 3, 1, 5, 0] rfl ?_
                    exact ih_loop2 _ _ _ _ _ hF b_m b_B b_s b_p b_w b_e
                  · rw [if_neg c49] at hF
                    refine rx_aload_n C dL_isWell_127 6 rfl ?_
                    refine rx_iload C dL_isWell_128 7 rfl ?_
                    replace hF := rx_biE hF; obtain ⟨y50, e_y50, hF⟩ := hF
                    refine rx_ci (rx_rV C (w_X8_isRoyalCoinEast e_y50 b_B b_s b_p) Y_X8_isRoyalCoinEast V_X8_isRoyalCoinEast m_L_124 (Or.inl ⟨_, _, _, _, b_B, rfl⟩) ⟨⟨rfl, rfl⟩, ⟨(Nat.le_of_ble_eq_true rfl), (Nat.le_of_ble_eq_true rfl)⟩, ⟨(Nat.le_of_ble_eq_true rfl), (Nat.le_of_ble_eq_true rfl)⟩⟩ rfl rfl (Nat.le_of_ble_eq_true rfl) dL_isWell_130) (fun r hh n1 hpp => ?_)
                    obtain ⟨rfl, bo_y50, hu⟩ := hpp
                    cases hu
                    refine rx_aload_n C dL_isWell_133 6 rfl ?_
                    refine rx_iload C dL_isWell_134 1 rfl ?_
                    replace hF := rx_biE hF; obtain ⟨y51, e_y51, hF⟩ := hF
                    refine rx_ci (rx_rV C (w_X8_isEast e_y51 b_B b_s b_p) Y_X8_isEast V_X8_isEast m_L_108 (Or.inl ⟨_, _, _, _, b_B, rfl⟩) ⟨⟨rfl, rfl⟩, ⟨(Nat.le_of_ble_eq_true rfl), (Nat.le_of_ble_eq_true rfl)⟩, ⟨(Nat.le_of_ble_eq_true rfl), (Nat.le_of_ble_eq_true rfl)⟩⟩ rfl rfl (Nat.le_of_ble_eq_true rfl) dL_isWell_136) (fun r hh n1 hpp => ?_)
                    obtain ⟨rfl, bo_y51, hu⟩ := hpp
                    cases hu
                    refine rx_icmp_eq C dL_isWell_139 144 (by decide) (fun c52 => ?_) (fun c52 => ?_)
                    · rw [if_pos c52] at hF
                      refine rx_iinc C dL_isWell_144 7 rfl (x6 + 1) rfl (by decide) [(6, .int ((x6 + 1))), (4, .int v48), (7, .int y46), (3, .int v45), (2, .int ((x2 + 1))), (5, .int v27), (0, .ref m), (1, .ref b)] rfl ?_
                      refine rx_goto C dL_isWell_147 13 (by decide) ?_
                      refine rx_sub [6, 7, 4, 3, 1, 5, 0] rfl ?_
                      exact ih_loop2 _ _ _ _ _ hF b_m b_B b_s b_p b_w b_e
                    · rw [if_neg c52] at hF
                      refine rx_iconst C dL_isWell_142 (0 : Int32) (by decide) ?_
                      obtain rfl := Option.some.inj hF
                      exact rx_zret C (rx_nz (Or.inl rfl)) dL_isWell_143 (Nat.le_refl _) (Nat.le_refl _) ⟨rfl, (Or.inl rfl), rfl⟩
                · rw [if_pos c47] at hF
                  refine rx_iconst C dL_isWell_113 (0 : Int32) (by decide) ?_
                  refine rx_goto C dL_isWell_114 118 (by decide) ?_
                  refine rx_iadd C dL_isWell_118 ?_
                  replace hF := rx_leE hF; obtain ⟨v53, e_v53, hF⟩ := hF
                  rw [e_v53]
                  refine rx_istore C dL_isWell_119 (by decide) [(4, .int v53), (7, .int y46), (3, .int v45), (2, .int ((x2 + 1))), (5, .int v27), (0, .ref m), (1, .ref b), (6, .int x6)] rfl ?_
                  refine rx_iload C dL_isWell_121 1 rfl ?_
                  refine rx_iconst C dL_isWell_123 (-1 : Int32) (by decide) ?_
                  refine rx_icmp_eq C dL_isWell_124 144 (by decide) (fun c54 => ?_) (fun c54 => ?_)
                  · rw [if_pos c54] at hF
                    refine rx_iinc C dL_isWell_144 7 rfl (x6 + 1) rfl (by decide) [(6, .int ((x6 + 1))), (4, .int v53), (7, .int y46), (3, .int v45), (2, .int ((x2 + 1))), (5, .int v27), (0, .ref m), (1, .ref b)] rfl ?_
                    refine rx_goto C dL_isWell_147 13 (by decide) ?_
                    refine rx_sub [6, 7, 4, 3, 1, 5, 0] rfl ?_
                    exact ih_loop2 _ _ _ _ _ hF b_m b_B b_s b_p b_w b_e
                  · rw [if_neg c54] at hF
                    refine rx_aload_n C dL_isWell_127 6 rfl ?_
                    refine rx_iload C dL_isWell_128 7 rfl ?_
                    replace hF := rx_biE hF; obtain ⟨y55, e_y55, hF⟩ := hF
                    refine rx_ci (rx_rV C (w_X8_isRoyalCoinEast e_y55 b_B b_s b_p) Y_X8_isRoyalCoinEast V_X8_isRoyalCoinEast m_L_124 (Or.inl ⟨_, _, _, _, b_B, rfl⟩) ⟨⟨rfl, rfl⟩, ⟨(Nat.le_of_ble_eq_true rfl), (Nat.le_of_ble_eq_true rfl)⟩, ⟨(Nat.le_of_ble_eq_true rfl), (Nat.le_of_ble_eq_true rfl)⟩⟩ rfl rfl (Nat.le_of_ble_eq_true rfl) dL_isWell_130) (fun r hh n1 hpp => ?_)
                    obtain ⟨rfl, bo_y55, hu⟩ := hpp
                    cases hu
                    refine rx_aload_n C dL_isWell_133 6 rfl ?_
                    refine rx_iload C dL_isWell_134 1 rfl ?_
                    replace hF := rx_biE hF; obtain ⟨y56, e_y56, hF⟩ := hF
                    refine rx_ci (rx_rV C (w_X8_isEast e_y56 b_B b_s b_p) Y_X8_isEast V_X8_isEast m_L_108 (Or.inl ⟨_, _, _, _, b_B, rfl⟩) ⟨⟨rfl, rfl⟩, ⟨(Nat.le_of_ble_eq_true rfl), (Nat.le_of_ble_eq_true rfl)⟩, ⟨(Nat.le_of_ble_eq_true rfl), (Nat.le_of_ble_eq_true rfl)⟩⟩ rfl rfl (Nat.le_of_ble_eq_true rfl) dL_isWell_136) (fun r hh n1 hpp => ?_)
                    obtain ⟨rfl, bo_y56, hu⟩ := hpp
                    cases hu
                    refine rx_icmp_eq C dL_isWell_139 144 (by decide) (fun c57 => ?_) (fun c57 => ?_)
                    · rw [if_pos c57] at hF
                      refine rx_iinc C dL_isWell_144 7 rfl (x6 + 1) rfl (by decide) [(6, .int ((x6 + 1))), (4, .int v53), (7, .int y46), (3, .int v45), (2, .int ((x2 + 1))), (5, .int v27), (0, .ref m), (1, .ref b)] rfl ?_
                      refine rx_goto C dL_isWell_147 13 (by decide) ?_
                      refine rx_sub [6, 7, 4, 3, 1, 5, 0] rfl ?_
                      exact ih_loop2 _ _ _ _ _ hF b_m b_B b_s b_p b_w b_e
                    · rw [if_neg c57] at hF
                      refine rx_iconst C dL_isWell_142 (0 : Int32) (by decide) ?_
                      obtain rfl := Option.some.inj hF
                      exact rx_zret C (rx_nz (Or.inl rfl)) dL_isWell_143 (Nat.le_refl _) (Nat.le_refl _) ⟨rfl, (Or.inl rfl), rfl⟩
            · rw [if_pos c29] at hF
              refine rx_goto C dL_isWell_74 144 (by decide) ?_
              refine rx_iinc C dL_isWell_144 6 rfl (x6 + 1) rfl (by decide) [(6, .int ((x6 + 1))), (5, .int v27), (0, .ref m), (1, .ref b), (2, .int x2), (3, .int x3), (4, .int x4)] rfl ?_
              refine rx_goto C dL_isWell_147 13 (by decide) ?_
              refine rx_sub [2, 3, 4, 5, 6, 1, 0] rfl ?_
              exact ih_loop2 _ _ _ _ _ hF b_m b_B b_s b_p b_w b_e
          · rw [if_neg c25] at hF
            refine rx_iconst C dL_isWell_52 (0 : Int32) (by decide) ?_
            obtain rfl := Option.some.inj hF
            exact rx_zret C (rx_nz (Or.inl rfl)) dL_isWell_53 (Nat.le_refl _) (Nat.le_refl _) ⟨rfl, (Or.inl rfl), rfl⟩
  refine rx_sub [5, 6, 4, 3, 2, 1, 0] rfl ?_
  exact loop2 _ _ _ _ _ _ hF b_m b_B b_s b_p b_w b_e
end GEN
