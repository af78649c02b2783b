section GEN
variable {l : Launch} {G : va_G} {k : Nat → Nat} {h : hp} {n : Nat}
def F_X2_isSound (op : ob) (ost : ob) (z1 : Nat) (x2 : Int32) (x3 : Int32) : Option (Int32) := if (rx_sw z1) = (1 : Int32) then ((F_X5_hasKing ost x3).bind fun y2 => some y2) else if (rx_sw z1) = (2 : Int32) then ((F_X5_hasKing ost x3).bind fun y4 => some y4) else if (rx_sw z1) = (3 : Int32) then (if x2 = x3 then (some ((0 : Int32))) else (some ((1 : Int32)))) else if (rx_sw z1) = (4 : Int32) then (some ((1 : Int32))) else if (rx_sw z1) = (5 : Int32) then ((F_X7_allows z1 x2).bind fun y9 => some y9) else ((F_X7_allows z1 x3).bind fun y10 => some y10)
set_option maxRecDepth 100000 in
set_option maxHeartbeats 4000000 in
theorem w_X2_isSound {q g : Nat} {op : ob} {ost : ob} {z1 : Nat} {x2 : Int32} {x3 : Int32} {y : Int32} (hF : F_X2_isSound op ost z1 x2 x3 = some y) (b_p : bP k q g op h) (b_st : bS k g ost h) (hz_z1 : z1 < 9) (hd0 : q + 16 ≤ g ∨ g + 9 ≤ q) : Met l yX2_isSound (rx_ws yX2_isSound cX2_isSound 4 (some .boolean)) (rx_rm 2 42) (va_Pc [.ref q, .ref (k (10 + z1)), .int x2, .int x3] (rx_G G k h n)) (va_Qi (fun r u => y = r ∧ (y = 0 ∨ y = 1) ∧ u = (h, n)) (rx_B G k) (rx_A k)) 0 0 (rx_A k) := by
  refine rx_start [(0, .ref q), (1, .ref (k (10 + z1))), (2, .int x2), (3, .int x3)] rfl (Nat.le_of_ble_eq_true rfl) (by decide) rfl (fun P9 E9 S9 M9 A9 B9 me9 c9 C hname => ?_)
  unfold F_X2_isSound at hF
  refine rx_gets C C.2.2.2.2.2.2.2.2.2.2.2.2.1 sf_X2_194 dX2_isSound_0 ?_
  refine rx_aload_n C dX2_isSound_3 1 rfl ?_
  refine rx_ci (rx_ord C hz_z1 m_X2_199 ⟨⟨rfl, rfl⟩, ⟨(Nat.le_of_ble_eq_true rfl), (Nat.le_of_ble_eq_true rfl)⟩, ⟨(Nat.le_of_ble_eq_true rfl), (Nat.le_of_ble_eq_true rfl)⟩⟩ (Nat.le_of_ble_eq_true rfl) dX2_isSound_4) (fun r hh n1 hpp => ?_)
  obtain ⟨rfl, hu⟩ := hpp
  cases hu
  refine rx_ti (v := .int (rx_sw z1)) C C.2.2.2.2.2.2.2.2.2.2.2.2.2.1 dX2_isSound_7 (rx_swin hz_z1) (rx_swv hz_z1) ?_
  by_cases c1 : (rx_sw z1) = (1 : Int32)
  · rw [if_pos c1] at hF
    refine rx_tableIn C dX2_isSound_8 (by rw [c1]; decide) (by rw [c1]; decide) (by rw [c1]; rfl) 44 (by decide) ?_
    refine rx_aload_n C dX2_isSound_44 0 rfl ?_
    refine rx_getf C f_X2_49 dX2_isSound_45 b_p.1 rfl ?_
    refine rx_iload_n C dX2_isSound_48 3 rfl ?_
    replace hF := rx_biE hF; obtain ⟨y2, e_y2, hF⟩ := hF
    refine rx_ci (rx_rVN C (w_X5_hasKing e_y2 b_st) Y_X5_hasKing V_X5_hasKing m_X2_80 (Or.inl ⟨_, _, _, _, b_st.1, rfl⟩) ⟨⟨rfl, rfl⟩, ⟨(Nat.le_of_ble_eq_true rfl), (Nat.le_of_ble_eq_true rfl)⟩, ⟨(Nat.le_of_ble_eq_true rfl), (Nat.le_of_ble_eq_true rfl)⟩⟩ rfl rfl (Nat.le_of_ble_eq_true rfl) dX2_isSound_49) (fun r hh n1 hpp => ?_)
    obtain ⟨rfl, bo_y2, hu⟩ := hpp
    cases hu
    obtain rfl := Option.some.inj hF
    exact rx_zret C (rx_nz bo_y2) dX2_isSound_52 (Nat.le_refl _) (Nat.le_refl _) ⟨rfl, bo_y2, rfl⟩
  rw [if_neg c1] at hF
  by_cases c3 : (rx_sw z1) = (2 : Int32)
  · rw [if_pos c3] at hF
    refine rx_tableIn C dX2_isSound_8 (by rw [c3]; decide) (by rw [c3]; decide) (by rw [c3]; rfl) 44 (by decide) ?_
    refine rx_aload_n C dX2_isSound_44 0 rfl ?_
    refine rx_getf C f_X2_49 dX2_isSound_45 b_p.1 rfl ?_
    refine rx_iload_n C dX2_isSound_48 3 rfl ?_
    replace hF := rx_biE hF; obtain ⟨y4, e_y4, hF⟩ := hF
    refine rx_ci (rx_rVN C (w_X5_hasKing e_y4 b_st) Y_X5_hasKing V_X5_hasKing m_X2_80 (Or.inl ⟨_, _, _, _, b_st.1, rfl⟩) ⟨⟨rfl, rfl⟩, ⟨(Nat.le_of_ble_eq_true rfl), (Nat.le_of_ble_eq_true rfl)⟩, ⟨(Nat.le_of_ble_eq_true rfl), (Nat.le_of_ble_eq_true rfl)⟩⟩ rfl rfl (Nat.le_of_ble_eq_true rfl) dX2_isSound_49) (fun r hh n1 hpp => ?_)
    obtain ⟨rfl, bo_y4, hu⟩ := hpp
    cases hu
    obtain rfl := Option.some.inj hF
    exact rx_zret C (rx_nz bo_y4) dX2_isSound_52 (Nat.le_refl _) (Nat.le_refl _) ⟨rfl, bo_y4, rfl⟩
  rw [if_neg c3] at hF
  by_cases c5 : (rx_sw z1) = (3 : Int32)
  · rw [if_pos c5] at hF
    refine rx_tableIn C dX2_isSound_8 (by rw [c5]; decide) (by rw [c5]; decide) (by rw [c5]; rfl) 53 (by decide) ?_
    refine rx_iload_n C dX2_isSound_53 2 rfl ?_
    refine rx_iload_n C dX2_isSound_54 3 rfl ?_
    refine rx_icmp_eq C dX2_isSound_55 62 (by decide) (fun c6 => ?_) (fun c6 => ?_)
    · rw [if_pos c6] at hF
      refine rx_iconst C dX2_isSound_62 (0 : Int32) (by decide) ?_
      obtain rfl := Option.some.inj hF
      exact rx_zret C (rx_nz (Or.inl rfl)) dX2_isSound_63 (Nat.le_refl _) (Nat.le_refl _) ⟨rfl, (Or.inl rfl), rfl⟩
    · rw [if_neg c6] at hF
      refine rx_iconst C dX2_isSound_58 (1 : Int32) (by decide) ?_
      refine rx_goto C dX2_isSound_59 63 (by decide) ?_
      obtain rfl := Option.some.inj hF
      exact rx_zret C (rx_nz (Or.inr rfl)) dX2_isSound_63 (Nat.le_refl _) (Nat.le_refl _) ⟨rfl, (Or.inr rfl), rfl⟩
  rw [if_neg c5] at hF
  by_cases c7 : (rx_sw z1) = (4 : Int32)
  · rw [if_pos c7] at hF
    refine rx_tableIn C dX2_isSound_8 (by rw [c7]; decide) (by rw [c7]; decide) (by rw [c7]; rfl) 64 (by decide) ?_
    refine rx_iconst C dX2_isSound_64 (1 : Int32) (by decide) ?_
    obtain rfl := Option.some.inj hF
    exact rx_zret C (rx_nz (Or.inr rfl)) dX2_isSound_65 (Nat.le_refl _) (Nat.le_refl _) ⟨rfl, (Or.inr rfl), rfl⟩
  rw [if_neg c7] at hF
  by_cases c8 : (rx_sw z1) = (5 : Int32)
  · rw [if_pos c8] at hF
    refine rx_tableIn C dX2_isSound_8 (by rw [c8]; decide) (by rw [c8]; decide) (by rw [c8]; rfl) 66 (by decide) ?_
    refine rx_aload_n C dX2_isSound_66 1 rfl ?_
    refine rx_iload_n C dX2_isSound_67 2 rfl ?_
    replace hF := rx_biE hF; obtain ⟨y9, e_y9, hF⟩ := hF
    refine rx_ci (rx_rVN C (w_X7_allows e_y9 hz_z1) Y_X7_allows V_X7_allows m_X2_202 (Or.inr (C.2.2.2.2.2.2.2.2.2.1 _ hz_z1).2.1) ⟨⟨rfl, rfl⟩, ⟨(Nat.le_of_ble_eq_true rfl), (Nat.le_of_ble_eq_true rfl)⟩, ⟨(Nat.le_of_ble_eq_true rfl), (Nat.le_of_ble_eq_true rfl)⟩⟩ rfl rfl (Nat.le_of_ble_eq_true rfl) dX2_isSound_68) (fun r hh n1 hpp => ?_)
    obtain ⟨rfl, bo_y9, hu⟩ := hpp
    cases hu
    obtain rfl := Option.some.inj hF
    exact rx_zret C (rx_nz bo_y9) dX2_isSound_71 (Nat.le_refl _) (Nat.le_refl _) ⟨rfl, bo_y9, rfl⟩
  rw [if_neg c8] at hF
  refine rx_tableOut C dX2_isSound_8 (by have q1 := rx_neI c1; have q2 := rx_neI c3; have q3 := rx_neI c5; have q4 := rx_neI c7; have q5 := rx_neI c8; have r1 : (1 : Int32).toInt = 1 := rfl; have r2 : (2 : Int32).toInt = 2 := rfl; have r3 : (3 : Int32).toInt = 3 := rfl; have r4 : (4 : Int32).toInt = 4 := rfl; have r5 : (5 : Int32).toInt = 5 := rfl; omega) 72 (by decide) ?_
  refine rx_aload_n C dX2_isSound_72 1 rfl ?_
  refine rx_iload_n C dX2_isSound_73 3 rfl ?_
  replace hF := rx_biE hF; obtain ⟨y10, e_y10, hF⟩ := hF
  refine rx_ci (rx_rVN C (w_X7_allows e_y10 hz_z1) Y_X7_allows V_X7_allows m_X2_202 (Or.inr (C.2.2.2.2.2.2.2.2.2.1 _ hz_z1).2.1) ⟨⟨rfl, rfl⟩, ⟨(Nat.le_of_ble_eq_true rfl), (Nat.le_of_ble_eq_true rfl)⟩, ⟨(Nat.le_of_ble_eq_true rfl), (Nat.le_of_ble_eq_true rfl)⟩⟩ rfl rfl (Nat.le_of_ble_eq_true rfl) dX2_isSound_74) (fun r hh n1 hpp => ?_)
  obtain ⟨rfl, bo_y10, hu⟩ := hpp
  cases hu
  obtain rfl := Option.some.inj hF
  exact rx_zret C (rx_nz bo_y10) dX2_isSound_77 (Nat.le_refl _) (Nat.le_refl _) ⟨rfl, bo_y10, rfl⟩
def F_X2_isPossible (op : ob) (ow : ob) (oe : ob) (z1 : Nat) (x2 : Int32) (x3 : Int32) : Option (Int32) := if (rx_sw z1) = (1 : Int32) then (if (rx_at 10 (op.2 10) x3) = x2 then (some ((1 : Int32))) else (some ((0 : Int32)))) else if (rx_sw z1) = (2 : Int32) then (if (rx_at 10 (op.2 10) x3) = (-1 : Int32) then (if (rx_at 10 (op.2 11) x3) = (rx_at 10 (op.2 5) x2) then (some ((1 : Int32))) else (some ((0 : Int32)))) else (some ((0 : Int32)))) else if (rx_sw z1) = (3 : Int32) then (if (rx_at 10 (op.2 5) x2) = (rx_at 10 (op.2 5) x3) then (some ((1 : Int32))) else (some ((0 : Int32)))) else if (rx_sw z1) = (4 : Int32) then ((F_X2_offerOf op ow oe x2).bind fun y9 => if y9 = (-1 : Int32) then (some ((0 : Int32))) else (some ((1 : Int32)))) else if (rx_sw z1) = (5 : Int32) then (if (10000 : Int32) < ((op.1 1) + x2) then (some ((0 : Int32))) else (some ((1 : Int32)))) else if (rx_sw z1) = (6 : Int32) then (if (rx_at 10 (op.2 6) x2) < x3 then (some ((0 : Int32))) else (some ((1 : Int32)))) else if (rx_sw z1) = (7 : Int32) then (if (rx_at 2 (op.2 4) ((rx_at 10 (op.2 5) x2))) < x3 then (some ((0 : Int32))) else (some ((1 : Int32)))) else if (rx_sw z1) = (8 : Int32) then ((F_X2_offerOf op ow oe x2).bind fun y18 => if y18 = (-1 : Int32) then (some ((1 : Int32))) else (some ((0 : Int32)))) else (some ((1 : Int32)))
set_option maxRecDepth 100000 in
set_option maxHeartbeats 4000000 in
theorem w_X2_isPossible {q g : Nat} {op : ob} {ow : ob} {oe : ob} {z1 : Nat} {x2 : Int32} {x3 : Int32} {y : Int32} (hF : F_X2_isPossible op ow oe z1 x2 x3 = some y) (b_p : bP k q g op h) (b_w : bQ k (q + 10) ow h) (b_e : bQ k (q + 13) oe h) (hz_z1 : z1 < 9) : Met l yX2_isPossible (rx_ws yX2_isPossible cX2_isPossible 4 (some .boolean)) (rx_rm 3 65) (va_Pc [.ref q, .ref (k (10 + z1)), .int x2, .int x3] (rx_G G k h n)) (va_Qi (fun r u => y = r ∧ (y = 0 ∨ y = 1) ∧ u = (h, n)) (rx_B G k) (rx_A k)) 0 0 (rx_A k) := by
  refine rx_start [(0, .ref q), (1, .ref (k (10 + z1))), (2, .int x2), (3, .int x3)] rfl (Nat.le_of_ble_eq_true rfl) (by decide) rfl (fun P9 E9 S9 M9 A9 B9 me9 c9 C hname => ?_)
  unfold F_X2_isPossible at hF
  refine rx_gets C C.2.2.2.2.2.2.2.2.2.2.2.2.1 sf_X2_194 dX2_isPossible_0 ?_
  refine rx_aload_n C dX2_isPossible_3 1 rfl ?_
  refine rx_ci (rx_ord C hz_z1 m_X2_199 ⟨⟨rfl, rfl⟩, ⟨(Nat.le_of_ble_eq_true rfl), (Nat.le_of_ble_eq_true rfl)⟩, ⟨(Nat.le_of_ble_eq_true rfl), (Nat.le_of_ble_eq_true rfl)⟩⟩ (Nat.le_of_ble_eq_true rfl) dX2_isPossible_4) (fun r hh n1 hpp => ?_)
  obtain ⟨rfl, hu⟩ := hpp
  cases hu
  refine rx_ti (v := .int (rx_sw z1)) C C.2.2.2.2.2.2.2.2.2.2.2.2.2.1 dX2_isPossible_7 (rx_swin hz_z1) (rx_swv hz_z1) ?_
  by_cases c1 : (rx_sw z1) = (1 : Int32)
  · rw [if_pos c1] at hF
    refine rx_tableIn C dX2_isPossible_8 (by rw [c1]; decide) (by rw [c1]; decide) (by rw [c1]; rfl) 99 (by decide) ?_
    refine rx_aload_n C dX2_isPossible_99 0 rfl ?_
    refine rx_getf C f_X2_30 dX2_isPossible_100 b_p.1 rfl ?_
    refine rx_iload_n C dX2_isPossible_103 3 rfl ?_
    refine rx_ci (rx_rSN C (w_at b_p.2.2.2.2.2.2.2.1 (by decide)) Y_X8_at S_X8_at m_X2_91 ⟨⟨rfl, rfl⟩, ⟨(Nat.le_of_ble_eq_true rfl), (Nat.le_of_ble_eq_true rfl)⟩, ⟨(Nat.le_of_ble_eq_true rfl), (Nat.le_of_ble_eq_true rfl)⟩⟩ rfl rfl (Nat.le_of_ble_eq_true rfl) dX2_isPossible_104) (fun r hh n1 hpp => ?_)
    obtain ⟨rfl, hu⟩ := hpp
    cases hu
    refine rx_iload_n C dX2_isPossible_107 2 rfl ?_
    refine rx_icmp_ne C dX2_isPossible_108 115 (by decide) (fun c2 => ?_) (fun c2 => ?_)
    · rw [if_neg c2] at hF
      refine rx_iconst C dX2_isPossible_115 (0 : Int32) (by decide) ?_
      obtain rfl := Option.some.inj hF
      exact rx_zret C (rx_nz (Or.inl rfl)) dX2_isPossible_116 (Nat.le_refl _) (Nat.le_refl _) ⟨rfl, (Or.inl rfl), rfl⟩
    · rw [if_pos c2] at hF
      refine rx_iconst C dX2_isPossible_111 (1 : Int32) (by decide) ?_
      refine rx_goto C dX2_isPossible_112 116 (by decide) ?_
      obtain rfl := Option.some.inj hF
      exact rx_zret C (rx_nz (Or.inr rfl)) dX2_isPossible_116 (Nat.le_refl _) (Nat.le_refl _) ⟨rfl, (Or.inr rfl), rfl⟩
  rw [if_neg c1] at hF
  by_cases c3 : (rx_sw z1) = (2 : Int32)
  · rw [if_pos c3] at hF
    refine rx_tableIn C dX2_isPossible_8 (by rw [c3]; decide) (by rw [c3]; decide) (by rw [c3]; rfl) 117 (by decide) ?_
    refine rx_aload_n C dX2_isPossible_117 0 rfl ?_
    refine rx_getf C f_X2_30 dX2_isPossible_118 b_p.1 rfl ?_
    refine rx_iload_n C dX2_isPossible_121 3 rfl ?_
    refine rx_ci (rx_rSN C (w_at b_p.2.2.2.2.2.2.2.1 (by decide)) Y_X8_at S_X8_at m_X2_91 ⟨⟨rfl, rfl⟩, ⟨(Nat.le_of_ble_eq_true rfl), (Nat.le_of_ble_eq_true rfl)⟩, ⟨(Nat.le_of_ble_eq_true rfl), (Nat.le_of_ble_eq_true rfl)⟩⟩ rfl rfl (Nat.le_of_ble_eq_true rfl) dX2_isPossible_122) (fun r hh n1 hpp => ?_)
    obtain ⟨rfl, hu⟩ := hpp
    cases hu
    refine rx_iconst C dX2_isPossible_125 (-1 : Int32) (by decide) ?_
    refine rx_icmp_ne C dX2_isPossible_126 152 (by decide) (fun c4 => ?_) (fun c4 => ?_)
    · rw [if_neg c4] at hF
      refine rx_iconst C dX2_isPossible_152 (0 : Int32) (by decide) ?_
      obtain rfl := Option.some.inj hF
      exact rx_zret C (rx_nz (Or.inl rfl)) dX2_isPossible_153 (Nat.le_refl _) (Nat.le_refl _) ⟨rfl, (Or.inl rfl), rfl⟩
    · rw [if_pos c4] at hF
      refine rx_aload_n C dX2_isPossible_129 0 rfl ?_
      refine rx_getf C f_X2_33 dX2_isPossible_130 b_p.1 rfl ?_
      refine rx_iload_n C dX2_isPossible_133 3 rfl ?_
      refine rx_ci (rx_rSN C (w_at b_p.2.2.2.2.2.2.2.2.1 (by decide)) Y_X8_at S_X8_at m_X2_91 ⟨⟨rfl, rfl⟩, ⟨(Nat.le_of_ble_eq_true rfl), (Nat.le_of_ble_eq_true rfl)⟩, ⟨(Nat.le_of_ble_eq_true rfl), (Nat.le_of_ble_eq_true rfl)⟩⟩ rfl rfl (Nat.le_of_ble_eq_true rfl) dX2_isPossible_134) (fun r hh n1 hpp => ?_)
      obtain ⟨rfl, hu⟩ := hpp
      cases hu
      refine rx_aload_n C dX2_isPossible_137 0 rfl ?_
      refine rx_getf C f_X2_15 dX2_isPossible_138 b_p.1 rfl ?_
      refine rx_iload_n C dX2_isPossible_141 2 rfl ?_
      refine rx_ci (rx_rSN C (w_at b_p.2.2.1 (by decide)) Y_X8_at S_X8_at m_X2_91 ⟨⟨rfl, rfl⟩, ⟨(Nat.le_of_ble_eq_true rfl), (Nat.le_of_ble_eq_true rfl)⟩, ⟨(Nat.le_of_ble_eq_true rfl), (Nat.le_of_ble_eq_true rfl)⟩⟩ rfl rfl (Nat.le_of_ble_eq_true rfl) dX2_isPossible_142) (fun r hh n1 hpp => ?_)
      obtain ⟨rfl, hu⟩ := hpp
      cases hu
      refine rx_icmp_ne C dX2_isPossible_145 152 (by decide) (fun c5 => ?_) (fun c5 => ?_)
      · rw [if_neg c5] at hF
        refine rx_iconst C dX2_isPossible_152 (0 : Int32) (by decide) ?_
        obtain rfl := Option.some.inj hF
        exact rx_zret C (rx_nz (Or.inl rfl)) dX2_isPossible_153 (Nat.le_refl _) (Nat.le_refl _) ⟨rfl, (Or.inl rfl), rfl⟩
      · rw [if_pos c5] at hF
        refine rx_iconst C dX2_isPossible_148 (1 : Int32) (by decide) ?_
        refine rx_goto C dX2_isPossible_149 153 (by decide) ?_
        obtain rfl := Option.some.inj hF
        exact rx_zret C (rx_nz (Or.inr rfl)) dX2_isPossible_153 (Nat.le_refl _) (Nat.le_refl _) ⟨rfl, (Or.inr rfl), rfl⟩
  rw [if_neg c3] at hF
  by_cases c6 : (rx_sw z1) = (3 : Int32)
  · rw [if_pos c6] at hF
    refine rx_tableIn C dX2_isPossible_8 (by rw [c6]; decide) (by rw [c6]; decide) (by rw [c6]; rfl) 154 (by decide) ?_
    refine rx_aload_n C dX2_isPossible_154 0 rfl ?_
    refine rx_getf C f_X2_15 dX2_isPossible_155 b_p.1 rfl ?_
    refine rx_iload_n C dX2_isPossible_158 2 rfl ?_
    refine rx_ci (rx_rSN C (w_at b_p.2.2.1 (by decide)) Y_X8_at S_X8_at m_X2_91 ⟨⟨rfl, rfl⟩, ⟨(Nat.le_of_ble_eq_true rfl), (Nat.le_of_ble_eq_true rfl)⟩, ⟨(Nat.le_of_ble_eq_true rfl), (Nat.le_of_ble_eq_true rfl)⟩⟩ rfl rfl (Nat.le_of_ble_eq_true rfl) dX2_isPossible_159) (fun r hh n1 hpp => ?_)
    obtain ⟨rfl, hu⟩ := hpp
    cases hu
    refine rx_aload_n C dX2_isPossible_162 0 rfl ?_
    refine rx_getf C f_X2_15 dX2_isPossible_163 b_p.1 rfl ?_
    refine rx_iload_n C dX2_isPossible_166 3 rfl ?_
    refine rx_ci (rx_rSN C (w_at b_p.2.2.1 (by decide)) Y_X8_at S_X8_at m_X2_91 ⟨⟨rfl, rfl⟩, ⟨(Nat.le_of_ble_eq_true rfl), (Nat.le_of_ble_eq_true rfl)⟩, ⟨(Nat.le_of_ble_eq_true rfl), (Nat.le_of_ble_eq_true rfl)⟩⟩ rfl rfl (Nat.le_of_ble_eq_true rfl) dX2_isPossible_167) (fun r hh n1 hpp => ?_)
    obtain ⟨rfl, hu⟩ := hpp
    cases hu
    refine rx_icmp_ne C dX2_isPossible_170 177 (by decide) (fun c7 => ?_) (fun c7 => ?_)
    · rw [if_neg c7] at hF
      refine rx_iconst C dX2_isPossible_177 (0 : Int32) (by decide) ?_
      obtain rfl := Option.some.inj hF
      exact rx_zret C (rx_nz (Or.inl rfl)) dX2_isPossible_178 (Nat.le_refl _) (Nat.le_refl _) ⟨rfl, (Or.inl rfl), rfl⟩
    · rw [if_pos c7] at hF
      refine rx_iconst C dX2_isPossible_173 (1 : Int32) (by decide) ?_
      refine rx_goto C dX2_isPossible_174 178 (by decide) ?_
      obtain rfl := Option.some.inj hF
      exact rx_zret C (rx_nz (Or.inr rfl)) dX2_isPossible_178 (Nat.le_refl _) (Nat.le_refl _) ⟨rfl, (Or.inr rfl), rfl⟩
  rw [if_neg c6] at hF
  by_cases c8 : (rx_sw z1) = (4 : Int32)
  · rw [if_pos c8] at hF
    refine rx_tableIn C dX2_isPossible_8 (by rw [c8]; decide) (by rw [c8]; decide) (by rw [c8]; rfl) 194 (by decide) ?_
    refine rx_aload_n C dX2_isPossible_194 0 rfl ?_
    refine rx_iload_n C dX2_isPossible_195 2 rfl ?_
    replace hF := rx_biE hF; obtain ⟨y9, e_y9, hF⟩ := hF
    refine rx_ci (rx_rV C (w_X2_offerOf e_y9 b_p b_w b_e) Y_X2_offerOf V_X2_offerOf m_X2_205 (Or.inl ⟨_, _, _, _, b_p.1, rfl⟩) ⟨⟨rfl, rfl⟩, ⟨(Nat.le_of_ble_eq_true rfl), (Nat.le_of_ble_eq_true rfl)⟩, ⟨(Nat.le_of_ble_eq_true rfl), (Nat.le_of_ble_eq_true rfl)⟩⟩ rfl rfl (Nat.le_of_ble_eq_true rfl) dX2_isPossible_196) (fun r hh n1 hpp => ?_)
    obtain ⟨rfl, hu⟩ := hpp
    cases hu
    refine rx_iconst C dX2_isPossible_199 (-1 : Int32) (by decide) ?_
    refine rx_icmp_eq C dX2_isPossible_200 207 (by decide) (fun c10 => ?_) (fun c10 => ?_)
    · rw [if_pos c10] at hF
      refine rx_iconst C dX2_isPossible_207 (0 : Int32) (by decide) ?_
      obtain rfl := Option.some.inj hF
      exact rx_zret C (rx_nz (Or.inl rfl)) dX2_isPossible_208 (Nat.le_refl _) (Nat.le_refl _) ⟨rfl, (Or.inl rfl), rfl⟩
    · rw [if_neg c10] at hF
      refine rx_iconst C dX2_isPossible_203 (1 : Int32) (by decide) ?_
      refine rx_goto C dX2_isPossible_204 208 (by decide) ?_
      obtain rfl := Option.some.inj hF
      exact rx_zret C (rx_nz (Or.inr rfl)) dX2_isPossible_208 (Nat.le_refl _) (Nat.le_refl _) ⟨rfl, (Or.inr rfl), rfl⟩
  rw [if_neg c8] at hF
  by_cases c11 : (rx_sw z1) = (5 : Int32)
  · rw [if_pos c11] at hF
    refine rx_tableIn C dX2_isPossible_8 (by rw [c11]; decide) (by rw [c11]; decide) (by rw [c11]; rfl) 209 (by decide) ?_
    refine rx_aload_n C dX2_isPossible_209 0 rfl ?_
    refine rx_getf C f_X2_53 dX2_isPossible_210 b_p.1 rfl ?_
    refine rx_iload_n C dX2_isPossible_213 2 rfl ?_
    refine rx_iadd C dX2_isPossible_214 ?_
    refine rx_sipush C dX2_isPossible_215 (10000 : Int32) (by decide) ?_
    refine rx_icmp_gt C dX2_isPossible_218 225 (by decide) (fun c12 => ?_) (fun c12 => ?_)
    · rw [if_pos c12] at hF
      refine rx_iconst C dX2_isPossible_225 (0 : Int32) (by decide) ?_
      obtain rfl := Option.some.inj hF
      exact rx_zret C (rx_nz (Or.inl rfl)) dX2_isPossible_226 (Nat.le_refl _) (Nat.le_refl _) ⟨rfl, (Or.inl rfl), rfl⟩
    · rw [if_neg c12] at hF
      refine rx_iconst C dX2_isPossible_221 (1 : Int32) (by decide) ?_
      refine rx_goto C dX2_isPossible_222 226 (by decide) ?_
      obtain rfl := Option.some.inj hF
      exact rx_zret C (rx_nz (Or.inr rfl)) dX2_isPossible_226 (Nat.le_refl _) (Nat.le_refl _) ⟨rfl, (Or.inr rfl), rfl⟩
  rw [if_neg c11] at hF
  by_cases c13 : (rx_sw z1) = (6 : Int32)
  · rw [if_pos c13] at hF
    refine rx_tableIn C dX2_isPossible_8 (by rw [c13]; decide) (by rw [c13]; decide) (by rw [c13]; rfl) 56 (by decide) ?_
    refine rx_aload_n C dX2_isPossible_56 0 rfl ?_
    refine rx_getf C f_X2_18 dX2_isPossible_57 b_p.1 rfl ?_
    refine rx_iload_n C dX2_isPossible_60 2 rfl ?_
    refine rx_ci (rx_rSN C (w_at b_p.2.2.2.1 (by decide)) Y_X8_at S_X8_at m_X2_91 ⟨⟨rfl, rfl⟩, ⟨(Nat.le_of_ble_eq_true rfl), (Nat.le_of_ble_eq_true rfl)⟩, ⟨(Nat.le_of_ble_eq_true rfl), (Nat.le_of_ble_eq_true rfl)⟩⟩ rfl rfl (Nat.le_of_ble_eq_true rfl) dX2_isPossible_61) (fun r hh n1 hpp => ?_)
    obtain ⟨rfl, hu⟩ := hpp
    cases hu
    refine rx_iload_n C dX2_isPossible_64 3 rfl ?_
    refine rx_icmp_lt C dX2_isPossible_65 72 (by decide) (fun c14 => ?_) (fun c14 => ?_)
    · rw [if_pos c14] at hF
      refine rx_iconst C dX2_isPossible_72 (0 : Int32) (by decide) ?_
      obtain rfl := Option.some.inj hF
      exact rx_zret C (rx_nz (Or.inl rfl)) dX2_isPossible_73 (Nat.le_refl _) (Nat.le_refl _) ⟨rfl, (Or.inl rfl), rfl⟩
    · rw [if_neg c14] at hF
      refine rx_iconst C dX2_isPossible_68 (1 : Int32) (by decide) ?_
      refine rx_goto C dX2_isPossible_69 73 (by decide) ?_
      obtain rfl := Option.some.inj hF
      exact rx_zret C (rx_nz (Or.inr rfl)) dX2_isPossible_73 (Nat.le_refl _) (Nat.le_refl _) ⟨rfl, (Or.inr rfl), rfl⟩
  rw [if_neg c13] at hF
  by_cases c15 : (rx_sw z1) = (7 : Int32)
  · rw [if_pos c15] at hF
    refine rx_tableIn C dX2_isPossible_8 (by rw [c15]; decide) (by rw [c15]; decide) (by rw [c15]; rfl) 74 (by decide) ?_
    refine rx_aload_n C dX2_isPossible_74 0 rfl ?_
    refine rx_getf C f_X2_9 dX2_isPossible_75 b_p.1 rfl ?_
    refine rx_aload_n C dX2_isPossible_78 0 rfl ?_
    refine rx_getf C f_X2_15 dX2_isPossible_79 b_p.1 rfl ?_
    refine rx_iload_n C dX2_isPossible_82 2 rfl ?_
    refine rx_ci (rx_rSN C (w_at b_p.2.2.1 (by decide)) Y_X8_at S_X8_at m_X2_91 ⟨⟨rfl, rfl⟩, ⟨(Nat.le_of_ble_eq_true rfl), (Nat.le_of_ble_eq_true rfl)⟩, ⟨(Nat.le_of_ble_eq_true rfl), (Nat.le_of_ble_eq_true rfl)⟩⟩ rfl rfl (Nat.le_of_ble_eq_true rfl) dX2_isPossible_83) (fun r hh n1 hpp => ?_)
    obtain ⟨rfl, hu⟩ := hpp
    cases hu
    refine rx_ci (rx_rSN C (w_at b_p.2.1 (by decide)) Y_X8_at S_X8_at m_X2_91 ⟨⟨rfl, rfl⟩, ⟨(Nat.le_of_ble_eq_true rfl), (Nat.le_of_ble_eq_true rfl)⟩, ⟨(Nat.le_of_ble_eq_true rfl), (Nat.le_of_ble_eq_true rfl)⟩⟩ rfl rfl (Nat.le_of_ble_eq_true rfl) dX2_isPossible_86) (fun r hh n1 hpp => ?_)
    obtain ⟨rfl, hu⟩ := hpp
    cases hu
    refine rx_iload_n C dX2_isPossible_89 3 rfl ?_
    refine rx_icmp_lt C dX2_isPossible_90 97 (by decide) (fun c16 => ?_) (fun c16 => ?_)
    · rw [if_pos c16] at hF
      refine rx_iconst C dX2_isPossible_97 (0 : Int32) (by decide) ?_
      obtain rfl := Option.some.inj hF
      exact rx_zret C (rx_nz (Or.inl rfl)) dX2_isPossible_98 (Nat.le_refl _) (Nat.le_refl _) ⟨rfl, (Or.inl rfl), rfl⟩
    · rw [if_neg c16] at hF
      refine rx_iconst C dX2_isPossible_93 (1 : Int32) (by decide) ?_
      refine rx_goto C dX2_isPossible_94 98 (by decide) ?_
      obtain rfl := Option.some.inj hF
      exact rx_zret C (rx_nz (Or.inr rfl)) dX2_isPossible_98 (Nat.le_refl _) (Nat.le_refl _) ⟨rfl, (Or.inr rfl), rfl⟩
  rw [if_neg c15] at hF
  by_cases c17 : (rx_sw z1) = (8 : Int32)
  · rw [if_pos c17] at hF
    refine rx_tableIn C dX2_isPossible_8 (by rw [c17]; decide) (by rw [c17]; decide) (by rw [c17]; rfl) 179 (by decide) ?_
    refine rx_aload_n C dX2_isPossible_179 0 rfl ?_
    refine rx_iload_n C dX2_isPossible_180 2 rfl ?_
    replace hF := rx_biE hF; obtain ⟨y18, e_y18, hF⟩ := hF
    refine rx_ci (rx_rV C (w_X2_offerOf e_y18 b_p b_w b_e) Y_X2_offerOf V_X2_offerOf m_X2_205 (Or.inl ⟨_, _, _, _, b_p.1, rfl⟩) ⟨⟨rfl, rfl⟩, ⟨(Nat.le_of_ble_eq_true rfl), (Nat.le_of_ble_eq_true rfl)⟩, ⟨(Nat.le_of_ble_eq_true rfl), (Nat.le_of_ble_eq_true rfl)⟩⟩ rfl rfl (Nat.le_of_ble_eq_true rfl) dX2_isPossible_181) (fun r hh n1 hpp => ?_)
    obtain ⟨rfl, hu⟩ := hpp
    cases hu
    refine rx_iconst C dX2_isPossible_184 (-1 : Int32) (by decide) ?_
    refine rx_icmp_ne C dX2_isPossible_185 192 (by decide) (fun c19 => ?_) (fun c19 => ?_)
    · rw [if_neg c19] at hF
      refine rx_iconst C dX2_isPossible_192 (0 : Int32) (by decide) ?_
      obtain rfl := Option.some.inj hF
      exact rx_zret C (rx_nz (Or.inl rfl)) dX2_isPossible_193 (Nat.le_refl _) (Nat.le_refl _) ⟨rfl, (Or.inl rfl), rfl⟩
    · rw [if_pos c19] at hF
      refine rx_iconst C dX2_isPossible_188 (1 : Int32) (by decide) ?_
      refine rx_goto C dX2_isPossible_189 193 (by decide) ?_
      obtain rfl := Option.some.inj hF
      exact rx_zret C (rx_nz (Or.inr rfl)) dX2_isPossible_193 (Nat.le_refl _) (Nat.le_refl _) ⟨rfl, (Or.inr rfl), rfl⟩
  rw [if_neg c17] at hF
  refine rx_tableOut C dX2_isPossible_8 (by have q1 := rx_neI c1; have q2 := rx_neI c3; have q3 := rx_neI c6; have q4 := rx_neI c8; have q5 := rx_neI c11; have q6 := rx_neI c13; have q7 := rx_neI c15; have q8 := rx_neI c17; have r1 : (1 : Int32).toInt = 1 := rfl; have r2 : (2 : Int32).toInt = 2 := rfl; have r3 : (3 : Int32).toInt = 3 := rfl; have r4 : (4 : Int32).toInt = 4 := rfl; have r5 : (5 : Int32).toInt = 5 := rfl; have r6 : (6 : Int32).toInt = 6 := rfl; have r7 : (7 : Int32).toInt = 7 := rfl; have r8 : (8 : Int32).toInt = 8 := rfl; omega) 227 (by decide) ?_
  refine rx_iconst C dX2_isPossible_227 (1 : Int32) (by decide) ?_
  obtain rfl := Option.some.inj hF
  exact rx_zret C (rx_nz (Or.inr rfl)) dX2_isPossible_228 (Nat.le_refl _) (Nat.le_refl _) ⟨rfl, (Or.inr rfl), rfl⟩
def F_X2_faultOf (op : ob) (ow : ob) (oe : ob) (ost : ob) (z1 : Nat) (x2 : Int32) (x3 : Int32) : Option (Int32) := if (rx_vt 0 z1) ≤ (0 : Int32) then (if (rx_vt 0 z1) ≤ (1 : Int32) then ((F_X2_isSound op ost z1 x2 x3).bind fun y3 => if y3 = (0 : Int32) then (some ((2 : Int32))) else ((F_X2_isPossible op ow oe z1 x2 x3).bind fun y5 => if y5 = (0 : Int32) then (some ((3 : Int32))) else (some ((0 : Int32))))) else ((F_X5_hasPerson ost x3).bind fun y7 => if y7 = (0 : Int32) then (some ((1 : Int32))) else ((F_X2_isSound op ost z1 x2 x3).bind fun y9 => if y9 = (0 : Int32) then (some ((2 : Int32))) else ((F_X2_isPossible op ow oe z1 x2 x3).bind fun y11 => if y11 = (0 : Int32) then (some ((3 : Int32))) else (some ((0 : Int32))))))) else ((F_X5_hasPerson ost x2).bind fun y13 => if y13 = (0 : Int32) then (some ((1 : Int32))) else (if (rx_vt 0 z1) ≤ (1 : Int32) then ((F_X2_isSound op ost z1 x2 x3).bind fun y16 => if y16 = (0 : Int32) then (some ((2 : Int32))) else ((F_X2_isPossible op ow oe z1 x2 x3).bind fun y18 => if y18 = (0 : Int32) then (some ((3 : Int32))) else (some ((0 : Int32))))) else ((F_X5_hasPerson ost x3).bind fun y20 => if y20 = (0 : Int32) then (some ((1 : Int32))) else ((F_X2_isSound op ost z1 x2 x3).bind fun y22 => if y22 = (0 : Int32) then (some ((2 : Int32))) else ((F_X2_isPossible op ow oe z1 x2 x3).bind fun y24 => if y24 = (0 : Int32) then (some ((3 : Int32))) else (some ((0 : Int32))))))))
set_option maxRecDepth 100000 in
set_option maxHeartbeats 4000000 in
theorem w_X2_faultOf {q g : Nat} {op : ob} {ow : ob} {oe : ob} {ost : ob} {z1 : Nat} {x2 : Int32} {x3 : Int32} {y : Int32} (hF : F_X2_faultOf op ow oe ost z1 x2 x3 = some y) (b_p : bP k q g op h) (b_w : bQ k (q + 10) ow h) (b_e : bQ k (q + 13) oe h) (b_st : bS k g ost h) (hz_z1 : z1 < 9) (hd0 : q + 16 ≤ g ∨ g + 9 ≤ q) : Met l yX2_faultOf (rx_ws yX2_faultOf cX2_faultOf 4 (some .int)) (rx_rm 4 88) (va_Pc [.ref q, .ref (k (10 + z1)), .int x2, .int x3] (rx_G G k h n)) (va_Qi (fun r u => y = r ∧ u = (h, n)) (rx_B G k) (rx_A k)) 0 0 (rx_A k) := by
  refine rx_start [(0, .ref q), (1, .ref (k (10 + z1))), (2, .int x2), (3, .int x3)] rfl (Nat.le_of_ble_eq_true rfl) (by decide) rfl (fun P9 E9 S9 M9 A9 B9 me9 c9 C hname => ?_)
  unfold F_X2_faultOf at hF
  refine rx_aload_n C dX2_faultOf_0 1 rfl ?_
  refine rx_getON (v := .int (rx_vt 0 z1)) C (rx_vO C hz_z1 0 rfl) sf_X2_181 dX2_faultOf_1 ?_
  refine rx_if_le C dX2_faultOf_4 18 (by decide) (fun c1 => ?_) (fun c1 => ?_)
  · rw [if_pos c1] at hF
    refine rx_aload_n C dX2_faultOf_18 1 rfl ?_
    refine rx_getON (v := .int (rx_vt 0 z1)) C (rx_vO C hz_z1 0 rfl) sf_X2_181 dX2_faultOf_19 ?_
    refine rx_iconst C dX2_faultOf_22 (1 : Int32) (by decide) ?_
    refine rx_icmp_le C dX2_faultOf_23 39 (by decide) (fun c2 => ?_) (fun c2 => ?_)
    · rw [if_pos c2] at hF
      refine rx_aload_n C dX2_faultOf_39 0 rfl ?_
      refine rx_aload_n C dX2_faultOf_40 1 rfl ?_
      refine rx_iload_n C dX2_faultOf_41 2 rfl ?_
      refine rx_iload_n C dX2_faultOf_42 3 rfl ?_
      replace hF := rx_biE hF; obtain ⟨y3, e_y3, hF⟩ := hF
      refine rx_ci (rx_rV C (w_X2_isSound e_y3 b_p b_st hz_z1 (by omega)) Y_X2_isSound V_X2_isSound m_X2_187 (Or.inl ⟨_, _, _, _, b_p.1, rfl⟩) ⟨⟨rfl, rfl⟩, ⟨(Nat.le_of_ble_eq_true rfl), (Nat.le_of_ble_eq_true rfl)⟩, ⟨(Nat.le_of_ble_eq_true rfl), (Nat.le_of_ble_eq_true rfl)⟩⟩ rfl rfl (Nat.le_of_ble_eq_true rfl) dX2_faultOf_43) (fun r hh n1 hpp => ?_)
      obtain ⟨rfl, bo_y3, hu⟩ := hpp
      cases hu
      refine rx_if_ne C dX2_faultOf_46 51 (by decide) (fun c4 => ?_) (fun c4 => ?_)
      · rw [if_neg c4] at hF
        refine rx_aload_n C dX2_faultOf_51 0 rfl ?_
        refine rx_aload_n C dX2_faultOf_52 1 rfl ?_
        refine rx_iload_n C dX2_faultOf_53 2 rfl ?_
        refine rx_iload_n C dX2_faultOf_54 3 rfl ?_
        replace hF := rx_biE hF; obtain ⟨y5, e_y5, hF⟩ := hF
        refine rx_ci (rx_rV C (w_X2_isPossible e_y5 b_p b_w b_e hz_z1) Y_X2_isPossible V_X2_isPossible m_X2_191 (Or.inl ⟨_, _, _, _, b_p.1, rfl⟩) ⟨⟨rfl, rfl⟩, ⟨(Nat.le_of_ble_eq_true rfl), (Nat.le_of_ble_eq_true rfl)⟩, ⟨(Nat.le_of_ble_eq_true rfl), (Nat.le_of_ble_eq_true rfl)⟩⟩ rfl rfl (Nat.le_of_ble_eq_true rfl) dX2_faultOf_55) (fun r hh n1 hpp => ?_)
        obtain ⟨rfl, bo_y5, hu⟩ := hpp
        cases hu
        refine rx_if_eq C dX2_faultOf_58 65 (by decide) (fun c6 => ?_) (fun c6 => ?_)
        · rw [if_pos c6] at hF
          refine rx_iconst C dX2_faultOf_65 (3 : Int32) (by decide) ?_
          obtain rfl := Option.some.inj hF
          exact rx_iret C dX2_faultOf_66 (Nat.le_refl _) (Nat.le_refl _) ⟨rfl, rfl⟩
        · rw [if_neg c6] at hF
          refine rx_iconst C dX2_faultOf_61 (0 : Int32) (by decide) ?_
          refine rx_goto C dX2_faultOf_62 66 (by decide) ?_
          obtain rfl := Option.some.inj hF
          exact rx_iret C dX2_faultOf_66 (Nat.le_refl _) (Nat.le_refl _) ⟨rfl, rfl⟩
      · rw [if_pos c4] at hF
        refine rx_iconst C dX2_faultOf_49 (2 : Int32) (by decide) ?_
        obtain rfl := Option.some.inj hF
        exact rx_iret C dX2_faultOf_50 (Nat.le_refl _) (Nat.le_refl _) ⟨rfl, rfl⟩
    · rw [if_neg c2] at hF
      refine rx_aload_n C dX2_faultOf_26 0 rfl ?_
      refine rx_getf C f_X2_49 dX2_faultOf_27 b_p.1 rfl ?_
      refine rx_iload_n C dX2_faultOf_30 3 rfl ?_
      replace hF := rx_biE hF; obtain ⟨y7, e_y7, hF⟩ := hF
      refine rx_ci (rx_rVN C (w_X5_hasPerson e_y7 b_st) Y_X5_hasPerson V_X5_hasPerson m_X2_184 (Or.inl ⟨_, _, _, _, b_st.1, rfl⟩) ⟨⟨rfl, rfl⟩, ⟨(Nat.le_of_ble_eq_true rfl), (Nat.le_of_ble_eq_true rfl)⟩, ⟨(Nat.le_of_ble_eq_true rfl), (Nat.le_of_ble_eq_true rfl)⟩⟩ rfl rfl (Nat.le_of_ble_eq_true rfl) dX2_faultOf_31) (fun r hh n1 hpp => ?_)
      obtain ⟨rfl, bo_y7, hu⟩ := hpp
      cases hu
      refine rx_if_ne C dX2_faultOf_34 39 (by decide) (fun c8 => ?_) (fun c8 => ?_)
      · rw [if_neg c8] at hF
        refine rx_aload_n C dX2_faultOf_39 0 rfl ?_
        refine rx_aload_n C dX2_faultOf_40 1 rfl ?_
        refine rx_iload_n C dX2_faultOf_41 2 rfl ?_
        refine rx_iload_n C dX2_faultOf_42 3 rfl ?_
        replace hF := rx_biE hF; obtain ⟨y9, e_y9, hF⟩ := hF
        refine rx_ci (rx_rV C (w_X2_isSound e_y9 b_p b_st hz_z1 (by omega)) Y_X2_isSound V_X2_isSound m_X2_187 (Or.inl ⟨_, _, _, _, b_p.1, rfl⟩) ⟨⟨rfl, rfl⟩, ⟨(Nat.le_of_ble_eq_true rfl), (Nat.le_of_ble_eq_true rfl)⟩, ⟨(Nat.le_of_ble_eq_true rfl), (Nat.le_of_ble_eq_true rfl)⟩⟩ rfl rfl (Nat.le_of_ble_eq_true rfl) dX2_faultOf_43) (fun r hh n1 hpp => ?_)
        obtain ⟨rfl, bo_y9, hu⟩ := hpp
        cases hu
        refine rx_if_ne C dX2_faultOf_46 51 (by decide) (fun c10 => ?_) (fun c10 => ?_)
        · rw [if_neg c10] at hF
          refine rx_aload_n C dX2_faultOf_51 0 rfl ?_
          refine rx_aload_n C dX2_faultOf_52 1 rfl ?_
          refine rx_iload_n C dX2_faultOf_53 2 rfl ?_
          refine rx_iload_n C dX2_faultOf_54 3 rfl ?_
          replace hF := rx_biE hF; obtain ⟨y11, e_y11, hF⟩ := hF
          refine rx_ci (rx_rV C (w_X2_isPossible e_y11 b_p b_w b_e hz_z1) Y_X2_isPossible V_X2_isPossible m_X2_191 (Or.inl ⟨_, _, _, _, b_p.1, rfl⟩) ⟨⟨rfl, rfl⟩, ⟨(Nat.le_of_ble_eq_true rfl), (Nat.le_of_ble_eq_true rfl)⟩, ⟨(Nat.le_of_ble_eq_true rfl), (Nat.le_of_ble_eq_true rfl)⟩⟩ rfl rfl (Nat.le_of_ble_eq_true rfl) dX2_faultOf_55) (fun r hh n1 hpp => ?_)
          obtain ⟨rfl, bo_y11, hu⟩ := hpp
          cases hu
          refine rx_if_eq C dX2_faultOf_58 65 (by decide) (fun c12 => ?_) (fun c12 => ?_)
          · rw [if_pos c12] at hF
            refine rx_iconst C dX2_faultOf_65 (3 : Int32) (by decide) ?_
            obtain rfl := Option.some.inj hF
            exact rx_iret C dX2_faultOf_66 (Nat.le_refl _) (Nat.le_refl _) ⟨rfl, rfl⟩
          · rw [if_neg c12] at hF
            refine rx_iconst C dX2_faultOf_61 (0 : Int32) (by decide) ?_
            refine rx_goto C dX2_faultOf_62 66 (by decide) ?_
            obtain rfl := Option.some.inj hF
            exact rx_iret C dX2_faultOf_66 (Nat.le_refl _) (Nat.le_refl _) ⟨rfl, rfl⟩
        · rw [if_pos c10] at hF
          refine rx_iconst C dX2_faultOf_49 (2 : Int32) (by decide) ?_
          obtain rfl := Option.some.inj hF
          exact rx_iret C dX2_faultOf_50 (Nat.le_refl _) (Nat.le_refl _) ⟨rfl, rfl⟩
      · rw [if_pos c8] at hF
        refine rx_iconst C dX2_faultOf_37 (1 : Int32) (by decide) ?_
        obtain rfl := Option.some.inj hF
        exact rx_iret C dX2_faultOf_38 (Nat.le_refl _) (Nat.le_refl _) ⟨rfl, rfl⟩
  · rw [if_neg c1] at hF
    refine rx_aload_n C dX2_faultOf_7 0 rfl ?_
    refine rx_getf C f_X2_49 dX2_faultOf_8 b_p.1 rfl ?_
    refine rx_iload_n C dX2_faultOf_11 2 rfl ?_
    replace hF := rx_biE hF; obtain ⟨y13, e_y13, hF⟩ := hF
    refine rx_ci (rx_rVN C (w_X5_hasPerson e_y13 b_st) Y_X5_hasPerson V_X5_hasPerson m_X2_184 (Or.inl ⟨_, _, _, _, b_st.1, rfl⟩) ⟨⟨rfl, rfl⟩, ⟨(Nat.le_of_ble_eq_true rfl), (Nat.le_of_ble_eq_true rfl)⟩, ⟨(Nat.le_of_ble_eq_true rfl), (Nat.le_of_ble_eq_true rfl)⟩⟩ rfl rfl (Nat.le_of_ble_eq_true rfl) dX2_faultOf_12) (fun r hh n1 hpp => ?_)
    obtain ⟨rfl, bo_y13, hu⟩ := hpp
    cases hu
    refine rx_if_eq C dX2_faultOf_15 37 (by decide) (fun c14 => ?_) (fun c14 => ?_)
    · rw [if_pos c14] at hF
      refine rx_iconst C dX2_faultOf_37 (1 : Int32) (by decide) ?_
      obtain rfl := Option.some.inj hF
      exact rx_iret C dX2_faultOf_38 (Nat.le_refl _) (Nat.le_refl _) ⟨rfl, rfl⟩
    · rw [if_neg c14] at hF
      refine rx_aload_n C dX2_faultOf_18 1 rfl ?_
      refine rx_getON (v := .int (rx_vt 0 z1)) C (rx_vO C hz_z1 0 rfl) sf_X2_181 dX2_faultOf_19 ?_
      refine rx_iconst C dX2_faultOf_22 (1 : Int32) (by decide) ?_
      refine rx_icmp_le C dX2_faultOf_23 39 (by decide) (fun c15 => ?_) (fun c15 => ?_)
      · rw [if_pos c15] at hF
        refine rx_aload_n C dX2_faultOf_39 0 rfl ?_
        refine rx_aload_n C dX2_faultOf_40 1 rfl ?_
        refine rx_iload_n C dX2_faultOf_41 2 rfl ?_
        refine rx_iload_n C dX2_faultOf_42 3 rfl ?_
        replace hF := rx_biE hF; obtain ⟨y16, e_y16, hF⟩ := hF
        refine rx_ci (rx_rV C (w_X2_isSound e_y16 b_p b_st hz_z1 (by omega)) Y_X2_isSound V_X2_isSound m_X2_187 (Or.inl ⟨_, _, _, _, b_p.1, rfl⟩) ⟨⟨rfl, rfl⟩, ⟨(Nat.le_of_ble_eq_true rfl), (Nat.le_of_ble_eq_true rfl)⟩, ⟨(Nat.le_of_ble_eq_true rfl), (Nat.le_of_ble_eq_true rfl)⟩⟩ rfl rfl (Nat.le_of_ble_eq_true rfl) dX2_faultOf_43) (fun r hh n1 hpp => ?_)
        obtain ⟨rfl, bo_y16, hu⟩ := hpp
        cases hu
        refine rx_if_ne C dX2_faultOf_46 51 (by decide) (fun c17 => ?_) (fun c17 => ?_)
        · rw [if_neg c17] at hF
          refine rx_aload_n C dX2_faultOf_51 0 rfl ?_
          refine rx_aload_n C dX2_faultOf_52 1 rfl ?_
          refine rx_iload_n C dX2_faultOf_53 2 rfl ?_
          refine rx_iload_n C dX2_faultOf_54 3 rfl ?_
          replace hF := rx_biE hF; obtain ⟨y18, e_y18, hF⟩ := hF
          refine rx_ci (rx_rV C (w_X2_isPossible e_y18 b_p b_w b_e hz_z1) Y_X2_isPossible V_X2_isPossible m_X2_191 (Or.inl ⟨_, _, _, _, b_p.1, rfl⟩) ⟨⟨rfl, rfl⟩, ⟨(Nat.le_of_ble_eq_true rfl), (Nat.le_of_ble_eq_true rfl)⟩, ⟨(Nat.le_of_ble_eq_true rfl), (Nat.le_of_ble_eq_true rfl)⟩⟩ rfl rfl (Nat.le_of_ble_eq_true rfl) dX2_faultOf_55) (fun r hh n1 hpp => ?_)
          obtain ⟨rfl, bo_y18, hu⟩ := hpp
          cases hu
          refine rx_if_eq C dX2_faultOf_58 65 (by decide) (fun c19 => ?_) (fun c19 => ?_)
          · rw [if_pos c19] at hF
            refine rx_iconst C dX2_faultOf_65 (3 : Int32) (by decide) ?_
            obtain rfl := Option.some.inj hF
            exact rx_iret C dX2_faultOf_66 (Nat.le_refl _) (Nat.le_refl _) ⟨rfl, rfl⟩
          · rw [if_neg c19] at hF
            refine rx_iconst C dX2_faultOf_61 (0 : Int32) (by decide) ?_
            refine rx_goto C dX2_faultOf_62 66 (by decide) ?_
            obtain rfl := Option.some.inj hF
            exact rx_iret C dX2_faultOf_66 (Nat.le_refl _) (Nat.le_refl _) ⟨rfl, rfl⟩
        · rw [if_pos c17] at hF
          refine rx_iconst C dX2_faultOf_49 (2 : Int32) (by decide) ?_
          obtain rfl := Option.some.inj hF
          exact rx_iret C dX2_faultOf_50 (Nat.le_refl _) (Nat.le_refl _) ⟨rfl, rfl⟩
      · rw [if_neg c15] at hF
        refine rx_aload_n C dX2_faultOf_26 0 rfl ?_
        refine rx_getf C f_X2_49 dX2_faultOf_27 b_p.1 rfl ?_
        refine rx_iload_n C dX2_faultOf_30 3 rfl ?_
        replace hF := rx_biE hF; obtain ⟨y20, e_y20, hF⟩ := hF
        refine rx_ci (rx_rVN C (w_X5_hasPerson e_y20 b_st) Y_X5_hasPerson V_X5_hasPerson m_X2_184 (Or.inl ⟨_, _, _, _, b_st.1, rfl⟩) ⟨⟨rfl, rfl⟩, ⟨(Nat.le_of_ble_eq_true rfl), (Nat.le_of_ble_eq_true rfl)⟩, ⟨(Nat.le_of_ble_eq_true rfl), (Nat.le_of_ble_eq_true rfl)⟩⟩ rfl rfl (Nat.le_of_ble_eq_true rfl) dX2_faultOf_31) (fun r hh n1 hpp => ?_)
        obtain ⟨rfl, bo_y20, hu⟩ := hpp
        cases hu
        refine rx_if_ne C dX2_faultOf_34 39 (by decide) (fun c21 => ?_) (fun c21 => ?_)
        · rw [if_neg c21] at hF
          refine rx_aload_n C dX2_faultOf_39 0 rfl ?_
          refine rx_aload_n C dX2_faultOf_40 1 rfl ?_
          refine rx_iload_n C dX2_faultOf_41 2 rfl ?_
          refine rx_iload_n C dX2_faultOf_42 3 rfl ?_
          replace hF := rx_biE hF; obtain ⟨y22, e_y22, hF⟩ := hF
          refine rx_ci (rx_rV C (w_X2_isSound e_y22 b_p b_st hz_z1 (by omega)) Y_X2_isSound V_X2_isSound m_X2_187 (Or.inl ⟨_, _, _, _, b_p.1, rfl⟩) ⟨⟨rfl, rfl⟩, ⟨(Nat.le_of_ble_eq_true rfl), (Nat.le_of_ble_eq_true rfl)⟩, ⟨(Nat.le_of_ble_eq_true rfl), (Nat.le_of_ble_eq_true rfl)⟩⟩ rfl rfl (Nat.le_of_ble_eq_true rfl) dX2_faultOf_43) (fun r hh n1 hpp => ?_)
          obtain ⟨rfl, bo_y22, hu⟩ := hpp
          cases hu
          refine rx_if_ne C dX2_faultOf_46 51 (by decide) (fun c23 => ?_) (fun c23 => ?_)
          · rw [if_neg c23] at hF
            refine rx_aload_n C dX2_faultOf_51 0 rfl ?_
            refine rx_aload_n C dX2_faultOf_52 1 rfl ?_
            refine rx_iload_n C dX2_faultOf_53 2 rfl ?_
            refine rx_iload_n C dX2_faultOf_54 3 rfl ?_
            replace hF := rx_biE hF; obtain ⟨y24, e_y24, hF⟩ := hF
            refine rx_ci (rx_rV C (w_X2_isPossible e_y24 b_p b_w b_e hz_z1) Y_X2_isPossible V_X2_isPossible m_X2_191 (Or.inl ⟨_, _, _, _, b_p.1, rfl⟩) ⟨⟨rfl, rfl⟩, ⟨(Nat.le_of_ble_eq_true rfl), (Nat.le_of_ble_eq_true rfl)⟩, ⟨(Nat.le_of_ble_eq_true rfl), (Nat.le_of_ble_eq_true rfl)⟩⟩ rfl rfl (Nat.le_of_ble_eq_true rfl) dX2_faultOf_55) (fun r hh n1 hpp => ?_)
            obtain ⟨rfl, bo_y24, hu⟩ := hpp
            cases hu
            refine rx_if_eq C dX2_faultOf_58 65 (by decide) (fun c25 => ?_) (fun c25 => ?_)
            · rw [if_pos c25] at hF
              refine rx_iconst C dX2_faultOf_65 (3 : Int32) (by decide) ?_
              obtain rfl := Option.some.inj hF
              exact rx_iret C dX2_faultOf_66 (Nat.le_refl _) (Nat.le_refl _) ⟨rfl, rfl⟩
            · rw [if_neg c25] at hF
              refine rx_iconst C dX2_faultOf_61 (0 : Int32) (by decide) ?_
              refine rx_goto C dX2_faultOf_62 66 (by decide) ?_
              obtain rfl := Option.some.inj hF
              exact rx_iret C dX2_faultOf_66 (Nat.le_refl _) (Nat.le_refl _) ⟨rfl, rfl⟩
          · rw [if_pos c23] at hF
            refine rx_iconst C dX2_faultOf_49 (2 : Int32) (by decide) ?_
            obtain rfl := Option.some.inj hF
            exact rx_iret C dX2_faultOf_50 (Nat.le_refl _) (Nat.le_refl _) ⟨rfl, rfl⟩
        · rw [if_pos c21] at hF
          refine rx_iconst C dX2_faultOf_37 (1 : Int32) (by decide) ?_
          obtain rfl := Option.some.inj hF
          exact rx_iret C dX2_faultOf_38 (Nat.le_refl _) (Nat.le_refl _) ⟨rfl, rfl⟩
def F_X2_drop (op : ob) (x1 : Int32) (x2 : Int32) : Option (Int32 × ob) := rx_le ((rx_at 10 (op.2 5) x1)) fun v1 => rx_le (op.1, va_up op.2 6 (rx_put 10 (op.2 6) x1 (rx_at 10 (op.2 6) x1 + (-x2)))) fun o_p_2 => rx_le (o_p_2.1, va_up o_p_2.2 4 (rx_put 2 (o_p_2.2 4) v1 (rx_at 2 (o_p_2.2 4) v1 + x2))) fun o_p_3 => some ((rx_at 2 (o_p_3.2 4) v1), o_p_3)
set_option maxRecDepth 100000 in
set_option maxHeartbeats 4000000 in
theorem w_X2_drop {q g : Nat} {op : ob} {x1 : Int32} {x2 : Int32} {y : Int32 × ob} (hF : F_X2_drop op x1 x2 = some y) (b_p : bP k q g op h) : Met l yX2_drop (rx_ws yX2_drop cX2_drop 4 (some .int)) (rx_rm 2 44) (va_Pc [.ref q, .int x1, .int x2] (rx_G G k h n)) (va_Qi (fun r u => y.1 = r ∧ u.2 = n ∧ bP k q g y.2 u.1 ∧ rx_fr [(q, 10)] h u.1) (rx_B G k) (rx_A k)) 0 0 (rx_A k) := by
  refine rx_start [(0, .ref q), (1, .int x1), (2, .int x2)] rfl (Nat.le_of_ble_eq_true rfl) (by decide) rfl (fun P9 E9 S9 M9 A9 B9 me9 c9 C hname => ?_)
  unfold F_X2_drop at hF
  have fr : rx_fr [(q, 10)] h h := rx_fr0
  refine rx_aload_n C dX2_drop_0 0 rfl ?_
  refine rx_getf C f_X2_15 dX2_drop_1 b_p.1 rfl ?_
  refine rx_iload_n C dX2_drop_4 1 rfl ?_
  refine rx_ci (rx_rSN C (w_at b_p.2.2.1 (by decide)) Y_X8_at S_X8_at m_X2_91 ⟨⟨rfl, rfl⟩, ⟨(Nat.le_of_ble_eq_true rfl), (Nat.le_of_ble_eq_true rfl)⟩, ⟨(Nat.le_of_ble_eq_true rfl), (Nat.le_of_ble_eq_true rfl)⟩⟩ rfl rfl (Nat.le_of_ble_eq_true rfl) dX2_drop_5) (fun r hh n1 hpp => ?_)
  obtain ⟨rfl, hu⟩ := hpp
  cases hu
  replace hF := rx_leE hF; obtain ⟨v1, e_v1, hF⟩ := hF
  rw [e_v1]
  refine rx_istore_n C dX2_drop_8 (by decide) [(3, .int v1), (0, .ref q), (1, .int x1), (2, .int x2)] rfl ?_
  refine rx_aload_n C dX2_drop_9 1 rfl ?_
  refine rx_getf C f_X2_18 dX2_drop_10 b_p.1 rfl ?_
  refine rx_iload_n C dX2_drop_13 2 rfl ?_
  refine rx_iload_n C dX2_drop_14 3 rfl ?_
  refine rx_ineg C dX2_drop_15 ?_
  replace hF := rx_leE hF; obtain ⟨o_p_2, e_o_p_2, hF⟩ := hF
  refine rx_cv (rx_rSN C (w_add b_p.2.2.2.1 (by decide)) Y_X8_add S_X8_add m_X2_160 ⟨⟨rfl, rfl⟩, ⟨(Nat.le_of_ble_eq_true rfl), (Nat.le_of_ble_eq_true rfl)⟩, ⟨(Nat.le_of_ble_eq_true rfl), (Nat.le_of_ble_eq_true rfl)⟩⟩ rfl rfl (Nat.le_of_ble_eq_true rfl) dX2_drop_16) (fun hh n1 hpp => ?_)
  obtain ⟨c_p, ff, hn⟩ := b_p.wr6 e_o_p_2 hpp
  replace hn := Eq.symm hn
  subst hn
  replace b_p := c_p
  replace fr := rx_frt fr ff (fun a ha => ⟨ha.1, trivial⟩)
  refine rx_aload_n C dX2_drop_19 1 rfl ?_
  refine rx_getf C f_X2_9 dX2_drop_20 b_p.1 rfl ?_
  refine rx_iload_n C dX2_drop_23 0 rfl ?_
  refine rx_iload_n C dX2_drop_24 3 rfl ?_
  replace hF := rx_leE hF; obtain ⟨o_p_3, e_o_p_3, hF⟩ := hF
  refine rx_cv (rx_rSN C (w_add b_p.2.1 (by decide)) Y_X8_add S_X8_add m_X2_160 ⟨⟨rfl, rfl⟩, ⟨(Nat.le_of_ble_eq_true rfl), (Nat.le_of_ble_eq_true rfl)⟩, ⟨(Nat.le_of_ble_eq_true rfl), (Nat.le_of_ble_eq_true rfl)⟩⟩ rfl rfl (Nat.le_of_ble_eq_true rfl) dX2_drop_25) (fun hh n1 hpp => ?_)
  obtain ⟨c_p, ff, hn⟩ := b_p.wr4 e_o_p_3 hpp
  replace hn := Eq.symm hn
  subst hn
  replace b_p := c_p
  replace fr := rx_frt fr ff (fun a ha => ⟨ha.1, trivial⟩)
  refine rx_aload_n C dX2_drop_28 1 rfl ?_
  refine rx_getf C f_X2_9 dX2_drop_29 b_p.1 rfl ?_
  refine rx_iload_n C dX2_drop_32 0 rfl ?_
  refine rx_ci (rx_rSN C (w_at b_p.2.1 (by decide)) Y_X8_at S_X8_at m_X2_91 ⟨⟨rfl, rfl⟩, ⟨(Nat.le_of_ble_eq_true rfl), (Nat.le_of_ble_eq_true rfl)⟩, ⟨(Nat.le_of_ble_eq_true rfl), (Nat.le_of_ble_eq_true rfl)⟩⟩ rfl rfl (Nat.le_of_ble_eq_true rfl) dX2_drop_33) (fun r hh n1 hpp => ?_)
  obtain ⟨rfl, hu⟩ := hpp
  cases hu
  obtain rfl := Option.some.inj hF
  exact rx_iret C dX2_drop_36 (Nat.le_refl _) (Nat.le_refl _) ⟨rfl, rfl, b_p, fr⟩
def F_X2_pick (op : ob) (x1 : Int32) (x2 : Int32) : Option (Int32 × ob) := rx_le (op.1, va_up op.2 4 (rx_put 2 (op.2 4) ((rx_at 10 (op.2 5) x1)) (rx_at 2 (op.2 4) ((rx_at 10 (op.2 5) x1)) + (-x2)))) fun o_p_1 => rx_le (o_p_1.1, va_up o_p_1.2 6 (rx_put 10 (o_p_1.2 6) x1 (rx_at 10 (o_p_1.2 6) x1 + x2))) fun o_p_2 => some ((rx_at 10 (o_p_2.2 6) x1), o_p_2)
set_option maxRecDepth 100000 in
set_option maxHeartbeats 4000000 in
theorem w_X2_pick {q g : Nat} {op : ob} {x1 : Int32} {x2 : Int32} {y : Int32 × ob} (hF : F_X2_pick op x1 x2 = some y) (b_p : bP k q g op h) : Met l yX2_pick (rx_ws yX2_pick cX2_pick 3 (some .int)) (rx_rm 2 44) (va_Pc [.ref q, .int x1, .int x2] (rx_G G k h n)) (va_Qi (fun r u => y.1 = r ∧ u.2 = n ∧ bP k q g y.2 u.1 ∧ rx_fr [(q, 10)] h u.1) (rx_B G k) (rx_A k)) 0 0 (rx_A k) := by
  refine rx_start [(0, .ref q), (1, .int x1), (2, .int x2)] rfl (Nat.le_of_ble_eq_true rfl) (by decide) rfl (fun P9 E9 S9 M9 A9 B9 me9 c9 C hname => ?_)
  unfold F_X2_pick at hF
  have fr : rx_fr [(q, 10)] h h := rx_fr0
  refine rx_aload_n C dX2_pick_0 0 rfl ?_
  refine rx_getf C f_X2_9 dX2_pick_1 b_p.1 rfl ?_
  refine rx_aload_n C dX2_pick_4 0 rfl ?_
  refine rx_getf C f_X2_15 dX2_pick_5 b_p.1 rfl ?_
  refine rx_iload_n C dX2_pick_8 1 rfl ?_
  refine rx_ci (rx_rSN C (w_at b_p.2.2.1 (by decide)) Y_X8_at S_X8_at m_X2_91 ⟨⟨rfl, rfl⟩, ⟨(Nat.le_of_ble_eq_true rfl), (Nat.le_of_ble_eq_true rfl)⟩, ⟨(Nat.le_of_ble_eq_true rfl), (Nat.le_of_ble_eq_true rfl)⟩⟩ rfl rfl (Nat.le_of_ble_eq_true rfl) dX2_pick_9) (fun r hh n1 hpp => ?_)
  obtain ⟨rfl, hu⟩ := hpp
  cases hu
  refine rx_iload_n C dX2_pick_12 2 rfl ?_
  refine rx_ineg C dX2_pick_13 ?_
  replace hF := rx_leE hF; obtain ⟨o_p_1, e_o_p_1, hF⟩ := hF
  refine rx_cv (rx_rSN C (w_add b_p.2.1 (by decide)) Y_X8_add S_X8_add m_X2_160 ⟨⟨rfl, rfl⟩, ⟨(Nat.le_of_ble_eq_true rfl), (Nat.le_of_ble_eq_true rfl)⟩, ⟨(Nat.le_of_ble_eq_true rfl), (Nat.le_of_ble_eq_true rfl)⟩⟩ rfl rfl (Nat.le_of_ble_eq_true rfl) dX2_pick_14) (fun hh n1 hpp => ?_)
  obtain ⟨c_p, ff, hn⟩ := b_p.wr4 e_o_p_1 hpp
  replace hn := Eq.symm hn
  subst hn
  replace b_p := c_p
  replace fr := rx_frt fr ff (fun a ha => ⟨ha.1, trivial⟩)
  refine rx_aload_n C dX2_pick_17 0 rfl ?_
  refine rx_getf C f_X2_18 dX2_pick_18 b_p.1 rfl ?_
  refine rx_iload_n C dX2_pick_21 1 rfl ?_
  refine rx_iload_n C dX2_pick_22 2 rfl ?_
  replace hF := rx_leE hF; obtain ⟨o_p_2, e_o_p_2, hF⟩ := hF
  refine rx_cv (rx_rSN C (w_add b_p.2.2.2.1 (by decide)) Y_X8_add S_X8_add m_X2_160 ⟨⟨rfl, rfl⟩, ⟨(Nat.le_of_ble_eq_true rfl), (Nat.le_of_ble_eq_true rfl)⟩, ⟨(Nat.le_of_ble_eq_true rfl), (Nat.le_of_ble_eq_true rfl)⟩⟩ rfl rfl (Nat.le_of_ble_eq_true rfl) dX2_pick_23) (fun hh n1 hpp => ?_)
  obtain ⟨c_p, ff, hn⟩ := b_p.wr6 e_o_p_2 hpp
  replace hn := Eq.symm hn
  subst hn
  replace b_p := c_p
  replace fr := rx_frt fr ff (fun a ha => ⟨ha.1, trivial⟩)
  refine rx_aload_n C dX2_pick_26 0 rfl ?_
  refine rx_getf C f_X2_18 dX2_pick_27 b_p.1 rfl ?_
  refine rx_iload_n C dX2_pick_30 1 rfl ?_
  refine rx_ci (rx_rSN C (w_at b_p.2.2.2.1 (by decide)) Y_X8_at S_X8_at m_X2_91 ⟨⟨rfl, rfl⟩, ⟨(Nat.le_of_ble_eq_true rfl), (Nat.le_of_ble_eq_true rfl)⟩, ⟨(Nat.le_of_ble_eq_true rfl), (Nat.le_of_ble_eq_true rfl)⟩⟩ rfl rfl (Nat.le_of_ble_eq_true rfl) dX2_pick_31) (fun r hh n1 hpp => ?_)
  obtain ⟨rfl, hu⟩ := hpp
  cases hu
  obtain rfl := Option.some.inj hF
  exact rx_iret C dX2_pick_34 (Nat.le_refl _) (Nat.le_refl _) ⟨rfl, rfl, b_p, fr⟩
def F_X2_lay (op : ob) (ost : ob) (x1 : Int32) (x2 : Int32) : Option (Int32 × ob) := rx_le (op.1, va_up op.2 10 (rx_put 10 (op.2 10) x2 ((-1 : Int32)))) fun o_p_1 => rx_le (o_p_1.1, va_up o_p_1.2 11 (rx_put 10 (o_p_1.2 11) x2 ((rx_at 10 (o_p_1.2 5) x1)))) fun o_p_2 => (F_X2_royalCoinsOf o_p_2 ost x1).bind fun y3 => some (y3, o_p_2)
set_option maxRecDepth 100000 in
set_option maxHeartbeats 4000000 in
theorem w_X2_lay {q g : Nat} {op : ob} {ost : ob} {x1 : Int32} {x2 : Int32} {y : Int32 × ob} (hF : F_X2_lay op ost x1 x2 = some y) (b_p : bP k q g op h) (b_st : bS k g ost h) (hd0 : q + 16 ≤ g ∨ g + 9 ≤ q) : Met l yX2_lay (rx_ws yX2_lay cX2_lay 3 (some .int)) (rx_rm 2 44) (va_Pc [.ref q, .int x1, .int x2] (rx_G G k h n)) (va_Qi (fun r u => y.1 = r ∧ u.2 = n ∧ bP k q g y.2 u.1 ∧ rx_fr [(q, 10)] h u.1) (rx_B G k) (rx_A k)) 0 0 (rx_A k) := by
  have s_st_p : g + 9 ≤ q ∨ q + 10 ≤ g := by omega
  refine rx_start [(0, .ref q), (1, .int x1), (2, .int x2)] rfl (Nat.le_of_ble_eq_true rfl) (by decide) rfl (fun P9 E9 S9 M9 A9 B9 me9 c9 C hname => ?_)
  unfold F_X2_lay at hF
  have fr : rx_fr [(q, 10)] h h := rx_fr0
  refine rx_aload_n C dX2_lay_0 0 rfl ?_
  refine rx_getf C f_X2_30 dX2_lay_1 b_p.1 rfl ?_
  refine rx_iload_n C dX2_lay_4 2 rfl ?_
  refine rx_iconst C dX2_lay_5 (-1 : Int32) (by decide) ?_
  replace hF := rx_leE hF; obtain ⟨o_p_1, e_o_p_1, hF⟩ := hF
  refine rx_cv (rx_rSN C (w_put b_p.2.2.2.2.2.2.2.1 (by decide)) Y_X8_put S_X8_put m_X2_66 ⟨⟨rfl, rfl⟩, ⟨(Nat.le_of_ble_eq_true rfl), (Nat.le_of_ble_eq_true rfl)⟩, ⟨(Nat.le_of_ble_eq_true rfl), (Nat.le_of_ble_eq_true rfl)⟩⟩ rfl rfl (Nat.le_of_ble_eq_true rfl) dX2_lay_6) (fun hh n1 hpp => ?_)
  obtain ⟨c_p, ff, hn⟩ := b_p.wr10 e_o_p_1 hpp
  replace hn := Eq.symm hn
  subst hn
  replace b_p := c_p
  replace b_st := b_st.keep ff ⟨s_st_p, trivial⟩
  replace fr := rx_frt fr ff (fun a ha => ⟨ha.1, trivial⟩)
  refine rx_aload_n C dX2_lay_9 0 rfl ?_
  refine rx_getf C f_X2_33 dX2_lay_10 b_p.1 rfl ?_
  refine rx_iload_n C dX2_lay_13 2 rfl ?_
  refine rx_aload_n C dX2_lay_14 0 rfl ?_
  refine rx_getf C f_X2_15 dX2_lay_15 b_p.1 rfl ?_
  refine rx_iload_n C dX2_lay_18 1 rfl ?_
  refine rx_ci (rx_rSN C (w_at b_p.2.2.1 (by decide)) Y_X8_at S_X8_at m_X2_91 ⟨⟨rfl, rfl⟩, ⟨(Nat.le_of_ble_eq_true rfl), (Nat.le_of_ble_eq_true rfl)⟩, ⟨(Nat.le_of_ble_eq_true rfl), (Nat.le_of_ble_eq_true rfl)⟩⟩ rfl rfl (Nat.le_of_ble_eq_true rfl) dX2_lay_19) (fun r hh n1 hpp => ?_)
  obtain ⟨rfl, hu⟩ := hpp
  cases hu
  replace hF := rx_leE hF; obtain ⟨o_p_2, e_o_p_2, hF⟩ := hF
  refine rx_cv (rx_rSN C (w_put b_p.2.2.2.2.2.2.2.2.1 (by decide)) Y_X8_put S_X8_put m_X2_66 ⟨⟨rfl, rfl⟩, ⟨(Nat.le_of_ble_eq_true rfl), (Nat.le_of_ble_eq_true rfl)⟩, ⟨(Nat.le_of_ble_eq_true rfl), (Nat.le_of_ble_eq_true rfl)⟩⟩ rfl rfl (Nat.le_of_ble_eq_true rfl) dX2_lay_22) (fun hh n1 hpp => ?_)
  obtain ⟨c_p, ff, hn⟩ := b_p.wr11 e_o_p_2 hpp
  replace hn := Eq.symm hn
  subst hn
  replace b_p := c_p
  replace b_st := b_st.keep ff ⟨s_st_p, trivial⟩
  replace fr := rx_frt fr ff (fun a ha => ⟨ha.1, trivial⟩)
  refine rx_aload_n C dX2_lay_25 0 rfl ?_
  refine rx_iload_n C dX2_lay_26 1 rfl ?_
  replace hF := rx_biE hF; obtain ⟨y3, e_y3, hF⟩ := hF
  refine rx_ci (rx_rV C (w_X2_royalCoinsOf e_y3 b_p b_st (by omega)) Y_X2_royalCoinsOf V_X2_royalCoinsOf m_X2_235 (Or.inl ⟨_, _, _, _, b_p.1, rfl⟩) ⟨⟨rfl, rfl⟩, ⟨(Nat.le_of_ble_eq_true rfl), (Nat.le_of_ble_eq_true rfl)⟩, ⟨(Nat.le_of_ble_eq_true rfl), (Nat.le_of_ble_eq_true rfl)⟩⟩ rfl rfl (Nat.le_of_ble_eq_true rfl) dX2_lay_27) (fun r hh n1 hpp => ?_)
  obtain ⟨rfl, hu⟩ := hpp
  cases hu
  obtain rfl := Option.some.inj hF
  exact rx_iret C dX2_lay_30 (Nat.le_refl _) (Nat.le_refl _) ⟨rfl, rfl, b_p, fr⟩
def F_X2_lift (op : ob) (ost : ob) (x1 : Int32) (x2 : Int32) : Option (Int32 × ob) := rx_le (op.1, va_up op.2 10 (rx_put 10 (op.2 10) x2 x1)) fun o_p_1 => (F_X2_royalCoinsOf o_p_1 ost x1).bind fun y2 => some (y2, o_p_1)
set_option maxRecDepth 100000 in
set_option maxHeartbeats 4000000 in
theorem w_X2_lift {q g : Nat} {op : ob} {ost : ob} {x1 : Int32} {x2 : Int32} {y : Int32 × ob} (hF : F_X2_lift op ost x1 x2 = some y) (b_p : bP k q g op h) (b_st : bS k g ost h) (hd0 : q + 16 ≤ g ∨ g + 9 ≤ q) : Met l yX2_lift (rx_ws yX2_lift cX2_lift 3 (some .int)) (rx_rm 2 44) (va_Pc [.ref q, .int x1, .int x2] (rx_G G k h n)) (va_Qi (fun r u => y.1 = r ∧ u.2 = n ∧ bP k q g y.2 u.1 ∧ rx_fr [(q, 10)] h u.1) (rx_B G k) (rx_A k)) 0 0 (rx_A k) := by
  have s_st_p : g + 9 ≤ q ∨ q + 10 ≤ g := by omega
  refine rx_start [(0, .ref q), (1, .int x1), (2, .int x2)] rfl (Nat.le_of_ble_eq_true rfl) (by decide) rfl (fun P9 E9 S9 M9 A9 B9 me9 c9 C hname => ?_)
  unfold F_X2_lift at hF
  have fr : rx_fr [(q, 10)] h h := rx_fr0
  refine rx_aload_n C dX2_lift_0 0 rfl ?_
  refine rx_getf C f_X2_30 dX2_lift_1 b_p.1 rfl ?_
  refine rx_iload_n C dX2_lift_4 2 rfl ?_
  refine rx_iload_n C dX2_lift_5 1 rfl ?_
  replace hF := rx_leE hF; obtain ⟨o_p_1, e_o_p_1, hF⟩ := hF
  refine rx_cv (rx_rSN C (w_put b_p.2.2.2.2.2.2.2.1 (by decide)) Y_X8_put S_X8_put m_X2_66 ⟨⟨rfl, rfl⟩, ⟨(Nat.le_of_ble_eq_true rfl), (Nat.le_of_ble_eq_true rfl)⟩, ⟨(Nat.le_of_ble_eq_true rfl), (Nat.le_of_ble_eq_true rfl)⟩⟩ rfl rfl (Nat.le_of_ble_eq_true rfl) dX2_lift_6) (fun hh n1 hpp => ?_)
  obtain ⟨c_p, ff, hn⟩ := b_p.wr10 e_o_p_1 hpp
  replace hn := Eq.symm hn
  subst hn
  replace b_p := c_p
  replace b_st := b_st.keep ff ⟨s_st_p, trivial⟩
  replace fr := rx_frt fr ff (fun a ha => ⟨ha.1, trivial⟩)
  refine rx_aload_n C dX2_lift_9 0 rfl ?_
  refine rx_iload_n C dX2_lift_10 1 rfl ?_
  replace hF := rx_biE hF; obtain ⟨y2, e_y2, hF⟩ := hF
  refine rx_ci (rx_rV C (w_X2_royalCoinsOf e_y2 b_p b_st (by omega)) Y_X2_royalCoinsOf V_X2_royalCoinsOf m_X2_235 (Or.inl ⟨_, _, _, _, b_p.1, rfl⟩) ⟨⟨rfl, rfl⟩, ⟨(Nat.le_of_ble_eq_true rfl), (Nat.le_of_ble_eq_true rfl)⟩, ⟨(Nat.le_of_ble_eq_true rfl), (Nat.le_of_ble_eq_true rfl)⟩⟩ rfl rfl (Nat.le_of_ble_eq_true rfl) dX2_lift_11) (fun r hh n1 hpp => ?_)
  obtain ⟨rfl, hu⟩ := hpp
  cases hu
  obtain rfl := Option.some.inj hF
  exact rx_iret C dX2_lift_14 (Nat.le_refl _) (Nat.le_refl _) ⟨rfl, rfl, b_p, fr⟩
def F_X2_swap (op : ob) (x1 : Int32) (x2 : Int32) : Option (Int32 × ob) := rx_le ((rx_at 10 (op.2 8) x1)) fun v1 => rx_le (op.1, va_up op.2 8 (rx_put 10 (op.2 8) x1 ((rx_at 10 (op.2 8) x2)))) fun o_p_2 => rx_le (o_p_2.1, va_up o_p_2.2 8 (rx_put 10 (o_p_2.2 8) x2 v1)) fun o_p_3 => some ((rx_at 10 (o_p_3.2 8) x1), o_p_3)
set_option maxRecDepth 100000 in
set_option maxHeartbeats 4000000 in
theorem w_X2_swap {q g : Nat} {op : ob} {x1 : Int32} {x2 : Int32} {y : Int32 × ob} (hF : F_X2_swap op x1 x2 = some y) (b_p : bP k q g op h) : Met l yX2_swap (rx_ws yX2_swap cX2_swap 4 (some .int)) (rx_rm 1 22) (va_Pc [.ref q, .int x1, .int x2] (rx_G G k h n)) (va_Qi (fun r u => y.1 = r ∧ u.2 = n ∧ bP k q g y.2 u.1 ∧ rx_fr [(q, 10)] h u.1) (rx_B G k) (rx_A k)) 0 0 (rx_A k) := by
  refine rx_start [(0, .ref q), (1, .int x1), (2, .int x2)] rfl (Nat.le_of_ble_eq_true rfl) (by decide) rfl (fun P9 E9 S9 M9 A9 B9 me9 c9 C hname => ?_)
  unfold F_X2_swap at hF
  have fr : rx_fr [(q, 10)] h h := rx_fr0
  refine rx_aload_n C dX2_swap_0 0 rfl ?_
  refine rx_getf C f_X2_24 dX2_swap_1 b_p.1 rfl ?_
  refine rx_iload_n C dX2_swap_4 1 rfl ?_
  refine rx_ci (rx_rSN C (w_at b_p.2.2.2.2.2.1 (by decide)) Y_X8_at S_X8_at m_X2_91 ⟨⟨rfl, rfl⟩, ⟨(Nat.le_of_ble_eq_true rfl), (Nat.le_of_ble_eq_true rfl)⟩, ⟨(Nat.le_of_ble_eq_true rfl), (Nat.le_of_ble_eq_true rfl)⟩⟩ rfl rfl (Nat.le_of_ble_eq_true rfl) dX2_swap_5) (fun r hh n1 hpp => ?_)
  obtain ⟨rfl, hu⟩ := hpp
  cases hu
  replace hF := rx_leE hF; obtain ⟨v1, e_v1, hF⟩ := hF
  rw [e_v1]
  refine rx_istore_n C dX2_swap_8 (by decide) [(3, .int v1), (0, .ref q), (1, .int x1), (2, .int x2)] rfl ?_
  refine rx_aload_n C dX2_swap_9 1 rfl ?_
  refine rx_getf C f_X2_24 dX2_swap_10 b_p.1 rfl ?_
  refine rx_iload_n C dX2_swap_13 2 rfl ?_
  refine rx_aload_n C dX2_swap_14 1 rfl ?_
  refine rx_getf C f_X2_24 dX2_swap_15 b_p.1 rfl ?_
  refine rx_iload_n C dX2_swap_18 3 rfl ?_
  refine rx_ci (rx_rSN C (w_at b_p.2.2.2.2.2.1 (by decide)) Y_X8_at S_X8_at m_X2_91 ⟨⟨rfl, rfl⟩, ⟨(Nat.le_of_ble_eq_true rfl), (Nat.le_of_ble_eq_true rfl)⟩, ⟨(Nat.le_of_ble_eq_true rfl), (Nat.le_of_ble_eq_true rfl)⟩⟩ rfl rfl (Nat.le_of_ble_eq_true rfl) dX2_swap_19) (fun r hh n1 hpp => ?_)
  obtain ⟨rfl, hu⟩ := hpp
  cases hu
  replace hF := rx_leE hF; obtain ⟨o_p_2, e_o_p_2, hF⟩ := hF
  refine rx_cv (rx_rSN C (w_put b_p.2.2.2.2.2.1 (by decide)) Y_X8_put S_X8_put m_X2_66 ⟨⟨rfl, rfl⟩, ⟨(Nat.le_of_ble_eq_true rfl), (Nat.le_of_ble_eq_true rfl)⟩, ⟨(Nat.le_of_ble_eq_true rfl), (Nat.le_of_ble_eq_true rfl)⟩⟩ rfl rfl (Nat.le_of_ble_eq_true rfl) dX2_swap_22) (fun hh n1 hpp => ?_)
  obtain ⟨c_p, ff, hn⟩ := b_p.wr8 e_o_p_2 hpp
  replace hn := Eq.symm hn
  subst hn
  replace b_p := c_p
  replace fr := rx_frt fr ff (fun a ha => ⟨ha.1, trivial⟩)
  refine rx_aload_n C dX2_swap_25 1 rfl ?_
  refine rx_getf C f_X2_24 dX2_swap_26 b_p.1 rfl ?_
  refine rx_iload_n C dX2_swap_29 3 rfl ?_
  refine rx_iload_n C dX2_swap_30 0 rfl ?_
  replace hF := rx_leE hF; obtain ⟨o_p_3, e_o_p_3, hF⟩ := hF
  refine rx_cv (rx_rSN C (w_put b_p.2.2.2.2.2.1 (by decide)) Y_X8_put S_X8_put m_X2_66 ⟨⟨rfl, rfl⟩, ⟨(Nat.le_of_ble_eq_true rfl), (Nat.le_of_ble_eq_true rfl)⟩, ⟨(Nat.le_of_ble_eq_true rfl), (Nat.le_of_ble_eq_true rfl)⟩⟩ rfl rfl (Nat.le_of_ble_eq_true rfl) dX2_swap_31) (fun hh n1 hpp => ?_)
  obtain ⟨c_p, ff, hn⟩ := b_p.wr8 e_o_p_3 hpp
  replace hn := Eq.symm hn
  subst hn
  replace b_p := c_p
  replace fr := rx_frt fr ff (fun a ha => ⟨ha.1, trivial⟩)
  refine rx_aload_n C dX2_swap_34 1 rfl ?_
  refine rx_getf C f_X2_24 dX2_swap_35 b_p.1 rfl ?_
  refine rx_iload_n C dX2_swap_38 2 rfl ?_
  refine rx_ci (rx_rSN C (w_at b_p.2.2.2.2.2.1 (by decide)) Y_X8_at S_X8_at m_X2_91 ⟨⟨rfl, rfl⟩, ⟨(Nat.le_of_ble_eq_true rfl), (Nat.le_of_ble_eq_true rfl)⟩, ⟨(Nat.le_of_ble_eq_true rfl), (Nat.le_of_ble_eq_true rfl)⟩⟩ rfl rfl (Nat.le_of_ble_eq_true rfl) dX2_swap_39) (fun r hh n1 hpp => ?_)
  obtain ⟨rfl, hu⟩ := hpp
  cases hu
  obtain rfl := Option.some.inj hF
  exact rx_iret C dX2_swap_42 (Nat.le_refl _) (Nat.le_refl _) ⟨rfl, rfl, b_p, fr⟩
def F_X2_join (op : ob) (ow : ob) (oe : ob) (x1 : Int32) (x2 : Int32) : Option (Int32 × ob × ob) := if (rx_at 10 (op.2 5) x1) = (1 : Int32) then ((F_X3_insert oe x1 x2).bind fun y2 => some (y2.1, ow, y2.2)) else ((F_X3_insert ow x1 x2).bind fun y3 => some (y3.1, y3.2, oe))
set_option maxRecDepth 100000 in
set_option maxHeartbeats 4000000 in
theorem w_X2_join {q g : Nat} {op : ob} {ow : ob} {oe : ob} {x1 : Int32} {x2 : Int32} {y : Int32 × ob × ob} (hF : F_X2_join op ow oe x1 x2 = some y) (b_p : bP k q g op h) (b_w : bQ k (q + 10) ow h) (b_e : bQ k (q + 13) oe h) : Met l yX2_join (rx_ws yX2_join cX2_join 3 (some .int)) (rx_rm 2 45) (va_Pc [.ref q, .int x1, .int x2] (rx_G G k h n)) (va_Qi (fun r u => y.1 = r ∧ u.2 = n ∧ bQ k (q + 10) y.2.1 u.1 ∧ bQ k (q + 13) y.2.2 u.1 ∧ rx_fr [(q + 10, 3), (q + 13, 3)] h u.1) (rx_B G k) (rx_A k)) 0 0 (rx_A k) := by
  have s_p_e : q + 10 ≤ q + 13 ∨ q + 13 + 3 ≤ q := by omega
  have s_w_e : q + 10 + 3 ≤ q + 13 ∨ q + 13 + 3 ≤ q + 10 := by omega
  have s_p_w : q + 10 ≤ q + 10 ∨ q + 10 + 3 ≤ q := by omega
  have s_e_w : q + 13 + 3 ≤ q + 10 ∨ q + 10 + 3 ≤ q + 13 := by omega
  refine rx_start [(0, .ref q), (1, .int x1), (2, .int x2)] rfl (Nat.le_of_ble_eq_true rfl) (by decide) rfl (fun P9 E9 S9 M9 A9 B9 me9 c9 C hname => ?_)
  unfold F_X2_join at hF
  have fr : rx_fr [(q + 10, 3), (q + 13, 3)] h h := rx_fr0
  refine rx_aload_n C dX2_join_0 0 rfl ?_
  refine rx_aload_n C dX2_join_1 0 rfl ?_
  refine rx_getf C f_X2_15 dX2_join_2 b_p.1 rfl ?_
  refine rx_iload_n C dX2_join_5 1 rfl ?_
  refine rx_ci (rx_rSN C (w_at b_p.2.2.1 (by decide)) Y_X8_at S_X8_at m_X2_91 ⟨⟨rfl, rfl⟩, ⟨(Nat.le_of_ble_eq_true rfl), (Nat.le_of_ble_eq_true rfl)⟩, ⟨(Nat.le_of_ble_eq_true rfl), (Nat.le_of_ble_eq_true rfl)⟩⟩ rfl rfl (Nat.le_of_ble_eq_true rfl) dX2_join_6) (fun r hh n1 hpp => ?_)
  obtain ⟨rfl, hu⟩ := hpp
  cases hu
  refine rx_cq (rx_rV C (w_queueOn b_p.1) Y_X2_queueOn V_X2_queueOn m_X2_122 (Or.inl ⟨_, _, _, _, b_p.1, rfl⟩) ⟨⟨rfl, rfl⟩, ⟨(Nat.le_of_ble_eq_true rfl), (Nat.le_of_ble_eq_true rfl)⟩, ⟨(Nat.le_of_ble_eq_true rfl), (Nat.le_of_ble_eq_true rfl)⟩⟩ rfl rfl (Nat.le_of_ble_eq_true rfl) dX2_join_9) (fun r hh n1 hpp => ?_)
  obtain ⟨rfl, hu⟩ := hpp
  cases hu
  by_cases c1 : (rx_at 10 (op.2 5) x1) = (1 : Int32)
  · rw [if_pos c1] at hF ⊢
    show rx_W _ _ _ _ _ _ _ _ _ _ _ _ _ _ _ _ _ _ _ _ (.ref (q + 13) :: _)
    refine rx_iload_n C dX2_join_12 1 rfl ?_
    refine rx_iload_n C dX2_join_13 2 rfl ?_
    replace hF := rx_biE hF; obtain ⟨y2, e_y2, hF⟩ := hF
    refine rx_ci (rx_rVN C (w_X3_insert e_y2 b_e) Y_X3_insert V_X3_insert m_X2_238 (Or.inl ⟨_, _, _, _, b_e.1, rfl⟩) ⟨⟨rfl, rfl⟩, ⟨(Nat.le_of_ble_eq_true rfl), (Nat.le_of_ble_eq_true rfl)⟩, ⟨(Nat.le_of_ble_eq_true rfl), (Nat.le_of_ble_eq_true rfl)⟩⟩ rfl rfl (Nat.le_of_ble_eq_true rfl) dX2_join_14) (fun r hh n1 hpp => ?_)
    obtain ⟨rfl, hn, c_e, ff⟩ := hpp
    replace hn : n = n1 := Eq.symm hn
    subst hn
    replace b_e : bQ k (q + 13) y2.2 hh := c_e
    clear c_e
    replace ff : rx_fr [(q + 13, 3)] _ hh := ff
    replace b_p := b_p.keep ff ⟨s_p_e, trivial⟩
    replace b_w := b_w.keep ff ⟨s_w_e, trivial⟩
    replace fr := rx_frt fr ff (fun a ha => ⟨ha.2.1, trivial⟩)
    obtain rfl := Option.some.inj hF
    exact rx_iret C dX2_join_17 (Nat.le_refl _) (Nat.le_refl _) ⟨rfl, rfl, b_w, b_e, fr⟩
  · rw [if_neg c1] at hF ⊢
    show rx_W _ _ _ _ _ _ _ _ _ _ _ _ _ _ _ _ _ _ _ _ (.ref (q + 10) :: _)
    refine rx_iload_n C dX2_join_12 1 rfl ?_
    refine rx_iload_n C dX2_join_13 2 rfl ?_
    replace hF := rx_biE hF; obtain ⟨y3, e_y3, hF⟩ := hF
    refine rx_ci (rx_rVN C (w_X3_insert e_y3 b_w) Y_X3_insert V_X3_insert m_X2_238 (Or.inl ⟨_, _, _, _, b_w.1, rfl⟩) ⟨⟨rfl, rfl⟩, ⟨(Nat.le_of_ble_eq_true rfl), (Nat.le_of_ble_eq_true rfl)⟩, ⟨(Nat.le_of_ble_eq_true rfl), (Nat.le_of_ble_eq_true rfl)⟩⟩ rfl rfl (Nat.le_of_ble_eq_true rfl) dX2_join_14) (fun r hh n1 hpp => ?_)
    obtain ⟨rfl, hn, c_w, ff⟩ := hpp
    replace hn : n = n1 := Eq.symm hn
    subst hn
    replace b_w : bQ k (q + 10) y3.2 hh := c_w
    clear c_w
    replace ff : rx_fr [(q + 10, 3)] _ hh := ff
    replace b_p := b_p.keep ff ⟨s_p_w, trivial⟩
    replace b_e := b_e.keep ff ⟨s_e_w, trivial⟩
    replace fr := rx_frt fr ff (fun a ha => ⟨ha.1, trivial⟩)
    obtain rfl := Option.some.inj hF
    exact rx_iret C dX2_join_17 (Nat.le_refl _) (Nat.le_refl _) ⟨rfl, rfl, b_w, b_e, fr⟩
def F_X2_quit (op : ob) (ow : ob) (oe : ob) (x1 : Int32) : Option (Int32 × ob × ob) := if (rx_at 10 (op.2 5) x1) = (1 : Int32) then ((F_X3_placeOf oe x1).bind fun y2 => (F_X3_offerAt oe y2).bind fun y3 => (F_X3_removeAt oe y2).bind fun y4 => some (y3, ow, y4)) else ((F_X3_placeOf ow x1).bind fun y5 => (F_X3_offerAt ow y5).bind fun y6 => (F_X3_removeAt ow y5).bind fun y7 => some (y6, y7, oe))
set_option maxRecDepth 100000 in
set_option maxHeartbeats 4000000 in
theorem w_X2_quit {q g : Nat} {op : ob} {ow : ob} {oe : ob} {x1 : Int32} {y : Int32 × ob × ob} (hF : F_X2_quit op ow oe x1 = some y) (b_p : bP k q g op h) (b_w : bQ k (q + 10) ow h) (b_e : bQ k (q + 13) oe h) : Met l yX2_quit (rx_ws yX2_quit cX2_quit 5 (some .int)) (rx_rm 2 44) (va_Pc [.ref q, .int x1] (rx_G G k h n)) (va_Qi (fun r u => y.1 = r ∧ u.2 = n ∧ bQ k (q + 10) y.2.1 u.1 ∧ bQ k (q + 13) y.2.2 u.1 ∧ rx_fr [(q + 10, 3), (q + 13, 3)] h u.1) (rx_B G k) (rx_A k)) 0 0 (rx_A k) := by
  have s_p_e : q + 10 ≤ q + 13 ∨ q + 13 + 3 ≤ q := by omega
  have s_w_e : q + 10 + 3 ≤ q + 13 ∨ q + 13 + 3 ≤ q + 10 := by omega
  have s_p_w : q + 10 ≤ q + 10 ∨ q + 10 + 3 ≤ q := by omega
  have s_e_w : q + 13 + 3 ≤ q + 10 ∨ q + 10 + 3 ≤ q + 13 := by omega
  refine rx_start [(0, .ref q), (1, .int x1)] rfl (Nat.le_of_ble_eq_true rfl) (by decide) rfl (fun P9 E9 S9 M9 A9 B9 me9 c9 C hname => ?_)
  unfold F_X2_quit at hF
  have fr : rx_fr [(q + 10, 3), (q + 13, 3)] h h := rx_fr0
  refine rx_aload_n C dX2_quit_0 0 rfl ?_
  refine rx_aload_n C dX2_quit_1 0 rfl ?_
  refine rx_getf C f_X2_15 dX2_quit_2 b_p.1 rfl ?_
  refine rx_iload_n C dX2_quit_5 1 rfl ?_
  refine rx_ci (rx_rSN C (w_at b_p.2.2.1 (by decide)) Y_X8_at S_X8_at m_X2_91 ⟨⟨rfl, rfl⟩, ⟨(Nat.le_of_ble_eq_true rfl), (Nat.le_of_ble_eq_true rfl)⟩, ⟨(Nat.le_of_ble_eq_true rfl), (Nat.le_of_ble_eq_true rfl)⟩⟩ rfl rfl (Nat.le_of_ble_eq_true rfl) dX2_quit_6) (fun r hh n1 hpp => ?_)
  obtain ⟨rfl, hu⟩ := hpp
  cases hu
  refine rx_cq (rx_rV C (w_queueOn b_p.1) Y_X2_queueOn V_X2_queueOn m_X2_122 (Or.inl ⟨_, _, _, _, b_p.1, rfl⟩) ⟨⟨rfl, rfl⟩, ⟨(Nat.le_of_ble_eq_true rfl), (Nat.le_of_ble_eq_true rfl)⟩, ⟨(Nat.le_of_ble_eq_true rfl), (Nat.le_of_ble_eq_true rfl)⟩⟩ rfl rfl (Nat.le_of_ble_eq_true rfl) dX2_quit_9) (fun r hh n1 hpp => ?_)
  obtain ⟨rfl, hu⟩ := hpp
  cases hu
  by_cases c1 : (rx_at 10 (op.2 5) x1) = (1 : Int32)
  · rw [if_pos c1] at hF ⊢
    show rx_W _ _ _ _ _ _ _ _ _ _ _ _ _ _ _ _ _ _ _ _ (.ref (q + 13) :: _)
    refine rx_astore_n C dX2_quit_12 (by decide) [(2, .ref (q + 13)), (0, .ref q), (1, .int x1)] rfl ?_
    refine rx_aload_n C dX2_quit_13 0 rfl ?_
    refine rx_iload_n C dX2_quit_14 2 rfl ?_
    replace hF := rx_biE hF; obtain ⟨y2, e_y2, hF⟩ := hF
    refine rx_ci (rx_rVN C (w_X3_placeOf e_y2 b_e) Y_X3_placeOf V_X3_placeOf m_X2_126 (Or.inl ⟨_, _, _, _, b_e.1, rfl⟩) ⟨⟨rfl, rfl⟩, ⟨(Nat.le_of_ble_eq_true rfl), (Nat.le_of_ble_eq_true rfl)⟩, ⟨(Nat.le_of_ble_eq_true rfl), (Nat.le_of_ble_eq_true rfl)⟩⟩ rfl rfl (Nat.le_of_ble_eq_true rfl) dX2_quit_15) (fun r hh n1 hpp => ?_)
    obtain ⟨rfl, hu⟩ := hpp
    cases hu
    refine rx_istore_n C dX2_quit_18 (by decide) [(3, .int y2), (2, .ref (q + 13)), (0, .ref q), (1, .int x1)] rfl ?_
    refine rx_aload_n C dX2_quit_19 1 rfl ?_
    refine rx_iload_n C dX2_quit_20 0 rfl ?_
    replace hF := rx_biE hF; obtain ⟨y3, e_y3, hF⟩ := hF
    refine rx_ci (rx_rVN C (w_X3_offerAt e_y3 b_e) Y_X3_offerAt V_X3_offerAt m_X2_129 (Or.inl ⟨_, _, _, _, b_e.1, rfl⟩) ⟨⟨rfl, rfl⟩, ⟨(Nat.le_of_ble_eq_true rfl), (Nat.le_of_ble_eq_true rfl)⟩, ⟨(Nat.le_of_ble_eq_true rfl), (Nat.le_of_ble_eq_true rfl)⟩⟩ rfl rfl (Nat.le_of_ble_eq_true rfl) dX2_quit_21) (fun r hh n1 hpp => ?_)
    obtain ⟨rfl, hu⟩ := hpp
    cases hu
    refine rx_istore C dX2_quit_24 (by decide) [(4, .int y3), (3, .int y2), (2, .ref (q + 13)), (0, .ref q), (1, .int x1)] rfl ?_
    refine rx_aload_n C dX2_quit_26 2 rfl ?_
    refine rx_iload_n C dX2_quit_27 1 rfl ?_
    replace hF := rx_biE hF; obtain ⟨y4, e_y4, hF⟩ := hF
    refine rx_cv (rx_rVN C (w_X3_removeAt e_y4 b_e) Y_X3_removeAt V_X3_removeAt m_X2_156 (Or.inl ⟨_, _, _, _, b_e.1, rfl⟩) ⟨⟨rfl, rfl⟩, ⟨(Nat.le_of_ble_eq_true rfl), (Nat.le_of_ble_eq_true rfl)⟩, ⟨(Nat.le_of_ble_eq_true rfl), (Nat.le_of_ble_eq_true rfl)⟩⟩ rfl rfl (Nat.le_of_ble_eq_true rfl) dX2_quit_28) (fun hh n1 hpp => ?_)
    obtain ⟨hn, c_e, ff⟩ := hpp
    replace hn : n = n1 := Eq.symm hn
    subst hn
    replace b_e : bQ k (q + 13) y4 hh := c_e
    clear c_e
    replace ff : rx_fr [(q + 13, 3)] _ hh := ff
    replace b_p := b_p.keep ff ⟨s_p_e, trivial⟩
    replace b_w := b_w.keep ff ⟨s_w_e, trivial⟩
    replace fr := rx_frt fr ff (fun a ha => ⟨ha.2.1, trivial⟩)
    refine rx_iload C dX2_quit_31 0 rfl ?_
    obtain rfl := Option.some.inj hF
    exact rx_iret C dX2_quit_33 (Nat.le_refl _) (Nat.le_refl _) ⟨rfl, rfl, b_w, b_e, fr⟩
  · rw [if_neg c1] at hF ⊢
    show rx_W _ _ _ _ _ _ _ _ _ _ _ _ _ _ _ _ _ _ _ _ (.ref (q + 10) :: _)
    refine rx_astore_n C dX2_quit_12 (by decide) [(2, .ref (q + 10)), (0, .ref q), (1, .int x1)] rfl ?_
    refine rx_aload_n C dX2_quit_13 0 rfl ?_
    refine rx_iload_n C dX2_quit_14 2 rfl ?_
    replace hF := rx_biE hF; obtain ⟨y5, e_y5, hF⟩ := hF
    refine rx_ci (rx_rVN C (w_X3_placeOf e_y5 b_w) Y_X3_placeOf V_X3_placeOf m_X2_126 (Or.inl ⟨_, _, _, _, b_w.1, rfl⟩) ⟨⟨rfl, rfl⟩, ⟨(Nat.le_of_ble_eq_true rfl), (Nat.le_of_ble_eq_true rfl)⟩, ⟨(Nat.le_of_ble_eq_true rfl), (Nat.le_of_ble_eq_true rfl)⟩⟩ rfl rfl (Nat.le_of_ble_eq_true rfl) dX2_quit_15) (fun r hh n1 hpp => ?_)
    obtain ⟨rfl, hu⟩ := hpp
    cases hu
    refine rx_istore_n C dX2_quit_18 (by decide) [(3, .int y5), (2, .ref (q + 10)), (0, .ref q), (1, .int x1)] rfl ?_
    refine rx_aload_n C dX2_quit_19 1 rfl ?_
    refine rx_iload_n C dX2_quit_20 0 rfl ?_
    replace hF := rx_biE hF; obtain ⟨y6, e_y6, hF⟩ := hF
    refine rx_ci (rx_rVN C (w_X3_offerAt e_y6 b_w) Y_X3_offerAt V_X3_offerAt m_X2_129 (Or.inl ⟨_, _, _, _, b_w.1, rfl⟩) ⟨⟨rfl, rfl⟩, ⟨(Nat.le_of_ble_eq_true rfl), (Nat.le_of_ble_eq_true rfl)⟩, ⟨(Nat.le_of_ble_eq_true rfl), (Nat.le_of_ble_eq_true rfl)⟩⟩ rfl rfl (Nat.le_of_ble_eq_true rfl) dX2_quit_21) (fun r hh n1 hpp => ?_)
    obtain ⟨rfl, hu⟩ := hpp
    cases hu
    refine rx_istore C dX2_quit_24 (by decide) [(4, .int y6), (3, .int y5), (2, .ref (q + 10)), (0, .ref q), (1, .int x1)] rfl ?_
    refine rx_aload_n C dX2_quit_26 2 rfl ?_
    refine rx_iload_n C dX2_quit_27 1 rfl ?_
    replace hF := rx_biE hF; obtain ⟨y7, e_y7, hF⟩ := hF
    refine rx_cv (rx_rVN C (w_X3_removeAt e_y7 b_w) Y_X3_removeAt V_X3_removeAt m_X2_156 (Or.inl ⟨_, _, _, _, b_w.1, rfl⟩) ⟨⟨rfl, rfl⟩, ⟨(Nat.le_of_ble_eq_true rfl), (Nat.le_of_ble_eq_true rfl)⟩, ⟨(Nat.le_of_ble_eq_true rfl), (Nat.le_of_ble_eq_true rfl)⟩⟩ rfl rfl (Nat.le_of_ble_eq_true rfl) dX2_quit_28) (fun hh n1 hpp => ?_)
    obtain ⟨hn, c_w, ff⟩ := hpp
    replace hn : n = n1 := Eq.symm hn
    subst hn
    replace b_w : bQ k (q + 10) y7 hh := c_w
    clear c_w
    replace ff : rx_fr [(q + 10, 3)] _ hh := ff
    replace b_p := b_p.keep ff ⟨s_p_w, trivial⟩
    replace b_e := b_e.keep ff ⟨s_e_w, trivial⟩
    replace fr := rx_frt fr ff (fun a ha => ⟨ha.1, trivial⟩)
    refine rx_iload C dX2_quit_31 0 rfl ?_
    obtain rfl := Option.some.inj hF
    exact rx_iret C dX2_quit_33 (Nat.le_refl _) (Nat.le_refl _) ⟨rfl, rfl, b_w, b_e, fr⟩
def F_X2_changePride (op : ob) (x1 : Int32) (x2 : Int32) : Option (Int32 × ob) := rx_le ((rx_at 10 (op.2 7) x1)) fun v1 => rx_le (op.1, va_up op.2 7 (rx_put 10 (op.2 7) x1 x2)) fun o_p_2 => some (v1, o_p_2)
set_option maxRecDepth 100000 in
set_option maxHeartbeats 4000000 in
theorem w_X2_changePride {q g : Nat} {op : ob} {x1 : Int32} {x2 : Int32} {y : Int32 × ob} (hF : F_X2_changePride op x1 x2 = some y) (b_p : bP k q g op h) : Met l yX2_changePride (rx_ws yX2_changePride cX2_changePride 4 (some .int)) (rx_rm 1 22) (va_Pc [.ref q, .int x1, .int x2] (rx_G G k h n)) (va_Qi (fun r u => y.1 = r ∧ u.2 = n ∧ bP k q g y.2 u.1 ∧ rx_fr [(q, 10)] h u.1) (rx_B G k) (rx_A k)) 0 0 (rx_A k) := by
  refine rx_start [(0, .ref q), (1, .int x1), (2, .int x2)] rfl (Nat.le_of_ble_eq_true rfl) (by decide) rfl (fun P9 E9 S9 M9 A9 B9 me9 c9 C hname => ?_)
  unfold F_X2_changePride at hF
  have fr : rx_fr [(q, 10)] h h := rx_fr0
  refine rx_aload_n C dX2_changePride_0 0 rfl ?_
  refine rx_getf C f_X2_21 dX2_changePride_1 b_p.1 rfl ?_
  refine rx_iload_n C dX2_changePride_4 1 rfl ?_
  refine rx_ci (rx_rSN C (w_at b_p.2.2.2.2.1 (by decide)) Y_X8_at S_X8_at m_X2_91 ⟨⟨rfl, rfl⟩, ⟨(Nat.le_of_ble_eq_true rfl), (Nat.le_of_ble_eq_true rfl)⟩, ⟨(Nat.le_of_ble_eq_true rfl), (Nat.le_of_ble_eq_true rfl)⟩⟩ rfl rfl (Nat.le_of_ble_eq_true rfl) dX2_changePride_5) (fun r hh n1 hpp => ?_)
  obtain ⟨rfl, hu⟩ := hpp
  cases hu
  replace hF := rx_leE hF; obtain ⟨v1, e_v1, hF⟩ := hF
  rw [e_v1]
  refine rx_istore_n C dX2_changePride_8 (by decide) [(3, .int v1), (0, .ref q), (1, .int x1), (2, .int x2)] rfl ?_
  refine rx_aload_n C dX2_changePride_9 1 rfl ?_
  refine rx_getf C f_X2_21 dX2_changePride_10 b_p.1 rfl ?_
  refine rx_iload_n C dX2_changePride_13 2 rfl ?_
  refine rx_iload_n C dX2_changePride_14 3 rfl ?_
  replace hF := rx_leE hF; obtain ⟨o_p_2, e_o_p_2, hF⟩ := hF
  refine rx_cv (rx_rSN C (w_put b_p.2.2.2.2.1 (by decide)) Y_X8_put S_X8_put m_X2_66 ⟨⟨rfl, rfl⟩, ⟨(Nat.le_of_ble_eq_true rfl), (Nat.le_of_ble_eq_true rfl)⟩, ⟨(Nat.le_of_ble_eq_true rfl), (Nat.le_of_ble_eq_true rfl)⟩⟩ rfl rfl (Nat.le_of_ble_eq_true rfl) dX2_changePride_15) (fun hh n1 hpp => ?_)
  obtain ⟨c_p, ff, hn⟩ := b_p.wr7 e_o_p_2 hpp
  replace hn := Eq.symm hn
  subst hn
  replace b_p := c_p
  replace fr := rx_frt fr ff (fun a ha => ⟨ha.1, trivial⟩)
  refine rx_iload_n C dX2_changePride_18 0 rfl ?_
  obtain rfl := Option.some.inj hF
  exact rx_iret C dX2_changePride_19 (Nat.le_refl _) (Nat.le_refl _) ⟨rfl, rfl, b_p, fr⟩
def F_X2_begin_113 (ost : ob) : Nat → ob → ob → ob → Int32 → Option (Int32 × ob × ob × ob)
  | 0, _, _, _, _ => none
  | fu + 1, op, ow, oe, x1 => if (10 : Int32) ≤ x1 then (some (x1, op, ow, oe)) else (rx_le (op.1, va_up op.2 8 (rx_put 10 (op.2 8) x1 x1)) fun o_p_15 => rx_le (o_p_15.1, va_up o_p_15.2 9 (rx_put 10 (o_p_15.2 9) x1 ((0 : Int32)))) fun o_p_16 => (F_X5_hasKing ost x1).bind fun y17 => if y17 = (0 : Int32) then (rx_le (o_p_16.1, va_up o_p_16.2 10 (rx_put 10 (o_p_16.2 10) x1 ((-1 : Int32)))) fun o_p_19 => rx_le (o_p_19.1, va_up o_p_19.2 12 (rx_put 10 (o_p_19.2 12) x1 ((0 : Int32)))) fun o_p_20 => F_X2_begin_113 ost fu o_p_20 ow oe ((x1 + 1))) else (rx_le (o_p_16.1, va_up o_p_16.2 10 (rx_put 10 (o_p_16.2 10) x1 x1)) fun o_p_21 => rx_le (o_p_21.1, va_up o_p_21.2 12 (rx_put 10 (o_p_21.2 12) x1 ((0 : Int32)))) fun o_p_22 => F_X2_begin_113 ost fu o_p_22 ow oe ((x1 + 1))))
def F_X2_begin (op : ob) (ow : ob) (oe : ob) (ost : ob) : Option (ob × ob × ob) := rx_le (upd op.1 1 ((0 : Int32)), op.2) fun o_p_1 => rx_le (upd o_p_1.1 2 ((ost.1 0)), o_p_1.2) fun o_p_2 => rx_le (upd o_p_2.1 3 ((0 : Int32)), o_p_2.2) fun o_p_3 => rx_le (o_p_3.1, va_up o_p_3.2 4 (rx_put 2 (o_p_3.2 4) ((0 : Int32)) ((0 : Int32)))) fun o_p_4 => rx_le (o_p_4.1, va_up o_p_4.2 4 (rx_put 2 (o_p_4.2 4) ((1 : Int32)) ((0 : Int32)))) fun o_p_5 => rx_le (upd ow.1 2 ((0 : Int32)), ow.2) fun o_w_6 => rx_le (upd oe.1 2 ((0 : Int32)), oe.2) fun o_e_7 => rx_le (o_p_5.1, va_up o_p_5.2 5 (rx_cp 10 10 (ost.2 7) (o_p_5.2 5))) fun o_p_8 => rx_le (o_p_8.1, va_up o_p_8.2 6 (rx_cp 10 10 (ost.2 8) (o_p_8.2 6))) fun o_p_9 => rx_le (o_p_9.1, va_up o_p_9.2 7 (rx_cp 10 10 (ost.2 9) (o_p_9.2 7))) fun o_p_10 => rx_le (o_p_10.1, va_up o_p_10.2 11 (rx_cp 10 10 (ost.2 7) (o_p_10.2 11))) fun o_p_11 => (F_X2_begin_113 ost 100000 o_p_11 o_w_6 o_e_7 ((0 : Int32))).bind fun zl23 => some (zl23.2.1, zl23.2.2.1, zl23.2.2.2)
set_option maxRecDepth 100000 in
set_option maxHeartbeats 4000000 in
theorem w_X2_begin {q g : Nat} {op : ob} {ow : ob} {oe : ob} {ost : ob} {y : ob × ob × ob} (hF : F_X2_begin op ow oe ost = some y) (b_p : bP k q g op h) (b_w : bQ k (q + 10) ow h) (b_e : bQ k (q + 13) oe h) (b_st : bS k g ost h) (hd0 : q + 16 ≤ g ∨ g + 9 ≤ q) : Met l yX2_begin (rx_ws yX2_begin cX2_begin 2 none) (rx_rm 2 61) (va_Pc [.ref q] (rx_G G k h n)) (va_Qv (fun u => u.2 = n ∧ bP k q g y.1 u.1 ∧ bQ k (q + 10) y.2.1 u.1 ∧ bQ k (q + 13) y.2.2 u.1 ∧ rx_fr [(q, 10), (q + 10, 3), (q + 13, 3)] h u.1) (rx_B G k) (rx_A k)) 0 0 (rx_A k) := by
  have s_w_p : q + 10 + 3 ≤ q ∨ q + 10 ≤ q + 10 := by omega
  have s_e_p : q + 13 + 3 ≤ q ∨ q + 10 ≤ q + 13 := by omega
  have s_st_p : g + 9 ≤ q ∨ q + 10 ≤ g := by omega
  have s_p_w : q + 10 ≤ q + 10 ∨ q + 10 + 3 ≤ q := by omega
  have s_e_w : q + 13 + 3 ≤ q + 10 ∨ q + 10 + 3 ≤ q + 13 := by omega
  have s_st_w : g + 9 ≤ q + 10 ∨ q + 10 + 3 ≤ g := by omega
  have s_p_e : q + 10 ≤ q + 13 ∨ q + 13 + 3 ≤ q := by omega
  have s_w_e : q + 10 + 3 ≤ q + 13 ∨ q + 13 + 3 ≤ q + 10 := by omega
  have s_st_e : g + 9 ≤ q + 13 ∨ q + 13 + 3 ≤ g := by omega
  refine rx_start [(0, .ref q)] rfl (Nat.le_of_ble_eq_true rfl) (by decide) rfl (fun P9 E9 S9 M9 A9 B9 me9 c9 C hname => ?_)
  unfold F_X2_begin at hF
  have fr : rx_fr [(q, 10), (q + 10, 3), (q + 13, 3)] h h := rx_fr0
  have b0_p := b_p
  have b0_w := b_w
  have b0_e := b_e
  have b0_st := b_st
  refine rx_aload_n C dX2_begin_0 0 rfl ?_
  refine rx_iconst C dX2_begin_1 (0 : Int32) (by decide) ?_
  replace hF := rx_leE hF; obtain ⟨o_p_1, e_o_p_1, hF⟩ := hF
  refine rx_pP1 C f_X2_53 dX2_begin_2 b_p e_o_p_1 (fun hh c_p ff => ?_)
  replace b_p := c_p
  replace b_w := b_w.keep ff ⟨s_w_p, trivial⟩
  replace b_e := b_e.keep ff ⟨s_e_p, trivial⟩
  replace b_st := b_st.keep ff ⟨s_st_p, trivial⟩
  replace fr := rx_frt fr ff (fun a ha => ⟨ha.1, trivial⟩)
  refine rx_aload_n C dX2_begin_5 0 rfl ?_
  refine rx_aload_n C dX2_begin_6 0 rfl ?_
  refine rx_getf C f_X2_49 dX2_begin_7 b_p.1 rfl ?_
  refine rx_getfN C f_X2_57 dX2_begin_10 b_st.1 rfl ?_
  replace hF := rx_leE hF; obtain ⟨o_p_2, e_o_p_2, hF⟩ := hF
  refine rx_pP2 C f_X2_62 dX2_begin_13 b_p e_o_p_2 (fun hh c_p ff => ?_)
  replace b_p := c_p
  replace b_w := b_w.keep ff ⟨s_w_p, trivial⟩
  replace b_e := b_e.keep ff ⟨s_e_p, trivial⟩
  replace b_st := b_st.keep ff ⟨s_st_p, trivial⟩
  replace fr := rx_frt fr ff (fun a ha => ⟨ha.1, trivial⟩)
  refine rx_aload_n C dX2_begin_16 0 rfl ?_
  refine rx_iconst C dX2_begin_17 (0 : Int32) (by decide) ?_
  replace hF := rx_leE hF; obtain ⟨o_p_3, e_o_p_3, hF⟩ := hF
  refine rx_pP3 C f_X2_63 dX2_begin_18 b_p e_o_p_3 (fun hh c_p ff => ?_)
  replace b_p := c_p
  replace b_w := b_w.keep ff ⟨s_w_p, trivial⟩
  replace b_e := b_e.keep ff ⟨s_e_p, trivial⟩
  replace b_st := b_st.keep ff ⟨s_st_p, trivial⟩
  replace fr := rx_frt fr ff (fun a ha => ⟨ha.1, trivial⟩)
  refine rx_aload_n C dX2_begin_21 0 rfl ?_
  refine rx_getf C f_X2_9 dX2_begin_22 b_p.1 rfl ?_
  refine rx_iconst C dX2_begin_25 (0 : Int32) (by decide) ?_
  refine rx_iconst C dX2_begin_26 (0 : Int32) (by decide) ?_
  replace hF := rx_leE hF; obtain ⟨o_p_4, e_o_p_4, hF⟩ := hF
  refine rx_cv (rx_rSN C (w_put b_p.2.1 (by decide)) Y_X8_put S_X8_put m_X2_66 ⟨⟨rfl, rfl⟩, ⟨(Nat.le_of_ble_eq_true rfl), (Nat.le_of_ble_eq_true rfl)⟩, ⟨(Nat.le_of_ble_eq_true rfl), (Nat.le_of_ble_eq_true rfl)⟩⟩ rfl rfl (Nat.le_of_ble_eq_true rfl) dX2_begin_27) (fun hh n1 hpp => ?_)
  obtain ⟨c_p, ff, hn⟩ := b_p.wr4 e_o_p_4 hpp
  replace hn := Eq.symm hn
  subst hn
  replace b_p := c_p
  replace b_w := b_w.keep ff ⟨s_w_p, trivial⟩
  replace b_e := b_e.keep ff ⟨s_e_p, trivial⟩
  replace b_st := b_st.keep ff ⟨s_st_p, trivial⟩
  replace fr := rx_frt fr ff (fun a ha => ⟨ha.1, trivial⟩)
  refine rx_aload_n C dX2_begin_30 0 rfl ?_
  refine rx_getf C f_X2_9 dX2_begin_31 b_p.1 rfl ?_
  refine rx_iconst C dX2_begin_34 (1 : Int32) (by decide) ?_
  refine rx_iconst C dX2_begin_35 (0 : Int32) (by decide) ?_
  replace hF := rx_leE hF; obtain ⟨o_p_5, e_o_p_5, hF⟩ := hF
  refine rx_cv (rx_rSN C (w_put b_p.2.1 (by decide)) Y_X8_put S_X8_put m_X2_66 ⟨⟨rfl, rfl⟩, ⟨(Nat.le_of_ble_eq_true rfl), (Nat.le_of_ble_eq_true rfl)⟩, ⟨(Nat.le_of_ble_eq_true rfl), (Nat.le_of_ble_eq_true rfl)⟩⟩ rfl rfl (Nat.le_of_ble_eq_true rfl) dX2_begin_36) (fun hh n1 hpp => ?_)
  obtain ⟨c_p, ff, hn⟩ := b_p.wr4 e_o_p_5 hpp
  replace hn := Eq.symm hn
  subst hn
  replace b_p := c_p
  replace b_w := b_w.keep ff ⟨s_w_p, trivial⟩
  replace b_e := b_e.keep ff ⟨s_e_p, trivial⟩
  replace b_st := b_st.keep ff ⟨s_st_p, trivial⟩
  replace fr := rx_frt fr ff (fun a ha => ⟨ha.1, trivial⟩)
  refine rx_aload_n C dX2_begin_39 0 rfl ?_
  refine rx_getf C f_X2_42 dX2_begin_40 b_p.1 rfl ?_
  refine rx_iconst C dX2_begin_43 (0 : Int32) (by decide) ?_
  replace hF := rx_leE hF; obtain ⟨o_w_6, e_o_w_6, hF⟩ := hF
  refine rx_pQ2N C f_X2_70 dX2_begin_44 b_w e_o_w_6 (fun hh c_w ff => ?_)
  replace b_w := c_w
  replace b_p := b_p.keep ff ⟨s_p_w, trivial⟩
  replace b_e := b_e.keep ff ⟨s_e_w, trivial⟩
  replace b_st := b_st.keep ff ⟨s_st_w, trivial⟩
  replace fr := rx_frt fr ff (fun a ha => ⟨ha.2.1, trivial⟩)
  refine rx_aload_n C dX2_begin_47 0 rfl ?_
  refine rx_getf C f_X2_46 dX2_begin_48 b_p.1 rfl ?_
  refine rx_iconst C dX2_begin_51 (0 : Int32) (by decide) ?_
  replace hF := rx_leE hF; obtain ⟨o_e_7, e_o_e_7, hF⟩ := hF
  refine rx_pQ2N C f_X2_70 dX2_begin_52 b_e e_o_e_7 (fun hh c_e ff => ?_)
  replace b_e := c_e
  replace b_p := b_p.keep ff ⟨s_p_e, trivial⟩
  replace b_w := b_w.keep ff ⟨s_w_e, trivial⟩
  replace b_st := b_st.keep ff ⟨s_st_e, trivial⟩
  replace fr := rx_frt fr ff (fun a ha => ⟨ha.2.2.1, trivial⟩)
  refine rx_aload_n C dX2_begin_55 0 rfl ?_
  refine rx_getf C f_X2_49 dX2_begin_56 b_p.1 rfl ?_
  refine rx_getfN C f_X2_73 dX2_begin_59 b_st.1 rfl ?_
  refine rx_aload_n C dX2_begin_62 0 rfl ?_
  refine rx_getf C f_X2_15 dX2_begin_63 b_p.1 rfl ?_
  replace hF := rx_leE hF; obtain ⟨o_p_8, e_o_p_8, hF⟩ := hF
  refine rx_cv (rx_rSN C (w_copyRow b_st.2.2.1 b_p.2.2.1 (by decide) (by decide)) Y_X8_copyRow S_X8_copyRow m_X2_74 ⟨⟨rfl, rfl⟩, ⟨(Nat.le_of_ble_eq_true rfl), (Nat.le_of_ble_eq_true rfl)⟩, ⟨(Nat.le_of_ble_eq_true rfl), (Nat.le_of_ble_eq_true rfl)⟩⟩ rfl rfl (Nat.le_of_ble_eq_true rfl) dX2_begin_66) (fun hh n1 hpp => ?_)
  obtain ⟨c_p, ff, hn⟩ := b_p.wr5 e_o_p_8 hpp
  replace hn := Eq.symm hn
  subst hn
  replace b_p := c_p
  replace b_w := b_w.keep ff ⟨s_w_p, trivial⟩
  replace b_e := b_e.keep ff ⟨s_e_p, trivial⟩
  replace b_st := b_st.keep ff ⟨s_st_p, trivial⟩
  replace fr := rx_frt fr ff (fun a ha => ⟨ha.1, trivial⟩)
  refine rx_aload_n C dX2_begin_69 0 rfl ?_
  refine rx_getf C f_X2_49 dX2_begin_70 b_p.1 rfl ?_
  refine rx_getfN C f_X2_78 dX2_begin_73 b_st.1 rfl ?_
  refine rx_aload_n C dX2_begin_76 0 rfl ?_
  refine rx_getf C f_X2_18 dX2_begin_77 b_p.1 rfl ?_
  replace hF := rx_leE hF; obtain ⟨o_p_9, e_o_p_9, hF⟩ := hF
  refine rx_cv (rx_rSN C (w_copyRow b_st.2.2.2.1 b_p.2.2.2.1 (by decide) (by decide)) Y_X8_copyRow S_X8_copyRow m_X2_74 ⟨⟨rfl, rfl⟩, ⟨(Nat.le_of_ble_eq_true rfl), (Nat.le_of_ble_eq_true rfl)⟩, ⟨(Nat.le_of_ble_eq_true rfl), (Nat.le_of_ble_eq_true rfl)⟩⟩ rfl rfl (Nat.le_of_ble_eq_true rfl) dX2_begin_80) (fun hh n1 hpp => ?_)
  obtain ⟨c_p, ff, hn⟩ := b_p.wr6 e_o_p_9 hpp
  replace hn := Eq.symm hn
  subst hn
  replace b_p := c_p
  replace b_w := b_w.keep ff ⟨s_w_p, trivial⟩
  replace b_e := b_e.keep ff ⟨s_e_p, trivial⟩
  replace b_st := b_st.keep ff ⟨s_st_p, trivial⟩
  replace fr := rx_frt fr ff (fun a ha => ⟨ha.1, trivial⟩)
  refine rx_aload_n C dX2_begin_83 0 rfl ?_
  refine rx_getf C f_X2_49 dX2_begin_84 b_p.1 rfl ?_
  refine rx_getfN C f_X2_79 dX2_begin_87 b_st.1 rfl ?_
  refine rx_aload_n C dX2_begin_90 0 rfl ?_
  refine rx_getf C f_X2_21 dX2_begin_91 b_p.1 rfl ?_
  replace hF := rx_leE hF; obtain ⟨o_p_10, e_o_p_10, hF⟩ := hF
  refine rx_cv (rx_rSN C (w_copyRow b_st.2.2.2.2.1 b_p.2.2.2.2.1 (by decide) (by decide)) Y_X8_copyRow S_X8_copyRow m_X2_74 ⟨⟨rfl, rfl⟩, ⟨(Nat.le_of_ble_eq_true rfl), (Nat.le_of_ble_eq_true rfl)⟩, ⟨(Nat.le_of_ble_eq_true rfl), (Nat.le_of_ble_eq_true rfl)⟩⟩ rfl rfl (Nat.le_of_ble_eq_true rfl) dX2_begin_94) (fun hh n1 hpp => ?_)
  obtain ⟨c_p, ff, hn⟩ := b_p.wr7 e_o_p_10 hpp
  replace hn := Eq.symm hn
  subst hn
  replace b_p := c_p
  replace b_w := b_w.keep ff ⟨s_w_p, trivial⟩
  replace b_e := b_e.keep ff ⟨s_e_p, trivial⟩
  replace b_st := b_st.keep ff ⟨s_st_p, trivial⟩
  replace fr := rx_frt fr ff (fun a ha => ⟨ha.1, trivial⟩)
  refine rx_aload_n C dX2_begin_97 0 rfl ?_
  refine rx_getf C f_X2_49 dX2_begin_98 b_p.1 rfl ?_
  refine rx_getfN C f_X2_73 dX2_begin_101 b_st.1 rfl ?_
  refine rx_aload_n C dX2_begin_104 0 rfl ?_
  refine rx_getf C f_X2_33 dX2_begin_105 b_p.1 rfl ?_
  replace hF := rx_leE hF; obtain ⟨o_p_11, e_o_p_11, hF⟩ := hF
  refine rx_cv (rx_rSN C (w_copyRow b_st.2.2.1 b_p.2.2.2.2.2.2.2.2.1 (by decide) (by decide)) Y_X8_copyRow S_X8_copyRow m_X2_74 ⟨⟨rfl, rfl⟩, ⟨(Nat.le_of_ble_eq_true rfl), (Nat.le_of_ble_eq_true rfl)⟩, ⟨(Nat.le_of_ble_eq_true rfl), (Nat.le_of_ble_eq_true rfl)⟩⟩ rfl rfl (Nat.le_of_ble_eq_true rfl) dX2_begin_108) (fun hh n1 hpp => ?_)
  obtain ⟨c_p, ff, hn⟩ := b_p.wr11 e_o_p_11 hpp
  replace hn := Eq.symm hn
  subst hn
  replace b_p := c_p
  replace b_w := b_w.keep ff ⟨s_w_p, trivial⟩
  replace b_e := b_e.keep ff ⟨s_e_p, trivial⟩
  replace b_st := b_st.keep ff ⟨s_st_p, trivial⟩
  replace fr := rx_frt fr ff (fun a ha => ⟨ha.1, trivial⟩)
  refine rx_iconst C dX2_begin_111 (0 : Int32) (by decide) ?_
  refine rx_istore_n C dX2_begin_112 (by decide) [(1, .int ((0 : Int32))), (0, .ref q)] rfl ?_
  have loop13 : ∀ (fu : Nat) (zz : Int32 × ob × ob × ob) (op : ob) (ow : ob) (oe : ob) (x1 : Int32) (hh : hp), F_X2_begin_113 ost fu op ow oe x1 = some zz → bP k q g op hh → bQ k (q + 10) ow hh → bQ k (q + 13) oe hh → bS k g ost hh → rx_fr [(q, 10), (q + 10, 3), (q + 13, 3)] h hh → (∀ hh : hp, bP k q g zz.2.1 hh → bQ k (q + 10) zz.2.2.1 hh → bQ k (q + 13) zz.2.2.2 hh → rx_fr [(q, 10), (q + 10, 3), (q + 13, 3)] h hh → rx_W P9 l E9 (rx_rm 2 61) S9 M9 A9 B9 me9 c9 (MQ B9 (va_Qv (fun u => u.2 = n ∧ bP k q g y.1 u.1 ∧ bQ k (q + 10) y.2.1 u.1 ∧ bQ k (q + 13) y.2.2 u.1 ∧ rx_fr [(q, 10), (q + 10, 3), (q + 13, 3)] h u.1) (rx_B G k) (rx_A k)) A9 S9 0 0 (rx_A k)) G k 2 0 0 hh n 176 [(0, .ref q), (1, .int zz.1)] []) → rx_W P9 l E9 (rx_rm 2 61) S9 M9 A9 B9 me9 c9 (MQ B9 (va_Qv (fun u => u.2 = n ∧ bP k q g y.1 u.1 ∧ bQ k (q + 10) y.2.1 u.1 ∧ bQ k (q + 13) y.2.2 u.1 ∧ rx_fr [(q, 10), (q + 10, 3), (q + 13, 3)] h u.1) (rx_B G k) (rx_A k)) A9 S9 0 0 (rx_A k)) G k 2 0 0 hh n 113 [(0, .ref q), (1, .int x1)] [] := by
    intro fu
    induction fu with
    | zero => intro zz op ow oe x1 hh hF b_p b_w b_e b_st fr KK; exact absurd hF (by simp [F_X2_begin_113])
    | succ fu ih_loop13 =>
      intro zz op ow oe x1 hh hF b_p b_w b_e b_st fr KK
      unfold F_X2_begin_113 at hF
      refine rx_iload_n C dX2_begin_113 1 rfl ?_
      refine rx_bipush C dX2_begin_114 (10 : Int32) (by decide) ?_
      refine rx_icmp_ge C dX2_begin_116 176 (by decide) (fun c14 => ?_) (fun c14 => ?_)
      · rw [if_pos c14] at hF
        obtain rfl := Option.some.inj hF
        refine rx_sub [0, 1] rfl ?_
        exact KK _ b_p b_w b_e fr
      · rw [if_neg c14] at hF
        refine rx_aload_n C dX2_begin_119 0 rfl ?_
        refine rx_getf C f_X2_24 dX2_begin_120 b_p.1 rfl ?_
        refine rx_iload_n C dX2_begin_123 1 rfl ?_
        refine rx_iload_n C dX2_begin_124 1 rfl ?_
        replace hF := rx_leE hF; obtain ⟨o_p_15, e_o_p_15, hF⟩ := hF
        refine rx_cv (rx_rSN C (w_put b_p.2.2.2.2.2.1 (by decide)) Y_X8_put S_X8_put m_X2_66 ⟨⟨rfl, rfl⟩, ⟨(Nat.le_of_ble_eq_true rfl), (Nat.le_of_ble_eq_true rfl)⟩, ⟨(Nat.le_of_ble_eq_true rfl), (Nat.le_of_ble_eq_true rfl)⟩⟩ rfl rfl (Nat.le_of_ble_eq_true rfl) dX2_begin_125) (fun hh n1 hpp => ?_)
        obtain ⟨c_p, ff, hn⟩ := b_p.wr8 e_o_p_15 hpp
        replace hn := Eq.symm hn
        subst hn
        replace b_p := c_p
        replace b_w := b_w.keep ff ⟨s_w_p, trivial⟩
        replace b_e := b_e.keep ff ⟨s_e_p, trivial⟩
        replace b_st := b_st.keep ff ⟨s_st_p, trivial⟩
        replace fr := rx_frt fr ff (fun a ha => ⟨ha.1, trivial⟩)
        refine rx_aload_n C dX2_begin_128 0 rfl ?_
        refine rx_getf C f_X2_27 dX2_begin_129 b_p.1 rfl ?_
        refine rx_iload_n C dX2_begin_132 1 rfl ?_
        refine rx_iconst C dX2_begin_133 (0 : Int32) (by decide) ?_
        replace hF := rx_leE hF; obtain ⟨o_p_16, e_o_p_16, hF⟩ := hF
        refine rx_cv (rx_rSN C (w_put b_p.2.2.2.2.2.2.1 (by decide)) Y_X8_put S_X8_put m_X2_66 ⟨⟨rfl, rfl⟩, ⟨(Nat.le_of_ble_eq_true rfl), (Nat.le_of_ble_eq_true rfl)⟩, ⟨(Nat.le_of_ble_eq_true rfl), (Nat.le_of_ble_eq_true rfl)⟩⟩ rfl rfl (Nat.le_of_ble_eq_true rfl) dX2_begin_134) (fun hh n1 hpp => ?_)
        obtain ⟨c_p, ff, hn⟩ := b_p.wr9 e_o_p_16 hpp
        replace hn := Eq.symm hn
        subst hn
        replace b_p := c_p
        replace b_w := b_w.keep ff ⟨s_w_p, trivial⟩
        replace b_e := b_e.keep ff ⟨s_e_p, trivial⟩
        replace b_st := b_st.keep ff ⟨s_st_p, trivial⟩
        replace fr := rx_frt fr ff (fun a ha => ⟨ha.1, trivial⟩)
        refine rx_aload_n C dX2_begin_137 0 rfl ?_
        refine rx_getf C f_X2_30 dX2_begin_138 b_p.1 rfl ?_
        refine rx_iload_n C dX2_begin_141 1 rfl ?_
        refine rx_aload_n C dX2_begin_142 0 rfl ?_
        refine rx_getf C f_X2_49 dX2_begin_143 b_p.1 rfl ?_
        refine rx_iload_n C dX2_begin_146 1 rfl ?_
        replace hF := rx_biE hF; obtain ⟨y17, e_y17, hF⟩ := hF
        refine rx_ci (rx_rVN C (w_X5_hasKing e_y17 b_st) Y_X5_hasKing V_X5_hasKing m_X2_80 (Or.inl ⟨_, _, _, _, b_st.1, rfl⟩) ⟨⟨rfl, rfl⟩, ⟨(Nat.le_of_ble_eq_true rfl), (Nat.le_of_ble_eq_true rfl)⟩, ⟨(Nat.le_of_ble_eq_true rfl), (Nat.le_of_ble_eq_true rfl)⟩⟩ rfl rfl (Nat.le_of_ble_eq_true rfl) dX2_begin_147) (fun r hh n1 hpp => ?_)
        obtain ⟨rfl, bo_y17, hu⟩ := hpp
        cases hu
        refine rx_if_eq C dX2_begin_150 157 (by decide) (fun c18 => ?_) (fun c18 => ?_)
        · rw [if_pos c18] at hF
          refine rx_iconst C dX2_begin_157 (-1 : Int32) (by decide) ?_
          replace hF := rx_leE hF; obtain ⟨o_p_19, e_o_p_19, hF⟩ := hF
          refine rx_cv (rx_rSN C (w_put b_p.2.2.2.2.2.2.2.1 (by decide)) Y_X8_put S_X8_put m_X2_66 ⟨⟨rfl, rfl⟩, ⟨(Nat.le_of_ble_eq_true rfl), (Nat.le_of_ble_eq_true rfl)⟩, ⟨(Nat.le_of_ble_eq_true rfl), (Nat.le_of_ble_eq_true rfl)⟩⟩ rfl rfl (Nat.le_of_ble_eq_true rfl) dX2_begin_158) (fun hh n1 hpp => ?_)
          obtain ⟨c_p, ff, hn⟩ := b_p.wr10 e_o_p_19 hpp
          replace hn := Eq.symm hn
          subst hn
          replace b_p := c_p
          replace b_w := b_w.keep ff ⟨s_w_p, trivial⟩
          replace b_e := b_e.keep ff ⟨s_e_p, trivial⟩
          replace b_st := b_st.keep ff ⟨s_st_p, trivial⟩
          replace fr := rx_frt fr ff (fun a ha => ⟨ha.1, trivial⟩)
          refine rx_aload_n C dX2_begin_161 0 rfl ?_
          refine rx_getf C f_X2_36 dX2_begin_162 b_p.1 rfl ?_
          refine rx_iload_n C dX2_begin_165 1 rfl ?_
          refine rx_iconst C dX2_begin_166 (0 : Int32) (by decide) ?_
          replace hF := rx_leE hF; obtain ⟨o_p_20, e_o_p_20, hF⟩ := hF
          refine rx_cv (rx_rSN C (w_put b_p.2.2.2.2.2.2.2.2.2 (by decide)) Y_X8_put S_X8_put m_X2_66 ⟨⟨rfl, rfl⟩, ⟨(Nat.le_of_ble_eq_true rfl), (Nat.le_of_ble_eq_true rfl)⟩, ⟨(Nat.le_of_ble_eq_true rfl), (Nat.le_of_ble_eq_true rfl)⟩⟩ rfl rfl (Nat.le_of_ble_eq_true rfl) dX2_begin_167) (fun hh n1 hpp => ?_)
          obtain ⟨c_p, ff, hn⟩ := b_p.wr12 e_o_p_20 hpp
          replace hn := Eq.symm hn
          subst hn
          replace b_p := c_p
          replace b_w := b_w.keep ff ⟨s_w_p, trivial⟩
          replace b_e := b_e.keep ff ⟨s_e_p, trivial⟩
          replace b_st := b_st.keep ff ⟨s_st_p, trivial⟩
          replace fr := rx_frt fr ff (fun a ha => ⟨ha.1, trivial⟩)
          refine rx_iinc C dX2_begin_170 1 rfl (x1 + 1) rfl (by decide) [(1, .int ((x1 + 1))), (0, .ref q)] rfl ?_
          refine rx_goto C dX2_begin_173 113 (by decide) ?_
          refine rx_sub [1, 0] rfl ?_
          exact ih_loop13 _ _ _ _ _ _ hF b_p b_w b_e b_st fr KK
        · rw [if_neg c18] at hF
          refine rx_iload_n C dX2_begin_153 1 rfl ?_
          refine rx_goto C dX2_begin_154 158 (by decide) ?_
          replace hF := rx_leE hF; obtain ⟨o_p_21, e_o_p_21, hF⟩ := hF
          refine rx_cv (rx_rSN C (w_put b_p.2.2.2.2.2.2.2.1 (by decide)) Y_X8_put S_X8_put m_X2_66 ⟨⟨rfl, rfl⟩, ⟨(Nat.le_of_ble_eq_true rfl), (Nat.le_of_ble_eq_true rfl)⟩, ⟨(Nat.le_of_ble_eq_true rfl), (Nat.le_of_ble_eq_true rfl)⟩⟩ rfl rfl (Nat.le_of_ble_eq_true rfl) dX2_begin_158) (fun hh n1 hpp => ?_)
          obtain ⟨c_p, ff, hn⟩ := b_p.wr10 e_o_p_21 hpp
          replace hn := Eq.symm hn
          subst hn
          replace b_p := c_p
          replace b_w := b_w.keep ff ⟨s_w_p, trivial⟩
          replace b_e := b_e.keep ff ⟨s_e_p, trivial⟩
          replace b_st := b_st.keep ff ⟨s_st_p, trivial⟩
          replace fr := rx_frt fr ff (fun a ha => ⟨ha.1, trivial⟩)
          refine rx_aload_n C dX2_begin_161 0 rfl ?_
          refine rx_getf C f_X2_36 dX2_begin_162 b_p.1 rfl ?_
          refine rx_iload_n C dX2_begin_165 1 rfl ?_
          refine rx_iconst C dX2_begin_166 (0 : Int32) (by decide) ?_
          replace hF := rx_leE hF; obtain ⟨o_p_22, e_o_p_22, hF⟩ := hF
          refine rx_cv (rx_rSN C (w_put b_p.2.2.2.2.2.2.2.2.2 (by decide)) Y_X8_put S_X8_put m_X2_66 ⟨⟨rfl, rfl⟩, ⟨(Nat.le_of_ble_eq_true rfl), (Nat.le_of_ble_eq_true rfl)⟩, ⟨(Nat.le_of_ble_eq_true rfl), (Nat.le_of_ble_eq_true rfl)⟩⟩ rfl rfl (Nat.le_of_ble_eq_true rfl) dX2_begin_167) (fun hh n1 hpp => ?_)
          obtain ⟨c_p, ff, hn⟩ := b_p.wr12 e_o_p_22 hpp
          replace hn := Eq.symm hn
          subst hn
          replace b_p := c_p
          replace b_w := b_w.keep ff ⟨s_w_p, trivial⟩
          replace b_e := b_e.keep ff ⟨s_e_p, trivial⟩
          replace b_st := b_st.keep ff ⟨s_st_p, trivial⟩
          replace fr := rx_frt fr ff (fun a ha => ⟨ha.1, trivial⟩)
          refine rx_iinc C dX2_begin_170 1 rfl (x1 + 1) rfl (by decide) [(1, .int ((x1 + 1))), (0, .ref q)] rfl ?_
          refine rx_goto C dX2_begin_173 113 (by decide) ?_
          refine rx_sub [1, 0] rfl ?_
          exact ih_loop13 _ _ _ _ _ _ hF b_p b_w b_e b_st fr KK
  refine rx_sub [1, 0] rfl ?_
  replace hF := rx_biE hF; obtain ⟨zl23, e_zl23, hF⟩ := hF
  refine loop13 _ zl23 _ _ _ _ _ e_zl23 b_p b_w b_e b_st fr (fun hh b_p b_w b_e fr => ?_)
  have b_st := b0_st.keep fr ⟨s_st_p, s_st_w, s_st_e, trivial⟩
  obtain rfl := Option.some.inj hF
  exact rx_vret C dX2_begin_176 (Nat.le_refl _) (Nat.le_refl _) ⟨rfl, b_p, b_w, b_e, fr⟩
def F_X2_copyFrom (op : ob) (ow : ob) (oe : ob) (op2 : ob) (ow2 : ob) (oe2 : ob) : Option (ob × ob × ob) := rx_le (upd op.1 1 ((op2.1 1)), op.2) fun o_p_1 => rx_le (upd o_p_1.1 2 ((op2.1 2)), o_p_1.2) fun o_p_2 => rx_le (upd o_p_2.1 3 ((op2.1 3)), o_p_2.2) fun o_p_3 => rx_le (o_p_3.1, va_up o_p_3.2 4 (rx_cp 2 2 (op2.2 4) (o_p_3.2 4))) fun o_p_4 => rx_le (o_p_4.1, va_up o_p_4.2 5 (rx_cp 10 10 (op2.2 5) (o_p_4.2 5))) fun o_p_5 => rx_le (o_p_5.1, va_up o_p_5.2 6 (rx_cp 10 10 (op2.2 6) (o_p_5.2 6))) fun o_p_6 => rx_le (o_p_6.1, va_up o_p_6.2 7 (rx_cp 10 10 (op2.2 7) (o_p_6.2 7))) fun o_p_7 => rx_le (o_p_7.1, va_up o_p_7.2 8 (rx_cp 10 10 (op2.2 8) (o_p_7.2 8))) fun o_p_8 => rx_le (o_p_8.1, va_up o_p_8.2 9 (rx_cp 10 10 (op2.2 9) (o_p_8.2 9))) fun o_p_9 => rx_le (o_p_9.1, va_up o_p_9.2 10 (rx_cp 10 10 (op2.2 10) (o_p_9.2 10))) fun o_p_10 => rx_le (o_p_10.1, va_up o_p_10.2 11 (rx_cp 10 10 (op2.2 11) (o_p_10.2 11))) fun o_p_11 => rx_le (o_p_11.1, va_up o_p_11.2 12 (rx_cp 10 10 (op2.2 12) (o_p_11.2 12))) fun o_p_12 => (F_X3_copyFrom ow ow2).bind fun y13 => (F_X3_copyFrom oe oe2).bind fun y14 => some (o_p_12, y13, y14)
set_option maxRecDepth 100000 in
set_option maxHeartbeats 4000000 in
theorem w_X2_copyFrom {q g q2 g2 : Nat} {op : ob} {ow : ob} {oe : ob} {op2 : ob} {ow2 : ob} {oe2 : ob} {y : ob × ob × ob} (hF : F_X2_copyFrom op ow oe op2 ow2 oe2 = some y) (b_p : bP k q g op h) (b_w : bQ k (q + 10) ow h) (b_e : bQ k (q + 13) oe h) (b_p2 : bP k q2 g2 op2 h) (b_w2 : bQ k (q2 + 10) ow2 h) (b_e2 : bQ k (q2 + 13) oe2 h) (hd0 : q + 16 ≤ q2 ∨ q2 + 16 ≤ q) : Met l yX2_copyFrom (rx_ws yX2_copyFrom cX2_copyFrom 2 none) (rx_rm 3 82) (va_Pc [.ref q, .ref q2] (rx_G G k h n)) (va_Qv (fun u => u.2 = n ∧ bP k q g y.1 u.1 ∧ bQ k (q + 10) y.2.1 u.1 ∧ bQ k (q + 13) y.2.2 u.1 ∧ rx_fr [(q, 10), (q + 10, 3), (q + 13, 3)] h u.1) (rx_B G k) (rx_A k)) 0 0 (rx_A k) := by
  have s_w_p : q + 10 + 3 ≤ q ∨ q + 10 ≤ q + 10 := by omega
  have s_e_p : q + 13 + 3 ≤ q ∨ q + 10 ≤ q + 13 := by omega
  have s_p2_p : q2 + 10 ≤ q ∨ q + 10 ≤ q2 := by omega
  have s_w2_p : q2 + 10 + 3 ≤ q ∨ q + 10 ≤ q2 + 10 := by omega
  have s_e2_p : q2 + 13 + 3 ≤ q ∨ q + 10 ≤ q2 + 13 := by omega
  have s_p_w : q + 10 ≤ q + 10 ∨ q + 10 + 3 ≤ q := by omega
  have s_e_w : q + 13 + 3 ≤ q + 10 ∨ q + 10 + 3 ≤ q + 13 := by omega
  have s_p2_w : q2 + 10 ≤ q + 10 ∨ q + 10 + 3 ≤ q2 := by omega
  have s_w2_w : q2 + 10 + 3 ≤ q + 10 ∨ q + 10 + 3 ≤ q2 + 10 := by omega
  have s_e2_w : q2 + 13 + 3 ≤ q + 10 ∨ q + 10 + 3 ≤ q2 + 13 := by omega
  have s_p_e : q + 10 ≤ q + 13 ∨ q + 13 + 3 ≤ q := by omega
  have s_w_e : q + 10 + 3 ≤ q + 13 ∨ q + 13 + 3 ≤ q + 10 := by omega
  have s_p2_e : q2 + 10 ≤ q + 13 ∨ q + 13 + 3 ≤ q2 := by omega
  have s_w2_e : q2 + 10 + 3 ≤ q + 13 ∨ q + 13 + 3 ≤ q2 + 10 := by omega
  have s_e2_e : q2 + 13 + 3 ≤ q + 13 ∨ q + 13 + 3 ≤ q2 + 13 := by omega
  refine rx_start [(0, .ref q), (1, .ref q2)] rfl (Nat.le_of_ble_eq_true rfl) (by decide) rfl (fun P9 E9 S9 M9 A9 B9 me9 c9 C hname => ?_)
  unfold F_X2_copyFrom at hF
  have fr : rx_fr [(q, 10), (q + 10, 3), (q + 13, 3)] h h := rx_fr0
  refine rx_aload_n C dX2_copyFrom_0 0 rfl ?_
  refine rx_aload_n C dX2_copyFrom_1 1 rfl ?_
  refine rx_getf C f_X2_53 dX2_copyFrom_2 b_p2.1 rfl ?_
  replace hF := rx_leE hF; obtain ⟨o_p_1, e_o_p_1, hF⟩ := hF
  refine rx_pP1 C f_X2_53 dX2_copyFrom_5 b_p e_o_p_1 (fun hh c_p ff => ?_)
  replace b_p := c_p
  replace b_w := b_w.keep ff ⟨s_w_p, trivial⟩
  replace b_e := b_e.keep ff ⟨s_e_p, trivial⟩
  replace b_p2 := b_p2.keep ff ⟨s_p2_p, trivial⟩
  replace b_w2 := b_w2.keep ff ⟨s_w2_p, trivial⟩
  replace b_e2 := b_e2.keep ff ⟨s_e2_p, trivial⟩
  replace fr := rx_frt fr ff (fun a ha => ⟨ha.1, trivial⟩)
  refine rx_aload_n C dX2_copyFrom_8 0 rfl ?_
  refine rx_aload_n C dX2_copyFrom_9 1 rfl ?_
  refine rx_getf C f_X2_62 dX2_copyFrom_10 b_p2.1 rfl ?_
  replace hF := rx_leE hF; obtain ⟨o_p_2, e_o_p_2, hF⟩ := hF
  refine rx_pP2 C f_X2_62 dX2_copyFrom_13 b_p e_o_p_2 (fun hh c_p ff => ?_)
  replace b_p := c_p
  replace b_w := b_w.keep ff ⟨s_w_p, trivial⟩
  replace b_e := b_e.keep ff ⟨s_e_p, trivial⟩
  replace b_p2 := b_p2.keep ff ⟨s_p2_p, trivial⟩
  replace b_w2 := b_w2.keep ff ⟨s_w2_p, trivial⟩
  replace b_e2 := b_e2.keep ff ⟨s_e2_p, trivial⟩
  replace fr := rx_frt fr ff (fun a ha => ⟨ha.1, trivial⟩)
  refine rx_aload_n C dX2_copyFrom_16 0 rfl ?_
  refine rx_aload_n C dX2_copyFrom_17 1 rfl ?_
  refine rx_getf C f_X2_63 dX2_copyFrom_18 b_p2.1 rfl ?_
  replace hF := rx_leE hF; obtain ⟨o_p_3, e_o_p_3, hF⟩ := hF
  refine rx_pP3 C f_X2_63 dX2_copyFrom_21 b_p e_o_p_3 (fun hh c_p ff => ?_)
  replace b_p := c_p
  replace b_w := b_w.keep ff ⟨s_w_p, trivial⟩
  replace b_e := b_e.keep ff ⟨s_e_p, trivial⟩
  replace b_p2 := b_p2.keep ff ⟨s_p2_p, trivial⟩
  replace b_w2 := b_w2.keep ff ⟨s_w2_p, trivial⟩
  replace b_e2 := b_e2.keep ff ⟨s_e2_p, trivial⟩
  replace fr := rx_frt fr ff (fun a ha => ⟨ha.1, trivial⟩)
  refine rx_aload_n C dX2_copyFrom_24 1 rfl ?_
  refine rx_getf C f_X2_9 dX2_copyFrom_25 b_p2.1 rfl ?_
  refine rx_aload_n C dX2_copyFrom_28 0 rfl ?_
  refine rx_getf C f_X2_9 dX2_copyFrom_29 b_p.1 rfl ?_
  replace hF := rx_leE hF; obtain ⟨o_p_4, e_o_p_4, hF⟩ := hF
  refine rx_cv (rx_rSN C (w_copyRow b_p2.2.1 b_p.2.1 (by decide) (by decide)) Y_X8_copyRow S_X8_copyRow m_X2_74 ⟨⟨rfl, rfl⟩, ⟨(Nat.le_of_ble_eq_true rfl), (Nat.le_of_ble_eq_true rfl)⟩, ⟨(Nat.le_of_ble_eq_true rfl), (Nat.le_of_ble_eq_true rfl)⟩⟩ rfl rfl (Nat.le_of_ble_eq_true rfl) dX2_copyFrom_32) (fun hh n1 hpp => ?_)
  obtain ⟨c_p, ff, hn⟩ := b_p.wr4 e_o_p_4 hpp
  replace hn := Eq.symm hn
  subst hn
  replace b_p := c_p
  replace b_w := b_w.keep ff ⟨s_w_p, trivial⟩
  replace b_e := b_e.keep ff ⟨s_e_p, trivial⟩
  replace b_p2 := b_p2.keep ff ⟨s_p2_p, trivial⟩
  replace b_w2 := b_w2.keep ff ⟨s_w2_p, trivial⟩
  replace b_e2 := b_e2.keep ff ⟨s_e2_p, trivial⟩
  replace fr := rx_frt fr ff (fun a ha => ⟨ha.1, trivial⟩)
  refine rx_aload_n C dX2_copyFrom_35 1 rfl ?_
  refine rx_getf C f_X2_15 dX2_copyFrom_36 b_p2.1 rfl ?_
  refine rx_aload_n C dX2_copyFrom_39 0 rfl ?_
  refine rx_getf C f_X2_15 dX2_copyFrom_40 b_p.1 rfl ?_
  replace hF := rx_leE hF; obtain ⟨o_p_5, e_o_p_5, hF⟩ := hF
  refine rx_cv (rx_rSN C (w_copyRow b_p2.2.2.1 b_p.2.2.1 (by decide) (by decide)) Y_X8_copyRow S_X8_copyRow m_X2_74 ⟨⟨rfl, rfl⟩, ⟨(Nat.le_of_ble_eq_true rfl), (Nat.le_of_ble_eq_true rfl)⟩, ⟨(Nat.le_of_ble_eq_true rfl), (Nat.le_of_ble_eq_true rfl)⟩⟩ rfl rfl (Nat.le_of_ble_eq_true rfl) dX2_copyFrom_43) (fun hh n1 hpp => ?_)
  obtain ⟨c_p, ff, hn⟩ := b_p.wr5 e_o_p_5 hpp
  replace hn := Eq.symm hn
  subst hn
  replace b_p := c_p
  replace b_w := b_w.keep ff ⟨s_w_p, trivial⟩
  replace b_e := b_e.keep ff ⟨s_e_p, trivial⟩
  replace b_p2 := b_p2.keep ff ⟨s_p2_p, trivial⟩
  replace b_w2 := b_w2.keep ff ⟨s_w2_p, trivial⟩
  replace b_e2 := b_e2.keep ff ⟨s_e2_p, trivial⟩
  replace fr := rx_frt fr ff (fun a ha => ⟨ha.1, trivial⟩)
  refine rx_aload_n C dX2_copyFrom_46 1 rfl ?_
  refine rx_getf C f_X2_18 dX2_copyFrom_47 b_p2.1 rfl ?_
  refine rx_aload_n C dX2_copyFrom_50 0 rfl ?_
  refine rx_getf C f_X2_18 dX2_copyFrom_51 b_p.1 rfl ?_
  replace hF := rx_leE hF; obtain ⟨o_p_6, e_o_p_6, hF⟩ := hF
  refine rx_cv (rx_rSN C (w_copyRow b_p2.2.2.2.1 b_p.2.2.2.1 (by decide) (by decide)) Y_X8_copyRow S_X8_copyRow m_X2_74 ⟨⟨rfl, rfl⟩, ⟨(Nat.le_of_ble_eq_true rfl), (Nat.le_of_ble_eq_true rfl)⟩, ⟨(Nat.le_of_ble_eq_true rfl), (Nat.le_of_ble_eq_true rfl)⟩⟩ rfl rfl (Nat.le_of_ble_eq_true rfl) dX2_copyFrom_54) (fun hh n1 hpp => ?_)
  obtain ⟨c_p, ff, hn⟩ := b_p.wr6 e_o_p_6 hpp
  replace hn := Eq.symm hn
  subst hn
  replace b_p := c_p
  replace b_w := b_w.keep ff ⟨s_w_p, trivial⟩
  replace b_e := b_e.keep ff ⟨s_e_p, trivial⟩
  replace b_p2 := b_p2.keep ff ⟨s_p2_p, trivial⟩
  replace b_w2 := b_w2.keep ff ⟨s_w2_p, trivial⟩
  replace b_e2 := b_e2.keep ff ⟨s_e2_p, trivial⟩
  replace fr := rx_frt fr ff (fun a ha => ⟨ha.1, trivial⟩)
  refine rx_aload_n C dX2_copyFrom_57 1 rfl ?_
  refine rx_getf C f_X2_21 dX2_copyFrom_58 b_p2.1 rfl ?_
  refine rx_aload_n C dX2_copyFrom_61 0 rfl ?_
  refine rx_getf C f_X2_21 dX2_copyFrom_62 b_p.1 rfl ?_
  replace hF := rx_leE hF; obtain ⟨o_p_7, e_o_p_7, hF⟩ := hF
  refine rx_cv (rx_rSN C (w_copyRow b_p2.2.2.2.2.1 b_p.2.2.2.2.1 (by decide) (by decide)) Y_X8_copyRow S_X8_copyRow m_X2_74 ⟨⟨rfl, rfl⟩, ⟨(Nat.le_of_ble_eq_true rfl), (Nat.le_of_ble_eq_true rfl)⟩, ⟨(Nat.le_of_ble_eq_true rfl), (Nat.le_of_ble_eq_true rfl)⟩⟩ rfl rfl (Nat.le_of_ble_eq_true rfl) dX2_copyFrom_65) (fun hh n1 hpp => ?_)
  obtain ⟨c_p, ff, hn⟩ := b_p.wr7 e_o_p_7 hpp
  replace hn := Eq.symm hn
  subst hn
  replace b_p := c_p
  replace b_w := b_w.keep ff ⟨s_w_p, trivial⟩
  replace b_e := b_e.keep ff ⟨s_e_p, trivial⟩
  replace b_p2 := b_p2.keep ff ⟨s_p2_p, trivial⟩
  replace b_w2 := b_w2.keep ff ⟨s_w2_p, trivial⟩
  replace b_e2 := b_e2.keep ff ⟨s_e2_p, trivial⟩
  replace fr := rx_frt fr ff (fun a ha => ⟨ha.1, trivial⟩)
  refine rx_aload_n C dX2_copyFrom_68 1 rfl ?_
  refine rx_getf C f_X2_24 dX2_copyFrom_69 b_p2.1 rfl ?_
  refine rx_aload_n C dX2_copyFrom_72 0 rfl ?_
  refine rx_getf C f_X2_24 dX2_copyFrom_73 b_p.1 rfl ?_
  replace hF := rx_leE hF; obtain ⟨o_p_8, e_o_p_8, hF⟩ := hF
  refine rx_cv (rx_rSN C (w_copyRow b_p2.2.2.2.2.2.1 b_p.2.2.2.2.2.1 (by decide) (by decide)) Y_X8_copyRow S_X8_copyRow m_X2_74 ⟨⟨rfl, rfl⟩, ⟨(Nat.le_of_ble_eq_true rfl), (Nat.le_of_ble_eq_true rfl)⟩, ⟨(Nat.le_of_ble_eq_true rfl), (Nat.le_of_ble_eq_true rfl)⟩⟩ rfl rfl (Nat.le_of_ble_eq_true rfl) dX2_copyFrom_76) (fun hh n1 hpp => ?_)
  obtain ⟨c_p, ff, hn⟩ := b_p.wr8 e_o_p_8 hpp
  replace hn := Eq.symm hn
  subst hn
  replace b_p := c_p
  replace b_w := b_w.keep ff ⟨s_w_p, trivial⟩
  replace b_e := b_e.keep ff ⟨s_e_p, trivial⟩
  replace b_p2 := b_p2.keep ff ⟨s_p2_p, trivial⟩
  replace b_w2 := b_w2.keep ff ⟨s_w2_p, trivial⟩
  replace b_e2 := b_e2.keep ff ⟨s_e2_p, trivial⟩
  replace fr := rx_frt fr ff (fun a ha => ⟨ha.1, trivial⟩)
  refine rx_aload_n C dX2_copyFrom_79 1 rfl ?_
  refine rx_getf C f_X2_27 dX2_copyFrom_80 b_p2.1 rfl ?_
  refine rx_aload_n C dX2_copyFrom_83 0 rfl ?_
  refine rx_getf C f_X2_27 dX2_copyFrom_84 b_p.1 rfl ?_
  replace hF := rx_leE hF; obtain ⟨o_p_9, e_o_p_9, hF⟩ := hF
  refine rx_cv (rx_rSN C (w_copyRow b_p2.2.2.2.2.2.2.1 b_p.2.2.2.2.2.2.1 (by decide) (by decide)) Y_X8_copyRow S_X8_copyRow m_X2_74 ⟨⟨rfl, rfl⟩, ⟨(Nat.le_of_ble_eq_true rfl), (Nat.le_of_ble_eq_true rfl)⟩, ⟨(Nat.le_of_ble_eq_true rfl), (Nat.le_of_ble_eq_true rfl)⟩⟩ rfl rfl (Nat.le_of_ble_eq_true rfl) dX2_copyFrom_87) (fun hh n1 hpp => ?_)
  obtain ⟨c_p, ff, hn⟩ := b_p.wr9 e_o_p_9 hpp
  replace hn := Eq.symm hn
  subst hn
  replace b_p := c_p
  replace b_w := b_w.keep ff ⟨s_w_p, trivial⟩
  replace b_e := b_e.keep ff ⟨s_e_p, trivial⟩
  replace b_p2 := b_p2.keep ff ⟨s_p2_p, trivial⟩
  replace b_w2 := b_w2.keep ff ⟨s_w2_p, trivial⟩
  replace b_e2 := b_e2.keep ff ⟨s_e2_p, trivial⟩
  replace fr := rx_frt fr ff (fun a ha => ⟨ha.1, trivial⟩)
  refine rx_aload_n C dX2_copyFrom_90 1 rfl ?_
  refine rx_getf C f_X2_30 dX2_copyFrom_91 b_p2.1 rfl ?_
  refine rx_aload_n C dX2_copyFrom_94 0 rfl ?_
  refine rx_getf C f_X2_30 dX2_copyFrom_95 b_p.1 rfl ?_
  replace hF := rx_leE hF; obtain ⟨o_p_10, e_o_p_10, hF⟩ := hF
  refine rx_cv (rx_rSN C (w_copyRow b_p2.2.2.2.2.2.2.2.1 b_p.2.2.2.2.2.2.2.1 (by decide) (by decide)) Y_X8_copyRow S_X8_copyRow m_X2_74 ⟨⟨rfl, rfl⟩, ⟨(Nat.le_of_ble_eq_true rfl), (Nat.le_of_ble_eq_true rfl)⟩, ⟨(Nat.le_of_ble_eq_true rfl), (Nat.le_of_ble_eq_true rfl)⟩⟩ rfl rfl (Nat.le_of_ble_eq_true rfl) dX2_copyFrom_98) (fun hh n1 hpp => ?_)
  obtain ⟨c_p, ff, hn⟩ := b_p.wr10 e_o_p_10 hpp
  replace hn := Eq.symm hn
  subst hn
  replace b_p := c_p
  replace b_w := b_w.keep ff ⟨s_w_p, trivial⟩
  replace b_e := b_e.keep ff ⟨s_e_p, trivial⟩
  replace b_p2 := b_p2.keep ff ⟨s_p2_p, trivial⟩
  replace b_w2 := b_w2.keep ff ⟨s_w2_p, trivial⟩
  replace b_e2 := b_e2.keep ff ⟨s_e2_p, trivial⟩
  replace fr := rx_frt fr ff (fun a ha => ⟨ha.1, trivial⟩)
  refine rx_aload_n C dX2_copyFrom_101 1 rfl ?_
  refine rx_getf C f_X2_33 dX2_copyFrom_102 b_p2.1 rfl ?_
  refine rx_aload_n C dX2_copyFrom_105 0 rfl ?_
  refine rx_getf C f_X2_33 dX2_copyFrom_106 b_p.1 rfl ?_
  replace hF := rx_leE hF; obtain ⟨o_p_11, e_o_p_11, hF⟩ := hF
  refine rx_cv (rx_rSN C (w_copyRow b_p2.2.2.2.2.2.2.2.2.1 b_p.2.2.2.2.2.2.2.2.1 (by decide) (by decide)) Y_X8_copyRow S_X8_copyRow m_X2_74 ⟨⟨rfl, rfl⟩, ⟨(Nat.le_of_ble_eq_true rfl), (Nat.le_of_ble_eq_true rfl)⟩, ⟨(Nat.le_of_ble_eq_true rfl), (Nat.le_of_ble_eq_true rfl)⟩⟩ rfl rfl (Nat.le_of_ble_eq_true rfl) dX2_copyFrom_109) (fun hh n1 hpp => ?_)
  obtain ⟨c_p, ff, hn⟩ := b_p.wr11 e_o_p_11 hpp
  replace hn := Eq.symm hn
  subst hn
  replace b_p := c_p
  replace b_w := b_w.keep ff ⟨s_w_p, trivial⟩
  replace b_e := b_e.keep ff ⟨s_e_p, trivial⟩
  replace b_p2 := b_p2.keep ff ⟨s_p2_p, trivial⟩
  replace b_w2 := b_w2.keep ff ⟨s_w2_p, trivial⟩
  replace b_e2 := b_e2.keep ff ⟨s_e2_p, trivial⟩
  replace fr := rx_frt fr ff (fun a ha => ⟨ha.1, trivial⟩)
  refine rx_aload_n C dX2_copyFrom_112 1 rfl ?_
  refine rx_getf C f_X2_36 dX2_copyFrom_113 b_p2.1 rfl ?_
  refine rx_aload_n C dX2_copyFrom_116 0 rfl ?_
  refine rx_getf C f_X2_36 dX2_copyFrom_117 b_p.1 rfl ?_
  replace hF := rx_leE hF; obtain ⟨o_p_12, e_o_p_12, hF⟩ := hF
  refine rx_cv (rx_rSN C (w_copyRow b_p2.2.2.2.2.2.2.2.2.2 b_p.2.2.2.2.2.2.2.2.2 (by decide) (by decide)) Y_X8_copyRow S_X8_copyRow m_X2_74 ⟨⟨rfl, rfl⟩, ⟨(Nat.le_of_ble_eq_true rfl), (Nat.le_of_ble_eq_true rfl)⟩, ⟨(Nat.le_of_ble_eq_true rfl), (Nat.le_of_ble_eq_true rfl)⟩⟩ rfl rfl (Nat.le_of_ble_eq_true rfl) dX2_copyFrom_120) (fun hh n1 hpp => ?_)
  obtain ⟨c_p, ff, hn⟩ := b_p.wr12 e_o_p_12 hpp
  replace hn := Eq.symm hn
  subst hn
  replace b_p := c_p
  replace b_w := b_w.keep ff ⟨s_w_p, trivial⟩
  replace b_e := b_e.keep ff ⟨s_e_p, trivial⟩
  replace b_p2 := b_p2.keep ff ⟨s_p2_p, trivial⟩
  replace b_w2 := b_w2.keep ff ⟨s_w2_p, trivial⟩
  replace b_e2 := b_e2.keep ff ⟨s_e2_p, trivial⟩
  replace fr := rx_frt fr ff (fun a ha => ⟨ha.1, trivial⟩)
  refine rx_aload_n C dX2_copyFrom_123 0 rfl ?_
  refine rx_getf C f_X2_42 dX2_copyFrom_124 b_p.1 rfl ?_
  refine rx_aload_n C dX2_copyFrom_127 1 rfl ?_
  refine rx_getf C f_X2_42 dX2_copyFrom_128 b_p2.1 rfl ?_
  replace hF := rx_biE hF; obtain ⟨y13, e_y13, hF⟩ := hF
  refine rx_cv (rx_rVN C (w_X3_copyFrom e_y13 b_w b_w2 (by omega)) Y_X3_copyFrom V_X3_copyFrom m_X2_84 (Or.inl ⟨_, _, _, _, b_w.1, rfl⟩) ⟨⟨rfl, rfl⟩, ⟨(Nat.le_of_ble_eq_true rfl), (Nat.le_of_ble_eq_true rfl)⟩, ⟨(Nat.le_of_ble_eq_true rfl), (Nat.le_of_ble_eq_true rfl)⟩⟩ rfl rfl (Nat.le_of_ble_eq_true rfl) dX2_copyFrom_131) (fun hh n1 hpp => ?_)
  obtain ⟨hn, c_w, ff⟩ := hpp
  replace hn : n = n1 := Eq.symm hn
  subst hn
  replace b_w : bQ k (q + 10) y13 hh := c_w
  clear c_w
  replace ff : rx_fr [(q + 10, 3)] _ hh := ff
  replace b_p := b_p.keep ff ⟨s_p_w, trivial⟩
  replace b_e := b_e.keep ff ⟨s_e_w, trivial⟩
  replace b_p2 := b_p2.keep ff ⟨s_p2_w, trivial⟩
  replace b_w2 := b_w2.keep ff ⟨s_w2_w, trivial⟩
  replace b_e2 := b_e2.keep ff ⟨s_e2_w, trivial⟩
  replace fr := rx_frt fr ff (fun a ha => ⟨ha.2.1, trivial⟩)
  refine rx_aload_n C dX2_copyFrom_134 0 rfl ?_
  refine rx_getf C f_X2_46 dX2_copyFrom_135 b_p.1 rfl ?_
  refine rx_aload_n C dX2_copyFrom_138 1 rfl ?_
  refine rx_getf C f_X2_46 dX2_copyFrom_139 b_p2.1 rfl ?_
  replace hF := rx_biE hF; obtain ⟨y14, e_y14, hF⟩ := hF
  refine rx_cv (rx_rVN C (w_X3_copyFrom e_y14 b_e b_e2 (by omega)) Y_X3_copyFrom V_X3_copyFrom m_X2_84 (Or.inl ⟨_, _, _, _, b_e.1, rfl⟩) ⟨⟨rfl, rfl⟩, ⟨(Nat.le_of_ble_eq_true rfl), (Nat.le_of_ble_eq_true rfl)⟩, ⟨(Nat.le_of_ble_eq_true rfl), (Nat.le_of_ble_eq_true rfl)⟩⟩ rfl rfl (Nat.le_of_ble_eq_true rfl) dX2_copyFrom_142) (fun hh n1 hpp => ?_)
  obtain ⟨hn, c_e, ff⟩ := hpp
  replace hn : n = n1 := Eq.symm hn
  subst hn
  replace b_e : bQ k (q + 13) y14 hh := c_e
  clear c_e
  replace ff : rx_fr [(q + 13, 3)] _ hh := ff
  replace b_p := b_p.keep ff ⟨s_p_e, trivial⟩
  replace b_w := b_w.keep ff ⟨s_w_e, trivial⟩
  replace b_p2 := b_p2.keep ff ⟨s_p2_e, trivial⟩
  replace b_w2 := b_w2.keep ff ⟨s_w2_e, trivial⟩
  replace b_e2 := b_e2.keep ff ⟨s_e2_e, trivial⟩
  replace fr := rx_frt fr ff (fun a ha => ⟨ha.2.2.1, trivial⟩)
  obtain rfl := Option.some.inj hF
  exact rx_vret C dX2_copyFrom_145 (Nat.le_refl _) (Nat.le_refl _) ⟨rfl, b_p, b_w, b_e, fr⟩
end GEN
