/-! The law from its own two objects on. -/
section LSEG
variable {l : Launch} {G : va_G} {k : Nat → Nat} {h : hp} {n : Nat}
def F_law_seg_36 (k : Nat → Nat) (y3 : Int32) : Nat → ob → ob → ob → ob → ob → ob → ob → ob → hst → Int32 → Option (Int32)
  | 0, _, _, _, _, _, _, _, _, _, _ => none
  | fu + 1, om, oB, ot, od, os, op, ow, oe, oH, x4 => if (19 : Int32) ≤ x4 then (some (1 : Int32)) else ((F_X8_countedRoyalCoins oB os op).bind fun y7 => (F_L_crossed om oB os op).bind fun y8 => (F_L_cell k x4).bind fun y9 => (F_L_acts om oB os op ow oe oH y9).bind fun y10 => (F_L_coins om oB os y10.2.1).bind fun y11 => if y11 = y3 then ((F_X8_coinGap oB os y10.2.1).bind fun y13 => if y13 = (0 : Int32) then ((F_L_isWell om oB os y10.2.1 y10.2.2.1 y10.2.2.2.1).bind fun y15 => if y15 = (0 : Int32) then (some (0 : Int32)) else ((F_X8_countedRoyalCoins oB os y10.2.1).bind fun y17 => if y17 < y7 then (some (0 : Int32)) else ((F_X8_countedRoyalCoins oB os y10.2.1).bind fun y19 => if y19 ≤ y7 then (F_law_seg_36 k y3 fu om oB ot od os y10.2.1 y10.2.2.1 y10.2.2.2.1 y10.2.2.2.2 ((x4 + 1))) else ((F_L_crossed om oB os y10.2.1).bind fun y21 => if y21 = y8 then (some (0 : Int32)) else (F_law_seg_36 k y3 fu om oB ot od os y10.2.1 y10.2.2.1 y10.2.2.2.1 y10.2.2.2.2 ((x4 + 1))))))) else (some (0 : Int32))) else (some (0 : Int32)))
def F_law_seg (k : Nat → Nat) (om : ob) (oB : ob) (ot : ob) (od : ob) (os : ob) (op : ob) (ow : ob) (oe : ob) (oH : hst) : Option (Int32) := (F_L_loads k om oB ot od os op ow oe oH).bind fun y1 => if y1.1 = (0 : Int32) then (some (0 : Int32)) else ((F_L_coins y1.2.1 y1.2.2.1 y1.2.2.2.2.2.1 y1.2.2.2.2.2.2.1).bind fun y3 => F_law_seg_36 k y3 100000 y1.2.1 y1.2.2.1 y1.2.2.2.1 y1.2.2.2.2.1 y1.2.2.2.2.2.1 y1.2.2.2.2.2.2.1 y1.2.2.2.2.2.2.2.1 y1.2.2.2.2.2.2.2.2.1 y1.2.2.2.2.2.2.2.2.2 ((3 : Int32)))
set_option maxRecDepth 100000 in
set_option maxHeartbeats 4000000 in
theorem w_law_seg {P9 : Program} {E9 : Env} {S9 : State} {M9 : MethodId} {A9 : Array Value} {B9 : List Frame} {me9 : Method} {c9 : Code} {Q9 : State → Prop} {ret9 : Option FieldType} {m b : Nat} {om : ob} {oB : ob} {ot : ob} {od : ob} {os : ob} {op : ob} {ow : ob} {oe : ob} {oH : hst} {y : Int32} (hy : y = 1) (hF : F_law_seg k om oB ot od os op ow oe oH = some y) (C : rx_C G k P9 M9 c9 cL_law RL 8 ret9 S9 A9 me9) (b_m : bM k m om h) (b_B : bB k b oB h) (b_t : bT k (b + 1) ot h) (b_d : bS k (b + 3) od h) (b_s : bS k (b + 12) os h) (b_p : bP k (b + 21) (b + 12) op h) (b_w : bQ k (b + 21 + 10) ow h) (b_e : bQ k (b + 21 + 13) oe h) (b_H : bHH k (b + 69) (b + 12) oH h) (hd0 : m + 3 ≤ b ∨ b + 204 ≤ m) (KE : ∀ (hh : hp) (n1 : Nat) (L : List (Nat × Value)), rx_W P9 l E9 room_1 S9 M9 A9 B9 me9 c9 Q9 G k 8 600086 7301442 hh n1 132 L [.int (1 : Int32)]) : rx_W P9 l E9 room_1 S9 M9 A9 B9 me9 c9 Q9 G k 8 600086 7301442 h n 16 [(0, .ref (k 7)), (1, .ref m), (2, .ref b)] [] := by
  have s_m_p : m + 3 ≤ b + 21 ∨ b + 21 + 10 ≤ m := by omega
  have s_m_w : m + 3 ≤ b + 21 + 10 ∨ b + 21 + 10 + 3 ≤ m := by omega
  have s_m_e : m + 3 ≤ b + 21 + 13 ∨ b + 21 + 13 + 3 ≤ m := by omega
  have s_m_H : m + 3 ≤ b + 69 ∨ b + 69 + 130 ≤ m := by omega
  have s_B_p : b + 1 ≤ b + 21 ∨ b + 21 + 10 ≤ b := by omega
  have s_B_w : b + 1 ≤ b + 21 + 10 ∨ b + 21 + 10 + 3 ≤ b := by omega
  have s_B_e : b + 1 ≤ b + 21 + 13 ∨ b + 21 + 13 + 3 ≤ b := by omega
  have s_B_H : b + 1 ≤ b + 69 ∨ b + 69 + 130 ≤ b := by omega
  have s_t_p : b + 1 + 2 ≤ b + 21 ∨ b + 21 + 10 ≤ b + 1 := by omega
  have s_t_w : b + 1 + 2 ≤ b + 21 + 10 ∨ b + 21 + 10 + 3 ≤ b + 1 := by omega
  have s_t_e : b + 1 + 2 ≤ b + 21 + 13 ∨ b + 21 + 13 + 3 ≤ b + 1 := by omega
  have s_t_H : b + 1 + 2 ≤ b + 69 ∨ b + 69 + 130 ≤ b + 1 := by omega
  have s_d_p : b + 3 + 9 ≤ b + 21 ∨ b + 21 + 10 ≤ b + 3 := by omega
  have s_d_w : b + 3 + 9 ≤ b + 21 + 10 ∨ b + 21 + 10 + 3 ≤ b + 3 := by omega
  have s_d_e : b + 3 + 9 ≤ b + 21 + 13 ∨ b + 21 + 13 + 3 ≤ b + 3 := by omega
  have s_d_H : b + 3 + 9 ≤ b + 69 ∨ b + 69 + 130 ≤ b + 3 := by omega
  have s_s_p : b + 12 + 9 ≤ b + 21 ∨ b + 21 + 10 ≤ b + 12 := by omega
  have s_s_w : b + 12 + 9 ≤ b + 21 + 10 ∨ b + 21 + 10 + 3 ≤ b + 12 := by omega
  have s_s_e : b + 12 + 9 ≤ b + 21 + 13 ∨ b + 21 + 13 + 3 ≤ b + 12 := by omega
  have s_s_H : b + 12 + 9 ≤ b + 69 ∨ b + 69 + 130 ≤ b + 12 := by omega
  unfold F_law_seg at hF
  have fr : rx_fr [(m, 3), (b, 1), (b + 1, 2), (b + 3, 9), (b + 12, 9), (b + 21, 10), (b + 21 + 10, 3), (b + 21 + 13, 3), (b + 69, 130)] h h := rx_fr0
  refine rx_aload_n C dL_law_16 1 rfl ?_
  refine rx_aload_n C dL_law_17 2 rfl ?_
  refine rx_aload_n C dL_law_18 0 rfl ?_
  replace hF := rx_biE hF; obtain ⟨y1, e_y1, hF⟩ := hF
  refine rx_ci (rx_rV C (w_L_loads e_y1 b_m b_B b_t b_d b_s b_p b_w b_e b_H (by omega)) Y_L_loads V_L_loads m_L_150 (Or.inl ⟨_, _, _, _, b_m.1, rfl⟩) ⟨⟨rfl, rfl⟩, ⟨(Nat.le_of_ble_eq_true rfl), (Nat.le_of_ble_eq_true rfl)⟩, ⟨(Nat.le_of_ble_eq_true rfl), (Nat.le_of_ble_eq_true rfl)⟩⟩ rfl rfl (Nat.le_of_ble_eq_true rfl) dL_law_19) (fun r hh n1 hpp => ?_)
  obtain ⟨rfl, bo_y1, hn, c_m, c_B, c_t, c_d, c_s, c_p, c_w, c_e, c_H, ff⟩ := hpp
  replace hn : n = n1 := Eq.symm hn
  subst hn
  replace b_m : bM k m y1.2.1 hh := c_m
  clear c_m
  replace b_B : bB k b y1.2.2.1 hh := c_B
  clear c_B
  replace b_t : bT k (b + 1) y1.2.2.2.1 hh := c_t
  clear c_t
  replace b_d : bS k (b + 3) y1.2.2.2.2.1 hh := c_d
  clear c_d
  replace b_s : bS k (b + 12) y1.2.2.2.2.2.1 hh := c_s
  clear c_s
  replace b_p : bP k (b + 21) (b + 12) y1.2.2.2.2.2.2.1 hh := c_p
  clear c_p
  replace b_w : bQ k (b + 21 + 10) y1.2.2.2.2.2.2.2.1 hh := c_w
  clear c_w
  replace b_e : bQ k (b + 21 + 13) y1.2.2.2.2.2.2.2.2.1 hh := c_e
  clear c_e
  replace b_H : bHH k (b + 69) (b + 12) y1.2.2.2.2.2.2.2.2.2 hh := c_H
  clear c_H
  replace ff : rx_fr [(m, 3), (b, 1), (b + 1, 2), (b + 3, 9), (b + 12, 9), (b + 21, 10), (b + 21 + 10, 3), (b + 21 + 13, 3), (b + 69, 130)] _ hh := ff
  replace fr := rx_frt fr ff (fun a ha => ⟨ha.1, ha.2.1, ha.2.2.1, ha.2.2.2.1, ha.2.2.2.2.1, ha.2.2.2.2.2.1, ha.2.2.2.2.2.2.1, ha.2.2.2.2.2.2.2.1, ha.2.2.2.2.2.2.2.2.1, trivial⟩)
  refine rx_if_ne C dL_law_22 27 (by decide) (fun c2 => ?_) (fun c2 => ?_)
  · rw [if_neg c2] at hF
    refine rx_aload_n C dL_law_27 1 rfl ?_
    refine rx_aload_n C dL_law_28 2 rfl ?_
    replace hF := rx_biE hF; obtain ⟨y3, e_y3, hF⟩ := hF
    refine rx_ci (rx_rV C (w_L_coins e_y3 b_m b_B b_s b_p (by omega)) Y_L_coins V_L_coins m_L_154 (Or.inl ⟨_, _, _, _, b_m.1, rfl⟩) ⟨⟨rfl, rfl⟩, ⟨(Nat.le_of_ble_eq_true rfl), (Nat.le_of_ble_eq_true rfl)⟩, ⟨(Nat.le_of_ble_eq_true rfl), (Nat.le_of_ble_eq_true rfl)⟩⟩ rfl rfl (Nat.le_of_ble_eq_true rfl) dL_law_29) (fun r hh n1 hpp => ?_)
    obtain ⟨rfl, hu⟩ := hpp
    cases hu
    refine rx_istore_n C dL_law_32 (by decide) [(3, .int y3), (0, .ref (k 7)), (1, .ref m), (2, .ref b)] rfl ?_
    refine rx_iconst C dL_law_33 (3 : Int32) (by decide) ?_
    refine rx_istore C dL_law_34 (by decide) [(4, .int ((3 : Int32))), (3, .int y3), (0, .ref (k 7)), (1, .ref m), (2, .ref b)] rfl ?_
    have loop5 : ∀ (fu : Nat) (om : ob) (oB : ob) (ot : ob) (od : ob) (os : ob) (op : ob) (ow : ob) (oe : ob) (oH : hst) (x4 : Int32) (hh : hp), F_law_seg_36 k y3 fu om oB ot od os op ow oe oH x4 = some y → bM k m om hh → bB k b oB hh → bT k (b + 1) ot hh → bS k (b + 3) od hh → bS k (b + 12) os hh → bP k (b + 21) (b + 12) op hh → bQ k (b + 21 + 10) ow hh → bQ k (b + 21 + 13) oe hh → bHH k (b + 69) (b + 12) oH hh → rx_fr [(m, 3), (b, 1), (b + 1, 2), (b + 3, 9), (b + 12, 9), (b + 21, 10), (b + 21 + 10, 3), (b + 21 + 13, 3), (b + 69, 130)] h hh → rx_W P9 l E9 room_1 S9 M9 A9 B9 me9 c9 Q9 G k 8 600086 7301442 hh n 36 [(0, .ref (k 7)), (1, .ref m), (2, .ref b), (3, .int y3), (4, .int x4)] [] := by
      intro fu
      induction fu with
      | zero => intro om oB ot od os op ow oe oH x4 hh hF b_m b_B b_t b_d b_s b_p b_w b_e b_H fr; exact absurd hF (by simp [F_law_seg_36])
      | succ fu ih_loop5 =>
        intro om oB ot od os op ow oe oH x4 hh hF b_m b_B b_t b_d b_s b_p b_w b_e b_H fr
        unfold F_law_seg_36 at hF
        refine rx_iload C dL_law_36 4 rfl ?_
        refine rx_bipush C dL_law_38 (19 : Int32) (by decide) ?_
        refine rx_icmp_ge C dL_law_40 131 (by decide) (fun c6 => ?_) (fun c6 => ?_)
        · rw [if_pos c6] at hF
          refine rx_iconst C dL_law_131 (1 : Int32) (by decide) ?_
          exact KE _ _ _
        · rw [if_neg c6] at hF
          refine rx_aload_n C dL_law_43 2 rfl ?_
          replace hF := rx_biE hF; obtain ⟨y7, e_y7, hF⟩ := hF
          refine rx_ci (rx_rV C (w_X8_countedRoyalCoins e_y7 b_B b_s b_p) Y_X8_countedRoyalCoins V_X8_countedRoyalCoins m_L_156 (Or.inl ⟨_, _, _, _, b_B, rfl⟩) ⟨⟨rfl, rfl⟩, ⟨(Nat.le_of_ble_eq_true rfl), (Nat.le_of_ble_eq_true rfl)⟩, ⟨(Nat.le_of_ble_eq_true rfl), (Nat.le_of_ble_eq_true rfl)⟩⟩ rfl rfl (Nat.le_of_ble_eq_true rfl) dL_law_44) (fun r hh n1 hpp => ?_)
          obtain ⟨rfl, hu⟩ := hpp
          cases hu
          refine rx_istore C dL_law_47 (by decide) [(5, .int y7), (0, .ref (k 7)), (1, .ref m), (2, .ref b), (3, .int y3), (4, .int x4)] rfl ?_
          refine rx_aload_n C dL_law_49 2 rfl ?_
          refine rx_aload_n C dL_law_50 3 rfl ?_
          replace hF := rx_biE hF; obtain ⟨y8, e_y8, hF⟩ := hF
          refine rx_ci (rx_rV C (w_L_crossed e_y8 b_m b_B b_s b_p (by omega)) Y_L_crossed V_L_crossed m_L_159 (Or.inl ⟨_, _, _, _, b_m.1, rfl⟩) ⟨⟨rfl, rfl⟩, ⟨(Nat.le_of_ble_eq_true rfl), (Nat.le_of_ble_eq_true rfl)⟩, ⟨(Nat.le_of_ble_eq_true rfl), (Nat.le_of_ble_eq_true rfl)⟩⟩ rfl rfl (Nat.le_of_ble_eq_true rfl) dL_law_51) (fun r hh n1 hpp => ?_)
          obtain ⟨rfl, hu⟩ := hpp
          cases hu
          refine rx_istore C dL_law_54 (by decide) [(6, .int y8), (5, .int y7), (0, .ref (k 7)), (1, .ref m), (2, .ref b), (3, .int y3), (4, .int x4)] rfl ?_
          refine rx_aload_n C dL_law_56 3 rfl ?_
          refine rx_aload_n C dL_law_57 4 rfl ?_
          refine rx_aload_n C dL_law_58 2 rfl ?_
          refine rx_iload C dL_law_59 6 rfl ?_
          replace hF := rx_biE hF; obtain ⟨y9, e_y9, hF⟩ := hF
          refine rx_ci (rx_rS C (w_L_cell e_y9 ) Y_L_cell S_L_cell m_L_41 ⟨⟨rfl, rfl⟩, ⟨(Nat.le_of_ble_eq_true rfl), (Nat.le_of_ble_eq_true rfl)⟩, ⟨(Nat.le_of_ble_eq_true rfl), (Nat.le_of_ble_eq_true rfl)⟩⟩ rfl rfl (Nat.le_of_ble_eq_true rfl) dL_law_61) (fun r hh n1 hpp => ?_)
          obtain ⟨rfl, hu⟩ := hpp
          cases hu
          replace hF := rx_biE hF; obtain ⟨y10, e_y10, hF⟩ := hF
          refine rx_ci (rx_rV C (w_L_acts e_y10 b_m b_B b_s b_p b_w b_e b_H (by omega)) Y_L_acts V_L_acts m_L_162 (Or.inl ⟨_, _, _, _, b_m.1, rfl⟩) ⟨⟨rfl, rfl⟩, ⟨(Nat.le_of_ble_eq_true rfl), (Nat.le_of_ble_eq_true rfl)⟩, ⟨(Nat.le_of_ble_eq_true rfl), (Nat.le_of_ble_eq_true rfl)⟩⟩ rfl rfl (Nat.le_of_ble_eq_true rfl) dL_law_64) (fun r hh n1 hpp => ?_)
          obtain ⟨rfl, bo_y10, hn, c_p, c_w, c_e, c_H, ff⟩ := hpp
          replace hn : n = n1 := Eq.symm hn
          subst hn
          replace b_p : bP k (b + 21) (b + 12) y10.2.1 hh := c_p
          clear c_p
          replace b_w : bQ k (b + 21 + 10) y10.2.2.1 hh := c_w
          clear c_w
          replace b_e : bQ k (b + 21 + 13) y10.2.2.2.1 hh := c_e
          clear c_e
          replace b_H : bHH k (b + 69) (b + 12) y10.2.2.2.2 hh := c_H
          clear c_H
          replace ff : rx_fr [(b + 21, 10), (b + 21 + 10, 3), (b + 21 + 13, 3), (b + 69, 130)] _ hh := ff
          replace b_m := b_m.keep ff ⟨s_m_p, s_m_w, s_m_e, s_m_H, trivial⟩
          replace b_B := b_B.keep ff ⟨s_B_p, s_B_w, s_B_e, s_B_H, trivial⟩
          replace b_t := b_t.keep ff ⟨s_t_p, s_t_w, s_t_e, s_t_H, trivial⟩
          replace b_d := b_d.keep ff ⟨s_d_p, s_d_w, s_d_e, s_d_H, trivial⟩
          replace b_s := b_s.keep ff ⟨s_s_p, s_s_w, s_s_e, s_s_H, trivial⟩
          replace fr := rx_frt fr ff (fun a ha => ⟨ha.2.2.2.2.2.1, ha.2.2.2.2.2.2.1, ha.2.2.2.2.2.2.2.1, ha.2.2.2.2.2.2.2.2.1, trivial⟩)
          refine rx_istore C dL_law_67 (by decide) [(7, .int y10.1), (6, .int y8), (5, .int y7), (0, .ref (k 7)), (1, .ref m), (2, .ref b), (3, .int y3), (4, .int x4)] rfl ?_
          refine rx_aload_n C dL_law_69 4 rfl ?_
          refine rx_aload_n C dL_law_70 5 rfl ?_
          replace hF := rx_biE hF; obtain ⟨y11, e_y11, hF⟩ := hF
          refine rx_ci (rx_rV C (w_L_coins e_y11 b_m b_B b_s b_p (by omega)) Y_L_coins V_L_coins m_L_154 (Or.inl ⟨_, _, _, _, b_m.1, rfl⟩) ⟨⟨rfl, rfl⟩, ⟨(Nat.le_of_ble_eq_true rfl), (Nat.le_of_ble_eq_true rfl)⟩, ⟨(Nat.le_of_ble_eq_true rfl), (Nat.le_of_ble_eq_true rfl)⟩⟩ rfl rfl (Nat.le_of_ble_eq_true rfl) dL_law_71) (fun r hh n1 hpp => ?_)
          obtain ⟨rfl, hu⟩ := hpp
          cases hu
          refine rx_iload_n C dL_law_74 6 rfl ?_
          refine rx_icmp_ne C dL_law_75 93 (by decide) (fun c12 => ?_) (fun c12 => ?_)
          · rw [if_neg c12] at hF
            refine rx_iconst C dL_law_93 (0 : Int32) (by decide) ?_
            exact absurd ((Option.some.inj hF).trans hy) (by decide)
          · rw [if_pos c12] at hF
            refine rx_aload_n C dL_law_78 5 rfl ?_
            replace hF := rx_biE hF; obtain ⟨y13, e_y13, hF⟩ := hF
            refine rx_ci (rx_rV C (w_X8_coinGap e_y13 b_B b_s b_p) Y_X8_coinGap V_X8_coinGap m_L_166 (Or.inl ⟨_, _, _, _, b_B, rfl⟩) ⟨⟨rfl, rfl⟩, ⟨(Nat.le_of_ble_eq_true rfl), (Nat.le_of_ble_eq_true rfl)⟩, ⟨(Nat.le_of_ble_eq_true rfl), (Nat.le_of_ble_eq_true rfl)⟩⟩ rfl rfl (Nat.le_of_ble_eq_true rfl) dL_law_79) (fun r hh n1 hpp => ?_)
            obtain ⟨rfl, hu⟩ := hpp
            cases hu
            refine rx_if_ne C dL_law_82 93 (by decide) (fun c14 => ?_) (fun c14 => ?_)
            · rw [if_neg c14] at hF
              refine rx_iconst C dL_law_93 (0 : Int32) (by decide) ?_
              exact absurd ((Option.some.inj hF).trans hy) (by decide)
            · rw [if_pos c14] at hF
              refine rx_aload_n C dL_law_85 4 rfl ?_
              refine rx_aload_n C dL_law_86 5 rfl ?_
              replace hF := rx_biE hF; obtain ⟨y15, e_y15, hF⟩ := hF
              refine rx_ci (rx_rV C (w_L_isWell e_y15 b_m b_B b_s b_p b_w b_e (by omega)) Y_L_isWell V_L_isWell m_L_169 (Or.inl ⟨_, _, _, _, b_m.1, rfl⟩) ⟨⟨rfl, rfl⟩, ⟨(Nat.le_of_ble_eq_true rfl), (Nat.le_of_ble_eq_true rfl)⟩, ⟨(Nat.le_of_ble_eq_true rfl), (Nat.le_of_ble_eq_true rfl)⟩⟩ rfl rfl (Nat.le_of_ble_eq_true rfl) dL_law_87) (fun r hh n1 hpp => ?_)
              obtain ⟨rfl, bo_y15, hu⟩ := hpp
              cases hu
              refine rx_if_ne C dL_law_90 95 (by decide) (fun c16 => ?_) (fun c16 => ?_)
              · rw [if_neg c16] at hF
                refine rx_aload_n C dL_law_95 5 rfl ?_
                replace hF := rx_biE hF; obtain ⟨y17, e_y17, hF⟩ := hF
                refine rx_ci (rx_rV C (w_X8_countedRoyalCoins e_y17 b_B b_s b_p) Y_X8_countedRoyalCoins V_X8_countedRoyalCoins m_L_156 (Or.inl ⟨_, _, _, _, b_B, rfl⟩) ⟨⟨rfl, rfl⟩, ⟨(Nat.le_of_ble_eq_true rfl), (Nat.le_of_ble_eq_true rfl)⟩, ⟨(Nat.le_of_ble_eq_true rfl), (Nat.le_of_ble_eq_true rfl)⟩⟩ rfl rfl (Nat.le_of_ble_eq_true rfl) dL_law_96) (fun r hh n1 hpp => ?_)
                obtain ⟨rfl, hu⟩ := hpp
                cases hu
                refine rx_iload C dL_law_99 2 rfl ?_
                refine rx_icmp_lt C dL_law_101 123 (by decide) (fun c18 => ?_) (fun c18 => ?_)
                · rw [if_pos c18] at hF
                  refine rx_iconst C dL_law_123 (0 : Int32) (by decide) ?_
                  exact absurd ((Option.some.inj hF).trans hy) (by decide)
                · rw [if_neg c18] at hF
                  refine rx_aload_n C dL_law_104 5 rfl ?_
                  replace hF := rx_biE hF; obtain ⟨y19, e_y19, hF⟩ := hF
                  refine rx_ci (rx_rV C (w_X8_countedRoyalCoins e_y19 b_B b_s b_p) Y_X8_countedRoyalCoins V_X8_countedRoyalCoins m_L_156 (Or.inl ⟨_, _, _, _, b_B, rfl⟩) ⟨⟨rfl, rfl⟩, ⟨(Nat.le_of_ble_eq_true rfl), (Nat.le_of_ble_eq_true rfl)⟩, ⟨(Nat.le_of_ble_eq_true rfl), (Nat.le_of_ble_eq_true rfl)⟩⟩ rfl rfl (Nat.le_of_ble_eq_true rfl) dL_law_105) (fun r hh n1 hpp => ?_)
                  obtain ⟨rfl, hu⟩ := hpp
                  cases hu
                  refine rx_iload C dL_law_108 2 rfl ?_
                  refine rx_icmp_le C dL_law_110 125 (by decide) (fun c20 => ?_) (fun c20 => ?_)
                  · rw [if_pos c20] at hF
                    refine rx_iinc C dL_law_125 7 rfl (x4 + 1) rfl (by decide) [(4, .int ((x4 + 1))), (7, .int y10.1), (6, .int y8), (5, .int y7), (0, .ref (k 7)), (1, .ref m), (2, .ref b), (3, .int y3)] rfl ?_
                    refine rx_goto C dL_law_128 36 (by decide) ?_
                    refine rx_sub [4, 5, 6, 7, 0] rfl ?_
                    exact ih_loop5 _ _ _ _ _ _ _ _ _ _ _ hF b_m b_B b_t b_d b_s b_p b_w b_e b_H fr
                  · rw [if_neg c20] at hF
                    refine rx_aload_n C dL_law_113 4 rfl ?_
                    refine rx_aload_n C dL_law_114 5 rfl ?_
                    replace hF := rx_biE hF; obtain ⟨y21, e_y21, hF⟩ := hF
                    refine rx_ci (rx_rV C (w_L_crossed e_y21 b_m b_B b_s b_p (by omega)) Y_L_crossed V_L_crossed m_L_159 (Or.inl ⟨_, _, _, _, b_m.1, rfl⟩) ⟨⟨rfl, rfl⟩, ⟨(Nat.le_of_ble_eq_true rfl), (Nat.le_of_ble_eq_true rfl)⟩, ⟨(Nat.le_of_ble_eq_true rfl), (Nat.le_of_ble_eq_true rfl)⟩⟩ rfl rfl (Nat.le_of_ble_eq_true rfl) dL_law_115) (fun r hh n1 hpp => ?_)
                    obtain ⟨rfl, hu⟩ := hpp
                    cases hu
                    refine rx_iload C dL_law_118 1 rfl ?_
                    refine rx_icmp_ne C dL_law_120 125 (by decide) (fun c22 => ?_) (fun c22 => ?_)
                    · rw [if_neg c22] at hF
                      refine rx_iinc C dL_law_125 7 rfl (x4 + 1) rfl (by decide) [(4, .int ((x4 + 1))), (7, .int y10.1), (6, .int y8), (5, .int y7), (0, .ref (k 7)), (1, .ref m), (2, .ref b), (3, .int y3)] rfl ?_
                      refine rx_goto C dL_law_128 36 (by decide) ?_
                      refine rx_sub [4, 5, 6, 7, 0] rfl ?_
                      exact ih_loop5 _ _ _ _ _ _ _ _ _ _ _ hF b_m b_B b_t b_d b_s b_p b_w b_e b_H fr
                    · rw [if_pos c22] at hF
                      refine rx_iconst C dL_law_123 (0 : Int32) (by decide) ?_
                      exact absurd ((Option.some.inj hF).trans hy) (by decide)
              · rw [if_pos c16] at hF
                refine rx_iconst C dL_law_93 (0 : Int32) (by decide) ?_
                exact absurd ((Option.some.inj hF).trans hy) (by decide)
    refine rx_sub [2, 3, 4, 1, 0] rfl ?_
    exact loop5 _ _ _ _ _ _ _ _ _ _ _ _ hF b_m b_B b_t b_d b_s b_p b_w b_e b_H fr
  · rw [if_pos c2] at hF
    refine rx_iconst C dL_law_25 (0 : Int32) (by decide) ?_
    exact absurd ((Option.some.inj hF).trans hy) (by decide)
end LSEG
