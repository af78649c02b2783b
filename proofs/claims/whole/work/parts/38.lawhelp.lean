section LAWH
variable {l : Launch} {G : va_G} {k : Nat → Nat} {h : hp} {n : Nat}
def F_L_loadGame (oB : ob) (ot : ob) (od : ob) (os : ob) (op : ob) (ow : ob) (oe : ob) (oH : hst) (oL : (Nat → Int64)) (x1 : Int32) : Option (Int32 × ob × ob × ob × ob × ob × ob × ob × hst × (Nat → Int64)) := (F_X8_loadGame oB ot od os op ow oe oH x1).bind fun y1 => if y1.1 = (0 : Int32) then (rx_le (vp_updL oL 0 y1.2.1.toInt64) fun o_L_2 => some ((0 : Int32), y1.2.2.1, y1.2.2.2.1, y1.2.2.2.2.1, y1.2.2.2.2.2.1, y1.2.2.2.2.2.2.1, y1.2.2.2.2.2.2.2.1, y1.2.2.2.2.2.2.2.2.1, y1.2.2.2.2.2.2.2.2.2, o_L_2)) else (if y1.1 = (1 : Int32) then (none) else (if y1.1 = (2 : Int32) then (some ((1 : Int32), oB, ot, od, os, op, ow, oe, oH, oL)) else (none)))
set_option maxRecDepth 100000 in
set_option maxHeartbeats 4000000 in
theorem w_L_loadGame {b lo : Nat} {oB : ob} {ot : ob} {od : ob} {os : ob} {op : ob} {ow : ob} {oe : ob} {oH : hst} {oL : (Nat → Int64)} {x1 : Int32} {y : Int32 × ob × ob × ob × ob × ob × ob × ob × hst × (Nat → Int64)} (hst : l.stackTraces = false) (hF : F_L_loadGame oB ot od os op ow oe oH oL x1 = some y) (b_B : bB k b oB h) (b_t : bT k (b + 1) ot h) (b_d : bS k (b + 3) od h) (b_s : bS k (b + 12) os h) (b_p : bP k (b + 21) (b + 12) op h) (b_w : bQ k (b + 21 + 10) ow h) (b_e : bQ k (b + 21 + 13) oe h) (b_H : bHH k (b + 69) (b + 12) oH h) (b_L : bL k lo oL h) (hd0 : b + 204 ≤ lo ∨ lo + 1 ≤ b) : vx_Met l yL_loadGame (rx_wsH yL_loadGame cL_loadGame 4 (some .int) [(0, 9, 12, 13)]) (rx_rmX 9 199 1 6) (va_Pc [.ref b, .int x1, .ref lo] (rx_GN G k h n)) (va_Qi (fun r u => y.1 = r ∧ n ≤ u.2 ∧ bB k b y.2.1 u.1 ∧ bT k (b + 1) y.2.2.1 u.1 ∧ bS k (b + 3) y.2.2.2.1 u.1 ∧ bS k (b + 12) y.2.2.2.2.1 u.1 ∧ bP k (b + 21) (b + 12) y.2.2.2.2.2.1 u.1 ∧ bQ k (b + 21 + 10) y.2.2.2.2.2.2.1 u.1 ∧ bQ k (b + 21 + 13) y.2.2.2.2.2.2.2.1 u.1 ∧ bHH k (b + 69) (b + 12) y.2.2.2.2.2.2.2.2.1 u.1 ∧ bL k lo y.2.2.2.2.2.2.2.2.2 u.1 ∧ rx_fr [(b, 1), (b + 1, 2), (b + 3, 9), (b + 12, 9), (b + 21, 10), (b + 21 + 10, 3), (b + 21 + 13, 3), (b + 69, 130), (lo, 1)] h u.1) (rx_B G k) (rx_A k)) (rx_XC G k (fun _ _ => False)) 1 6 (rx_A k) := by
  have s_L_B : lo + 1 ≤ b ∨ b + 1 ≤ lo := by omega
  have s_L_t : lo + 1 ≤ b + 1 ∨ b + 1 + 2 ≤ lo := by omega
  have s_L_d : lo + 1 ≤ b + 3 ∨ b + 3 + 9 ≤ lo := by omega
  have s_L_s : lo + 1 ≤ b + 12 ∨ b + 12 + 9 ≤ lo := by omega
  have s_L_p : lo + 1 ≤ b + 21 ∨ b + 21 + 10 ≤ lo := by omega
  have s_L_w : lo + 1 ≤ b + 21 + 10 ∨ b + 21 + 10 + 3 ≤ lo := by omega
  have s_L_e : lo + 1 ≤ b + 21 + 13 ∨ b + 21 + 13 + 3 ≤ lo := by omega
  have s_L_H : lo + 1 ≤ b + 69 ∨ b + 69 + 130 ≤ lo := by omega
  have s_B_L : b + 1 ≤ lo ∨ lo + 1 ≤ b := by omega
  have s_t_L : b + 1 + 2 ≤ lo ∨ lo + 1 ≤ b + 1 := by omega
  have s_d_L : b + 3 + 9 ≤ lo ∨ lo + 1 ≤ b + 3 := by omega
  have s_s_L : b + 12 + 9 ≤ lo ∨ lo + 1 ≤ b + 12 := by omega
  have s_p_L : b + 21 + 10 ≤ lo ∨ lo + 1 ≤ b + 21 := by omega
  have s_w_L : b + 21 + 10 + 3 ≤ lo ∨ lo + 1 ≤ b + 21 + 10 := by omega
  have s_e_L : b + 21 + 13 + 3 ≤ lo ∨ lo + 1 ≤ b + 21 + 13 := by omega
  have s_H_L : b + 69 + 130 ≤ lo ∨ lo + 1 ≤ b + 69 := by omega
  refine rx_startH [(0, .ref b), (1, .int x1), (2, .ref lo)] rfl (Nat.le_of_ble_eq_true rfl) (by decide) (fun P9 E9 S9 M9 A9 B9 me9 c9 C htab hN => ?_)
  unfold F_L_loadGame at hF
  have fr : rx_fr [(b, 1), (b + 1, 2), (b + 3, 9), (b + 12, 9), (b + 21, 10), (b + 21 + 10, 3), (b + 21 + 13, 3), (b + 69, 130), (lo, 1)] h h := rx_fr0
  refine rx_aload_n C dL_loadGame_0 2 rfl ?_
  refine rx_iconst C dL_loadGame_1 (0 : Int32) (by decide) ?_
  refine rx_aload_n C dL_loadGame_2 0 rfl ?_
  refine rx_iload_n C dL_loadGame_3 1 rfl ?_
  replace hF := rx_biE hF; obtain ⟨y1, e_y1, hF⟩ := hF
  refine rx_xci (rx_rVX C (w_X8_loadGame hst e_y1 b_B b_t b_d b_s b_p b_w b_e b_H) Y_X8_loadGame V_X8_loadGame m_L_7 (Or.inl ⟨_, _, _, _, b_B, rfl⟩) ⟨⟨rfl, rfl⟩, ⟨(Nat.le_of_ble_eq_true rfl), (Nat.le_of_ble_eq_true rfl)⟩, ⟨(Nat.le_of_ble_eq_true rfl), (Nat.le_of_ble_eq_true rfl)⟩⟩ rfl rfl (Nat.le_of_ble_eq_true rfl) dL_loadGame_4) (fun E hh n1 hx => ?_) (fun r hh n1 hpp => ?_)
  · obtain ⟨hx0, hx1, hx2, hx3⟩ := hx
    rw [if_neg hx0] at hF
    subst hx1
    replace hx2 : hh = h := hx2
    subst hx2
    by_cases d1 : y1.1 = (1 : Int32)
    · rw [if_pos d1] at hF
      cases hF
    · rw [if_neg d1] at hF
      by_cases d2 : y1.1 = (2 : Int32)
      · rw [if_pos d2] at hF
        rw [show rx_ex y1.1 = rx_E2 by rw [d2]; rfl]
        refine rx_catch C htab [] 0 9 12 13 [] rfl (fun z hz => absurd hz List.not_mem_nil) (by decide) (by decide) xl_13 xc_2 (fun q9 => ?_)
        refine rx_astore_n C dL_loadGame_12 (by decide) [(3, .ref q9), (0, .ref b), (1, .int x1), (2, .ref lo)] rfl ?_
        refine rx_iconst C dL_loadGame_13 (1 : Int32) (by decide) ?_
        obtain rfl := Option.some.inj hF
        exact rx_xret (rx_iret C dL_loadGame_14 (Nat.le_of_ble_eq_true rfl) (Nat.le_of_ble_eq_true rfl) ⟨rfl, hx3, b_B, b_t, b_d, b_s, b_p, b_w, b_e, b_H, b_L, fr⟩)
      · rw [if_neg d2] at hF
        cases hF
  obtain ⟨hz0_y1, rfl, hn, c_B, c_t, c_d, c_s, c_p, c_w, c_e, c_H, ff⟩ := hpp
  replace hn : n = n1 := Eq.symm hn
  subst hn
  replace b_B : bB k b y1.2.2.1 hh := c_B
  clear c_B
  replace b_t : bT k (b + 1) y1.2.2.2.1 hh := c_t
  clear c_t
  replace b_d : bS k (b + 3) y1.2.2.2.2.1 hh := c_d
  clear c_d
  replace b_s : bS k (b + 12) y1.2.2.2.2.2.1 hh := c_s
  clear c_s
  replace b_p : bP k (b + 21) (b + 12) y1.2.2.2.2.2.2.1 hh := c_p
  clear c_p
  replace b_w : bQ k (b + 21 + 10) y1.2.2.2.2.2.2.2.1 hh := c_w
  clear c_w
  replace b_e : bQ k (b + 21 + 13) y1.2.2.2.2.2.2.2.2.1 hh := c_e
  clear c_e
  replace b_H : bHH k (b + 69) (b + 12) y1.2.2.2.2.2.2.2.2.2 hh := c_H
  clear c_H
  replace ff : rx_fr [(b, 1), (b + 1, 2), (b + 3, 9), (b + 12, 9), (b + 21, 10), (b + 21 + 10, 3), (b + 21 + 13, 3), (b + 69, 130)] _ hh := ff
  replace b_L := b_L.keep ff ⟨s_L_B, s_L_t, s_L_d, s_L_s, s_L_p, s_L_w, s_L_e, s_L_H, trivial⟩
  replace fr := rx_frt fr ff (fun a ha => ⟨ha.1, ha.2.1, ha.2.2.1, ha.2.2.2.1, ha.2.2.2.2.1, ha.2.2.2.2.2.1, ha.2.2.2.2.2.2.1, ha.2.2.2.2.2.2.2.1, trivial⟩)
  rw [if_pos hz0_y1] at hF
  refine rx_i2l C dL_loadGame_7 ?_
  replace hF := rx_leE hF; obtain ⟨o_L_2, e_o_L_2, hF⟩ := hF
  refine rx_aL C dL_loadGame_8 b_L e_o_L_2 (fun hh c_L ff => ?_)
  replace b_L := c_L
  replace b_B := b_B.keep ff ⟨s_B_L, trivial⟩
  replace b_t := b_t.keep ff ⟨s_t_L, trivial⟩
  replace b_d := b_d.keep ff ⟨s_d_L, trivial⟩
  replace b_s := b_s.keep ff ⟨s_s_L, trivial⟩
  replace b_p := b_p.keep ff ⟨s_p_L, trivial⟩
  replace b_w := b_w.keep ff ⟨s_w_L, trivial⟩
  replace b_e := b_e.keep ff ⟨s_e_L, trivial⟩
  replace b_H := b_H.keep ff ⟨s_H_L, trivial⟩
  replace fr := rx_frt fr ff (fun a ha => ⟨ha.2.2.2.2.2.2.2.2.1, trivial⟩)
  refine rx_goto C dL_loadGame_9 15 (by decide) ?_
  refine rx_iconst C dL_loadGame_15 (0 : Int32) (by decide) ?_
  obtain rfl := Option.some.inj hF
  exact rx_xret (rx_iret C dL_loadGame_16 (Nat.le_of_ble_eq_true rfl) (Nat.le_of_ble_eq_true rfl) ⟨rfl, Nat.le_refl _, b_B, b_t, b_d, b_s, b_p, b_w, b_e, b_H, b_L, fr⟩)
def F_L_isKing (oB : ob) (os : ob) (oL : (Nat → Int64)) (x1 : Int32) : Option (Int32 × (Nat → Int64)) := (F_X8_isKing oB os x1).bind fun y1 => if y1.1 = (0 : Int32) then (if y1.2 = (0 : Int32) then (rx_le (vp_updL oL 0 ((0 : Int64))) fun o_L_3 => some ((0 : Int32), o_L_3)) else (rx_le (vp_updL oL 0 ((1 : Int64))) fun o_L_4 => some ((0 : Int32), o_L_4))) else (if y1.1 = (1 : Int32) then (some ((1 : Int32), oL)) else (if y1.1 = (2 : Int32) then (none) else (none)))
set_option maxRecDepth 100000 in
set_option maxHeartbeats 4000000 in
theorem w_L_isKing {b lo : Nat} {oB : ob} {os : ob} {oL : (Nat → Int64)} {x1 : Int32} {y : Int32 × (Nat → Int64)} (hst : l.stackTraces = false) (hF : F_L_isKing oB os oL x1 = some y) (b_B : bB k b oB h) (b_s : bS k (b + 12) os h) (b_L : bL k lo oL h) (hd0 : b + 204 ≤ lo ∨ lo + 1 ≤ b) : vx_Met l yL_isKing (rx_wsH yL_isKing cL_isKing 4 (some .int) [(0, 16, 19, 19)]) (rx_rmX 8 124 1 6) (va_Pc [.ref b, .int x1, .ref lo] (rx_GN G k h n)) (va_Qi (fun r u => y.1 = r ∧ n ≤ u.2 ∧ bL k lo y.2 u.1 ∧ rx_fr [(lo, 1)] h u.1) (rx_B G k) (rx_A k)) (rx_XC G k (fun _ _ => False)) 1 6 (rx_A k) := by
  have s_B_L : b + 1 ≤ lo ∨ lo + 1 ≤ b := by omega
  have s_s_L : b + 12 + 9 ≤ lo ∨ lo + 1 ≤ b + 12 := by omega
  refine rx_startH [(0, .ref b), (1, .int x1), (2, .ref lo)] rfl (Nat.le_of_ble_eq_true rfl) (by decide) (fun P9 E9 S9 M9 A9 B9 me9 c9 C htab hN => ?_)
  unfold F_L_isKing at hF
  have fr : rx_fr [(lo, 1)] h h := rx_fr0
  refine rx_aload_n C dL_isKing_0 2 rfl ?_
  refine rx_iconst C dL_isKing_1 (0 : Int32) (by decide) ?_
  refine rx_aload_n C dL_isKing_2 0 rfl ?_
  refine rx_iload_n C dL_isKing_3 1 rfl ?_
  replace hF := rx_biE hF; obtain ⟨y1, e_y1, hF⟩ := hF
  refine rx_xci (rx_rVX C (w_X8_isKing hst e_y1 b_B b_s) Y_X8_isKing V_X8_isKing m_L_15 (Or.inl ⟨_, _, _, _, b_B, rfl⟩) ⟨⟨rfl, rfl⟩, ⟨(Nat.le_of_ble_eq_true rfl), (Nat.le_of_ble_eq_true rfl)⟩, ⟨(Nat.le_of_ble_eq_true rfl), (Nat.le_of_ble_eq_true rfl)⟩⟩ rfl rfl (Nat.le_of_ble_eq_true rfl) dL_isKing_4) (fun E hh n1 hx => ?_) (fun r hh n1 hpp => ?_)
  · obtain ⟨hx0, hx1, hx2, hx3⟩ := hx
    rw [if_neg hx0] at hF
    subst hx1
    replace hx2 : hh = h := hx2
    subst hx2
    by_cases d1 : y1.1 = (1 : Int32)
    · rw [if_pos d1] at hF
      rw [show rx_ex y1.1 = rx_E1 by rw [d1]; rfl]
      refine rx_catch C htab [] 0 16 19 19 [] rfl (fun z hz => absurd hz List.not_mem_nil) (by decide) (by decide) xl_19 xc_1 (fun q9 => ?_)
      refine rx_astore_n C dL_isKing_19 (by decide) [(3, .ref q9), (0, .ref b), (1, .int x1), (2, .ref lo)] rfl ?_
      refine rx_iconst C dL_isKing_20 (1 : Int32) (by decide) ?_
      obtain rfl := Option.some.inj hF
      exact rx_xret (rx_iret C dL_isKing_21 (Nat.le_of_ble_eq_true rfl) (Nat.le_of_ble_eq_true rfl) ⟨rfl, hx3, b_L, fr⟩)
    · rw [if_neg d1] at hF
      by_cases d2 : y1.1 = (2 : Int32)
      · rw [if_pos d2] at hF
        cases hF
      · rw [if_neg d2] at hF
        cases hF
  obtain ⟨hz0_y1, rfl, bo_y1, hu⟩ := hpp
  cases hu
  rw [if_pos hz0_y1] at hF
  refine rx_if_eq C dL_isKing_7 14 (by decide) (fun c2 => ?_) (fun c2 => ?_)
  · rw [if_pos c2] at hF
    refine rx_lconst C dL_isKing_14 0 (by decide) ?_
    replace hF := rx_leE hF; obtain ⟨o_L_3, e_o_L_3, hF⟩ := hF
    refine rx_aL C dL_isKing_15 b_L e_o_L_3 (fun hh c_L ff => ?_)
    replace b_L := c_L
    replace b_B := b_B.keep ff ⟨s_B_L, trivial⟩
    replace b_s := b_s.keep ff ⟨s_s_L, trivial⟩
    replace fr := rx_frt fr ff (fun a ha => ⟨ha.1, trivial⟩)
    refine rx_goto C dL_isKing_16 22 (by decide) ?_
    refine rx_iconst C dL_isKing_22 (0 : Int32) (by decide) ?_
    obtain rfl := Option.some.inj hF
    exact rx_xret (rx_iret C dL_isKing_23 (Nat.le_of_ble_eq_true rfl) (Nat.le_of_ble_eq_true rfl) ⟨rfl, Nat.le_refl _, b_L, fr⟩)
  · rw [if_neg c2] at hF
    refine rx_lconst C dL_isKing_10 1 (by decide) ?_
    refine rx_goto C dL_isKing_11 15 (by decide) ?_
    replace hF := rx_leE hF; obtain ⟨o_L_4, e_o_L_4, hF⟩ := hF
    refine rx_aL C dL_isKing_15 b_L e_o_L_4 (fun hh c_L ff => ?_)
    replace b_L := c_L
    replace b_B := b_B.keep ff ⟨s_B_L, trivial⟩
    replace b_s := b_s.keep ff ⟨s_s_L, trivial⟩
    replace fr := rx_frt fr ff (fun a ha => ⟨ha.1, trivial⟩)
    refine rx_goto C dL_isKing_16 22 (by decide) ?_
    refine rx_iconst C dL_isKing_22 (0 : Int32) (by decide) ?_
    obtain rfl := Option.some.inj hF
    exact rx_xret (rx_iret C dL_isKing_23 (Nat.le_of_ble_eq_true rfl) (Nat.le_of_ble_eq_true rfl) ⟨rfl, Nat.le_refl _, b_L, fr⟩)
def F_L_isEast (oB : ob) (os : ob) (op : ob) (oL : (Nat → Int64)) (x1 : Int32) : Option (Int32 × (Nat → Int64)) := (F_X8_isEast oB os op x1).bind fun y1 => if y1.1 = (0 : Int32) then (if y1.2 = (0 : Int32) then (rx_le (vp_updL oL 0 ((0 : Int64))) fun o_L_3 => some ((0 : Int32), o_L_3)) else (rx_le (vp_updL oL 0 ((1 : Int64))) fun o_L_4 => some ((0 : Int32), o_L_4))) else (if y1.1 = (1 : Int32) then (some ((1 : Int32), oL)) else (if y1.1 = (2 : Int32) then (none) else (none)))
set_option maxRecDepth 100000 in
set_option maxHeartbeats 4000000 in
theorem w_L_isEast {b lo : Nat} {oB : ob} {os : ob} {op : ob} {oL : (Nat → Int64)} {x1 : Int32} {y : Int32 × (Nat → Int64)} (hst : l.stackTraces = false) (hF : F_L_isEast oB os op oL x1 = some y) (b_B : bB k b oB h) (b_s : bS k (b + 12) os h) (b_p : bP k (b + 21) (b + 12) op h) (b_L : bL k lo oL h) (hd0 : b + 204 ≤ lo ∨ lo + 1 ≤ b) : vx_Met l yL_isEast (rx_wsH yL_isEast cL_isEast 4 (some .int) [(0, 16, 19, 19)]) (rx_rmX 8 124 1 6) (va_Pc [.ref b, .int x1, .ref lo] (rx_GN G k h n)) (va_Qi (fun r u => y.1 = r ∧ n ≤ u.2 ∧ bL k lo y.2 u.1 ∧ rx_fr [(lo, 1)] h u.1) (rx_B G k) (rx_A k)) (rx_XC G k (fun _ _ => False)) 1 6 (rx_A k) := by
  have s_B_L : b + 1 ≤ lo ∨ lo + 1 ≤ b := by omega
  have s_s_L : b + 12 + 9 ≤ lo ∨ lo + 1 ≤ b + 12 := by omega
  have s_p_L : b + 21 + 10 ≤ lo ∨ lo + 1 ≤ b + 21 := by omega
  refine rx_startH [(0, .ref b), (1, .int x1), (2, .ref lo)] rfl (Nat.le_of_ble_eq_true rfl) (by decide) (fun P9 E9 S9 M9 A9 B9 me9 c9 C htab hN => ?_)
  unfold F_L_isEast at hF
  have fr : rx_fr [(lo, 1)] h h := rx_fr0
  refine rx_aload_n C dL_isEast_0 2 rfl ?_
  refine rx_iconst C dL_isEast_1 (0 : Int32) (by decide) ?_
  refine rx_aload_n C dL_isEast_2 0 rfl ?_
  refine rx_iload_n C dL_isEast_3 1 rfl ?_
  replace hF := rx_biE hF; obtain ⟨y1, e_y1, hF⟩ := hF
  refine rx_xci (rx_rVX C (w_X8_isEast hst e_y1 b_B b_s b_p) Y_X8_isEast V_X8_isEast m_L_21 (Or.inl ⟨_, _, _, _, b_B, rfl⟩) ⟨⟨rfl, rfl⟩, ⟨(Nat.le_of_ble_eq_true rfl), (Nat.le_of_ble_eq_true rfl)⟩, ⟨(Nat.le_of_ble_eq_true rfl), (Nat.le_of_ble_eq_true rfl)⟩⟩ rfl rfl (Nat.le_of_ble_eq_true rfl) dL_isEast_4) (fun E hh n1 hx => ?_) (fun r hh n1 hpp => ?_)
  · obtain ⟨hx0, hx1, hx2, hx3⟩ := hx
    rw [if_neg hx0] at hF
    subst hx1
    replace hx2 : hh = h := hx2
    subst hx2
    by_cases d1 : y1.1 = (1 : Int32)
    · rw [if_pos d1] at hF
      rw [show rx_ex y1.1 = rx_E1 by rw [d1]; rfl]
      refine rx_catch C htab [] 0 16 19 19 [] rfl (fun z hz => absurd hz List.not_mem_nil) (by decide) (by decide) xl_19 xc_1 (fun q9 => ?_)
      refine rx_astore_n C dL_isEast_19 (by decide) [(3, .ref q9), (0, .ref b), (1, .int x1), (2, .ref lo)] rfl ?_
      refine rx_iconst C dL_isEast_20 (1 : Int32) (by decide) ?_
      obtain rfl := Option.some.inj hF
      exact rx_xret (rx_iret C dL_isEast_21 (Nat.le_of_ble_eq_true rfl) (Nat.le_of_ble_eq_true rfl) ⟨rfl, hx3, b_L, fr⟩)
    · rw [if_neg d1] at hF
      by_cases d2 : y1.1 = (2 : Int32)
      · rw [if_pos d2] at hF
        cases hF
      · rw [if_neg d2] at hF
        cases hF
  obtain ⟨hz0_y1, rfl, bo_y1, hu⟩ := hpp
  cases hu
  rw [if_pos hz0_y1] at hF
  refine rx_if_eq C dL_isEast_7 14 (by decide) (fun c2 => ?_) (fun c2 => ?_)
  · rw [if_pos c2] at hF
    refine rx_lconst C dL_isEast_14 0 (by decide) ?_
    replace hF := rx_leE hF; obtain ⟨o_L_3, e_o_L_3, hF⟩ := hF
    refine rx_aL C dL_isEast_15 b_L e_o_L_3 (fun hh c_L ff => ?_)
    replace b_L := c_L
    replace b_B := b_B.keep ff ⟨s_B_L, trivial⟩
    replace b_s := b_s.keep ff ⟨s_s_L, trivial⟩
    replace b_p := b_p.keep ff ⟨s_p_L, trivial⟩
    replace fr := rx_frt fr ff (fun a ha => ⟨ha.1, trivial⟩)
    refine rx_goto C dL_isEast_16 22 (by decide) ?_
    refine rx_iconst C dL_isEast_22 (0 : Int32) (by decide) ?_
    obtain rfl := Option.some.inj hF
    exact rx_xret (rx_iret C dL_isEast_23 (Nat.le_of_ble_eq_true rfl) (Nat.le_of_ble_eq_true rfl) ⟨rfl, Nat.le_refl _, b_L, fr⟩)
  · rw [if_neg c2] at hF
    refine rx_lconst C dL_isEast_10 1 (by decide) ?_
    refine rx_goto C dL_isEast_11 15 (by decide) ?_
    replace hF := rx_leE hF; obtain ⟨o_L_4, e_o_L_4, hF⟩ := hF
    refine rx_aL C dL_isEast_15 b_L e_o_L_4 (fun hh c_L ff => ?_)
    replace b_L := c_L
    replace b_B := b_B.keep ff ⟨s_B_L, trivial⟩
    replace b_s := b_s.keep ff ⟨s_s_L, trivial⟩
    replace b_p := b_p.keep ff ⟨s_p_L, trivial⟩
    replace fr := rx_frt fr ff (fun a ha => ⟨ha.1, trivial⟩)
    refine rx_goto C dL_isEast_16 22 (by decide) ?_
    refine rx_iconst C dL_isEast_22 (0 : Int32) (by decide) ?_
    obtain rfl := Option.some.inj hF
    exact rx_xret (rx_iret C dL_isEast_23 (Nat.le_of_ble_eq_true rfl) (Nat.le_of_ble_eq_true rfl) ⟨rfl, Nat.le_refl _, b_L, fr⟩)
def F_L_coins (oB : ob) (os : ob) (op : ob) (oL : (Nat → Int64)) (x1 : Int32) : Option (Int32 × (Nat → Int64)) := (F_X8_coins oB os op x1).bind fun y1 => if y1.1 = (0 : Int32) then (rx_le (vp_updL oL 0 y1.2.toInt64) fun o_L_2 => some ((0 : Int32), o_L_2)) else (if y1.1 = (1 : Int32) then (some ((1 : Int32), oL)) else (if y1.1 = (2 : Int32) then (none) else (none)))
set_option maxRecDepth 100000 in
set_option maxHeartbeats 4000000 in
theorem w_L_coins {b lo : Nat} {oB : ob} {os : ob} {op : ob} {oL : (Nat → Int64)} {x1 : Int32} {y : Int32 × (Nat → Int64)} (hst : l.stackTraces = false) (hF : F_L_coins oB os op oL x1 = some y) (b_B : bB k b oB h) (b_s : bS k (b + 12) os h) (b_p : bP k (b + 21) (b + 12) op h) (b_L : bL k lo oL h) (hd0 : b + 204 ≤ lo ∨ lo + 1 ≤ b) : vx_Met l yL_coins (rx_wsH yL_coins cL_coins 4 (some .int) [(0, 9, 12, 19)]) (rx_rmX 8 124 1 6) (va_Pc [.ref b, .int x1, .ref lo] (rx_GN G k h n)) (va_Qi (fun r u => y.1 = r ∧ n ≤ u.2 ∧ bL k lo y.2 u.1 ∧ rx_fr [(lo, 1)] h u.1) (rx_B G k) (rx_A k)) (rx_XC G k (fun _ _ => False)) 1 6 (rx_A k) := by
  have s_B_L : b + 1 ≤ lo ∨ lo + 1 ≤ b := by omega
  have s_s_L : b + 12 + 9 ≤ lo ∨ lo + 1 ≤ b + 12 := by omega
  have s_p_L : b + 21 + 10 ≤ lo ∨ lo + 1 ≤ b + 21 := by omega
  refine rx_startH [(0, .ref b), (1, .int x1), (2, .ref lo)] rfl (Nat.le_of_ble_eq_true rfl) (by decide) (fun P9 E9 S9 M9 A9 B9 me9 c9 C htab hN => ?_)
  unfold F_L_coins at hF
  have fr : rx_fr [(lo, 1)] h h := rx_fr0
  refine rx_aload_n C dL_coins_0 2 rfl ?_
  refine rx_iconst C dL_coins_1 (0 : Int32) (by decide) ?_
  refine rx_aload_n C dL_coins_2 0 rfl ?_
  refine rx_iload_n C dL_coins_3 1 rfl ?_
  replace hF := rx_biE hF; obtain ⟨y1, e_y1, hF⟩ := hF
  refine rx_xci (rx_rVX C (w_X8_coins hst e_y1 b_B b_s b_p) Y_X8_coins V_X8_coins m_L_24 (Or.inl ⟨_, _, _, _, b_B, rfl⟩) ⟨⟨rfl, rfl⟩, ⟨(Nat.le_of_ble_eq_true rfl), (Nat.le_of_ble_eq_true rfl)⟩, ⟨(Nat.le_of_ble_eq_true rfl), (Nat.le_of_ble_eq_true rfl)⟩⟩ rfl rfl (Nat.le_of_ble_eq_true rfl) dL_coins_4) (fun E hh n1 hx => ?_) (fun r hh n1 hpp => ?_)
  · obtain ⟨hx0, hx1, hx2, hx3⟩ := hx
    rw [if_neg hx0] at hF
    subst hx1
    replace hx2 : hh = h := hx2
    subst hx2
    by_cases d1 : y1.1 = (1 : Int32)
    · rw [if_pos d1] at hF
      rw [show rx_ex y1.1 = rx_E1 by rw [d1]; rfl]
      refine rx_catch C htab [] 0 9 12 19 [] rfl (fun z hz => absurd hz List.not_mem_nil) (by decide) (by decide) xl_19 xc_1 (fun q9 => ?_)
      refine rx_astore_n C dL_coins_12 (by decide) [(3, .ref q9), (0, .ref b), (1, .int x1), (2, .ref lo)] rfl ?_
      refine rx_iconst C dL_coins_13 (1 : Int32) (by decide) ?_
      obtain rfl := Option.some.inj hF
      exact rx_xret (rx_iret C dL_coins_14 (Nat.le_of_ble_eq_true rfl) (Nat.le_of_ble_eq_true rfl) ⟨rfl, hx3, b_L, fr⟩)
    · rw [if_neg d1] at hF
      by_cases d2 : y1.1 = (2 : Int32)
      · rw [if_pos d2] at hF
        cases hF
      · rw [if_neg d2] at hF
        cases hF
  obtain ⟨hz0_y1, rfl, hu⟩ := hpp
  cases hu
  rw [if_pos hz0_y1] at hF
  refine rx_i2l C dL_coins_7 ?_
  replace hF := rx_leE hF; obtain ⟨o_L_2, e_o_L_2, hF⟩ := hF
  refine rx_aL C dL_coins_8 b_L e_o_L_2 (fun hh c_L ff => ?_)
  replace b_L := c_L
  replace b_B := b_B.keep ff ⟨s_B_L, trivial⟩
  replace b_s := b_s.keep ff ⟨s_s_L, trivial⟩
  replace b_p := b_p.keep ff ⟨s_p_L, trivial⟩
  replace fr := rx_frt fr ff (fun a ha => ⟨ha.1, trivial⟩)
  refine rx_goto C dL_coins_9 15 (by decide) ?_
  refine rx_iconst C dL_coins_15 (0 : Int32) (by decide) ?_
  obtain rfl := Option.some.inj hF
  exact rx_xret (rx_iret C dL_coins_16 (Nat.le_of_ble_eq_true rfl) (Nat.le_of_ble_eq_true rfl) ⟨rfl, Nat.le_refl _, b_L, fr⟩)
def F_L_pride (oB : ob) (os : ob) (op : ob) (oL : (Nat → Int64)) (x1 : Int32) : Option (Int32 × (Nat → Int64)) := (F_X8_pride oB os op x1).bind fun y1 => if y1.1 = (0 : Int32) then (rx_le (vp_updL oL 0 y1.2.toInt64) fun o_L_2 => some ((0 : Int32), o_L_2)) else (if y1.1 = (1 : Int32) then (some ((1 : Int32), oL)) else (if y1.1 = (2 : Int32) then (none) else (none)))
set_option maxRecDepth 100000 in
set_option maxHeartbeats 4000000 in
theorem w_L_pride {b lo : Nat} {oB : ob} {os : ob} {op : ob} {oL : (Nat → Int64)} {x1 : Int32} {y : Int32 × (Nat → Int64)} (hst : l.stackTraces = false) (hF : F_L_pride oB os op oL x1 = some y) (b_B : bB k b oB h) (b_s : bS k (b + 12) os h) (b_p : bP k (b + 21) (b + 12) op h) (b_L : bL k lo oL h) (hd0 : b + 204 ≤ lo ∨ lo + 1 ≤ b) : vx_Met l yL_pride (rx_wsH yL_pride cL_pride 4 (some .int) [(0, 9, 12, 19)]) (rx_rmX 8 124 1 6) (va_Pc [.ref b, .int x1, .ref lo] (rx_GN G k h n)) (va_Qi (fun r u => y.1 = r ∧ n ≤ u.2 ∧ bL k lo y.2 u.1 ∧ rx_fr [(lo, 1)] h u.1) (rx_B G k) (rx_A k)) (rx_XC G k (fun _ _ => False)) 1 6 (rx_A k) := by
  have s_B_L : b + 1 ≤ lo ∨ lo + 1 ≤ b := by omega
  have s_s_L : b + 12 + 9 ≤ lo ∨ lo + 1 ≤ b + 12 := by omega
  have s_p_L : b + 21 + 10 ≤ lo ∨ lo + 1 ≤ b + 21 := by omega
  refine rx_startH [(0, .ref b), (1, .int x1), (2, .ref lo)] rfl (Nat.le_of_ble_eq_true rfl) (by decide) (fun P9 E9 S9 M9 A9 B9 me9 c9 C htab hN => ?_)
  unfold F_L_pride at hF
  have fr : rx_fr [(lo, 1)] h h := rx_fr0
  refine rx_aload_n C dL_pride_0 2 rfl ?_
  refine rx_iconst C dL_pride_1 (0 : Int32) (by decide) ?_
  refine rx_aload_n C dL_pride_2 0 rfl ?_
  refine rx_iload_n C dL_pride_3 1 rfl ?_
  replace hF := rx_biE hF; obtain ⟨y1, e_y1, hF⟩ := hF
  refine rx_xci (rx_rVX C (w_X8_pride hst e_y1 b_B b_s b_p) Y_X8_pride V_X8_pride m_L_27 (Or.inl ⟨_, _, _, _, b_B, rfl⟩) ⟨⟨rfl, rfl⟩, ⟨(Nat.le_of_ble_eq_true rfl), (Nat.le_of_ble_eq_true rfl)⟩, ⟨(Nat.le_of_ble_eq_true rfl), (Nat.le_of_ble_eq_true rfl)⟩⟩ rfl rfl (Nat.le_of_ble_eq_true rfl) dL_pride_4) (fun E hh n1 hx => ?_) (fun r hh n1 hpp => ?_)
  · obtain ⟨hx0, hx1, hx2, hx3⟩ := hx
    rw [if_neg hx0] at hF
    subst hx1
    replace hx2 : hh = h := hx2
    subst hx2
    by_cases d1 : y1.1 = (1 : Int32)
    · rw [if_pos d1] at hF
      rw [show rx_ex y1.1 = rx_E1 by rw [d1]; rfl]
      refine rx_catch C htab [] 0 9 12 19 [] rfl (fun z hz => absurd hz List.not_mem_nil) (by decide) (by decide) xl_19 xc_1 (fun q9 => ?_)
      refine rx_astore_n C dL_pride_12 (by decide) [(3, .ref q9), (0, .ref b), (1, .int x1), (2, .ref lo)] rfl ?_
      refine rx_iconst C dL_pride_13 (1 : Int32) (by decide) ?_
      obtain rfl := Option.some.inj hF
      exact rx_xret (rx_iret C dL_pride_14 (Nat.le_of_ble_eq_true rfl) (Nat.le_of_ble_eq_true rfl) ⟨rfl, hx3, b_L, fr⟩)
    · rw [if_neg d1] at hF
      by_cases d2 : y1.1 = (2 : Int32)
      · rw [if_pos d2] at hF
        cases hF
      · rw [if_neg d2] at hF
        cases hF
  obtain ⟨hz0_y1, rfl, hu⟩ := hpp
  cases hu
  rw [if_pos hz0_y1] at hF
  refine rx_i2l C dL_pride_7 ?_
  replace hF := rx_leE hF; obtain ⟨o_L_2, e_o_L_2, hF⟩ := hF
  refine rx_aL C dL_pride_8 b_L e_o_L_2 (fun hh c_L ff => ?_)
  replace b_L := c_L
  replace b_B := b_B.keep ff ⟨s_B_L, trivial⟩
  replace b_s := b_s.keep ff ⟨s_s_L, trivial⟩
  replace b_p := b_p.keep ff ⟨s_p_L, trivial⟩
  replace fr := rx_frt fr ff (fun a ha => ⟨ha.1, trivial⟩)
  refine rx_goto C dL_pride_9 15 (by decide) ?_
  refine rx_iconst C dL_pride_15 (0 : Int32) (by decide) ?_
  obtain rfl := Option.some.inj hF
  exact rx_xret (rx_iret C dL_pride_16 (Nat.le_of_ble_eq_true rfl) (Nat.le_of_ble_eq_true rfl) ⟨rfl, Nat.le_refl _, b_L, fr⟩)
def F_L_rags (oB : ob) (os : ob) (op : ob) (oL : (Nat → Int64)) (x1 : Int32) : Option (Int32 × (Nat → Int64)) := (F_X8_rags oB os op x1).bind fun y1 => if y1.1 = (0 : Int32) then (rx_le (vp_updL oL 0 y1.2.toInt64) fun o_L_2 => some ((0 : Int32), o_L_2)) else (if y1.1 = (1 : Int32) then (some ((1 : Int32), oL)) else (if y1.1 = (2 : Int32) then (none) else (none)))
set_option maxRecDepth 100000 in
set_option maxHeartbeats 4000000 in
theorem w_L_rags {b lo : Nat} {oB : ob} {os : ob} {op : ob} {oL : (Nat → Int64)} {x1 : Int32} {y : Int32 × (Nat → Int64)} (hst : l.stackTraces = false) (hF : F_L_rags oB os op oL x1 = some y) (b_B : bB k b oB h) (b_s : bS k (b + 12) os h) (b_p : bP k (b + 21) (b + 12) op h) (b_L : bL k lo oL h) (hd0 : b + 204 ≤ lo ∨ lo + 1 ≤ b) : vx_Met l yL_rags (rx_wsH yL_rags cL_rags 4 (some .int) [(0, 9, 12, 19)]) (rx_rmX 8 124 1 6) (va_Pc [.ref b, .int x1, .ref lo] (rx_GN G k h n)) (va_Qi (fun r u => y.1 = r ∧ n ≤ u.2 ∧ bL k lo y.2 u.1 ∧ rx_fr [(lo, 1)] h u.1) (rx_B G k) (rx_A k)) (rx_XC G k (fun _ _ => False)) 1 6 (rx_A k) := by
  have s_B_L : b + 1 ≤ lo ∨ lo + 1 ≤ b := by omega
  have s_s_L : b + 12 + 9 ≤ lo ∨ lo + 1 ≤ b + 12 := by omega
  have s_p_L : b + 21 + 10 ≤ lo ∨ lo + 1 ≤ b + 21 := by omega
  refine rx_startH [(0, .ref b), (1, .int x1), (2, .ref lo)] rfl (Nat.le_of_ble_eq_true rfl) (by decide) (fun P9 E9 S9 M9 A9 B9 me9 c9 C htab hN => ?_)
  unfold F_L_rags at hF
  have fr : rx_fr [(lo, 1)] h h := rx_fr0
  refine rx_aload_n C dL_rags_0 2 rfl ?_
  refine rx_iconst C dL_rags_1 (0 : Int32) (by decide) ?_
  refine rx_aload_n C dL_rags_2 0 rfl ?_
  refine rx_iload_n C dL_rags_3 1 rfl ?_
  replace hF := rx_biE hF; obtain ⟨y1, e_y1, hF⟩ := hF
  refine rx_xci (rx_rVX C (w_X8_rags hst e_y1 b_B b_s b_p) Y_X8_rags V_X8_rags m_L_30 (Or.inl ⟨_, _, _, _, b_B, rfl⟩) ⟨⟨rfl, rfl⟩, ⟨(Nat.le_of_ble_eq_true rfl), (Nat.le_of_ble_eq_true rfl)⟩, ⟨(Nat.le_of_ble_eq_true rfl), (Nat.le_of_ble_eq_true rfl)⟩⟩ rfl rfl (Nat.le_of_ble_eq_true rfl) dL_rags_4) (fun E hh n1 hx => ?_) (fun r hh n1 hpp => ?_)
  · obtain ⟨hx0, hx1, hx2, hx3⟩ := hx
    rw [if_neg hx0] at hF
    subst hx1
    replace hx2 : hh = h := hx2
    subst hx2
    by_cases d1 : y1.1 = (1 : Int32)
    · rw [if_pos d1] at hF
      rw [show rx_ex y1.1 = rx_E1 by rw [d1]; rfl]
      refine rx_catch C htab [] 0 9 12 19 [] rfl (fun z hz => absurd hz List.not_mem_nil) (by decide) (by decide) xl_19 xc_1 (fun q9 => ?_)
      refine rx_astore_n C dL_rags_12 (by decide) [(3, .ref q9), (0, .ref b), (1, .int x1), (2, .ref lo)] rfl ?_
      refine rx_iconst C dL_rags_13 (1 : Int32) (by decide) ?_
      obtain rfl := Option.some.inj hF
      exact rx_xret (rx_iret C dL_rags_14 (Nat.le_of_ble_eq_true rfl) (Nat.le_of_ble_eq_true rfl) ⟨rfl, hx3, b_L, fr⟩)
    · rw [if_neg d1] at hF
      by_cases d2 : y1.1 = (2 : Int32)
      · rw [if_pos d2] at hF
        cases hF
      · rw [if_neg d2] at hF
        cases hF
  obtain ⟨hz0_y1, rfl, hu⟩ := hpp
  cases hu
  rw [if_pos hz0_y1] at hF
  refine rx_i2l C dL_rags_7 ?_
  replace hF := rx_leE hF; obtain ⟨o_L_2, e_o_L_2, hF⟩ := hF
  refine rx_aL C dL_rags_8 b_L e_o_L_2 (fun hh c_L ff => ?_)
  replace b_L := c_L
  replace b_B := b_B.keep ff ⟨s_B_L, trivial⟩
  replace b_s := b_s.keep ff ⟨s_s_L, trivial⟩
  replace b_p := b_p.keep ff ⟨s_p_L, trivial⟩
  replace fr := rx_frt fr ff (fun a ha => ⟨ha.1, trivial⟩)
  refine rx_goto C dL_rags_9 15 (by decide) ?_
  refine rx_iconst C dL_rags_15 (0 : Int32) (by decide) ?_
  obtain rfl := Option.some.inj hF
  exact rx_xret (rx_iret C dL_rags_16 (Nat.le_of_ble_eq_true rfl) (Nat.le_of_ble_eq_true rfl) ⟨rfl, Nat.le_refl _, b_L, fr⟩)
def F_L_rank (oB : ob) (os : ob) (oL : (Nat → Int64)) (x1 : Int32) : Option (Int32 × (Nat → Int64)) := (F_X8_rank oB os x1).bind fun y1 => if y1.1 = (0 : Int32) then (rx_le (vp_updL oL 0 y1.2.toInt64) fun o_L_2 => some ((0 : Int32), o_L_2)) else (if y1.1 = (1 : Int32) then (some ((1 : Int32), oL)) else (if y1.1 = (2 : Int32) then (none) else (none)))
set_option maxRecDepth 100000 in
set_option maxHeartbeats 4000000 in
theorem w_L_rank {b lo : Nat} {oB : ob} {os : ob} {oL : (Nat → Int64)} {x1 : Int32} {y : Int32 × (Nat → Int64)} (hst : l.stackTraces = false) (hF : F_L_rank oB os oL x1 = some y) (b_B : bB k b oB h) (b_s : bS k (b + 12) os h) (b_L : bL k lo oL h) (hd0 : b + 204 ≤ lo ∨ lo + 1 ≤ b) : vx_Met l yL_rank (rx_wsH yL_rank cL_rank 4 (some .int) [(0, 9, 12, 19)]) (rx_rmX 8 124 1 6) (va_Pc [.ref b, .int x1, .ref lo] (rx_GN G k h n)) (va_Qi (fun r u => y.1 = r ∧ n ≤ u.2 ∧ bL k lo y.2 u.1 ∧ rx_fr [(lo, 1)] h u.1) (rx_B G k) (rx_A k)) (rx_XC G k (fun _ _ => False)) 1 6 (rx_A k) := by
  have s_B_L : b + 1 ≤ lo ∨ lo + 1 ≤ b := by omega
  have s_s_L : b + 12 + 9 ≤ lo ∨ lo + 1 ≤ b + 12 := by omega
  refine rx_startH [(0, .ref b), (1, .int x1), (2, .ref lo)] rfl (Nat.le_of_ble_eq_true rfl) (by decide) (fun P9 E9 S9 M9 A9 B9 me9 c9 C htab hN => ?_)
  unfold F_L_rank at hF
  have fr : rx_fr [(lo, 1)] h h := rx_fr0
  refine rx_aload_n C dL_rank_0 2 rfl ?_
  refine rx_iconst C dL_rank_1 (0 : Int32) (by decide) ?_
  refine rx_aload_n C dL_rank_2 0 rfl ?_
  refine rx_iload_n C dL_rank_3 1 rfl ?_
  replace hF := rx_biE hF; obtain ⟨y1, e_y1, hF⟩ := hF
  refine rx_xci (rx_rVX C (w_X8_rank hst e_y1 b_B b_s) Y_X8_rank V_X8_rank m_L_33 (Or.inl ⟨_, _, _, _, b_B, rfl⟩) ⟨⟨rfl, rfl⟩, ⟨(Nat.le_of_ble_eq_true rfl), (Nat.le_of_ble_eq_true rfl)⟩, ⟨(Nat.le_of_ble_eq_true rfl), (Nat.le_of_ble_eq_true rfl)⟩⟩ rfl rfl (Nat.le_of_ble_eq_true rfl) dL_rank_4) (fun E hh n1 hx => ?_) (fun r hh n1 hpp => ?_)
  · obtain ⟨hx0, hx1, hx2, hx3⟩ := hx
    rw [if_neg hx0] at hF
    subst hx1
    replace hx2 : hh = h := hx2
    subst hx2
    by_cases d1 : y1.1 = (1 : Int32)
    · rw [if_pos d1] at hF
      rw [show rx_ex y1.1 = rx_E1 by rw [d1]; rfl]
      refine rx_catch C htab [] 0 9 12 19 [] rfl (fun z hz => absurd hz List.not_mem_nil) (by decide) (by decide) xl_19 xc_1 (fun q9 => ?_)
      refine rx_astore_n C dL_rank_12 (by decide) [(3, .ref q9), (0, .ref b), (1, .int x1), (2, .ref lo)] rfl ?_
      refine rx_iconst C dL_rank_13 (1 : Int32) (by decide) ?_
      obtain rfl := Option.some.inj hF
      exact rx_xret (rx_iret C dL_rank_14 (Nat.le_of_ble_eq_true rfl) (Nat.le_of_ble_eq_true rfl) ⟨rfl, hx3, b_L, fr⟩)
    · rw [if_neg d1] at hF
      by_cases d2 : y1.1 = (2 : Int32)
      · rw [if_pos d2] at hF
        cases hF
      · rw [if_neg d2] at hF
        cases hF
  obtain ⟨hz0_y1, rfl, hu⟩ := hpp
  cases hu
  rw [if_pos hz0_y1] at hF
  refine rx_i2l C dL_rank_7 ?_
  replace hF := rx_leE hF; obtain ⟨o_L_2, e_o_L_2, hF⟩ := hF
  refine rx_aL C dL_rank_8 b_L e_o_L_2 (fun hh c_L ff => ?_)
  replace b_L := c_L
  replace b_B := b_B.keep ff ⟨s_B_L, trivial⟩
  replace b_s := b_s.keep ff ⟨s_s_L, trivial⟩
  replace fr := rx_frt fr ff (fun a ha => ⟨ha.1, trivial⟩)
  refine rx_goto C dL_rank_9 15 (by decide) ?_
  refine rx_iconst C dL_rank_15 (0 : Int32) (by decide) ?_
  obtain rfl := Option.some.inj hF
  exact rx_xret (rx_iret C dL_rank_16 (Nat.le_of_ble_eq_true rfl) (Nat.le_of_ble_eq_true rfl) ⟨rfl, Nat.le_refl _, b_L, fr⟩)
def F_L_wearer (oB : ob) (os : ob) (op : ob) (oL : (Nat → Int64)) (x1 : Int32) : Option (Int32 × (Nat → Int64)) := (F_X8_wearer oB os op x1).bind fun y1 => if y1.1 = (0 : Int32) then (rx_le (vp_updL oL 0 y1.2.toInt64) fun o_L_2 => some ((0 : Int32), o_L_2)) else (if y1.1 = (1 : Int32) then (some ((1 : Int32), oL)) else (if y1.1 = (2 : Int32) then (none) else (none)))
set_option maxRecDepth 100000 in
set_option maxHeartbeats 4000000 in
theorem w_L_wearer {b lo : Nat} {oB : ob} {os : ob} {op : ob} {oL : (Nat → Int64)} {x1 : Int32} {y : Int32 × (Nat → Int64)} (hst : l.stackTraces = false) (hF : F_L_wearer oB os op oL x1 = some y) (b_B : bB k b oB h) (b_s : bS k (b + 12) os h) (b_p : bP k (b + 21) (b + 12) op h) (b_L : bL k lo oL h) (hd0 : b + 204 ≤ lo ∨ lo + 1 ≤ b) : vx_Met l yL_wearer (rx_wsH yL_wearer cL_wearer 4 (some .int) [(0, 9, 12, 19)]) (rx_rmX 8 124 1 6) (va_Pc [.ref b, .int x1, .ref lo] (rx_GN G k h n)) (va_Qi (fun r u => y.1 = r ∧ n ≤ u.2 ∧ bL k lo y.2 u.1 ∧ rx_fr [(lo, 1)] h u.1) (rx_B G k) (rx_A k)) (rx_XC G k (fun _ _ => False)) 1 6 (rx_A k) := by
  have s_B_L : b + 1 ≤ lo ∨ lo + 1 ≤ b := by omega
  have s_s_L : b + 12 + 9 ≤ lo ∨ lo + 1 ≤ b + 12 := by omega
  have s_p_L : b + 21 + 10 ≤ lo ∨ lo + 1 ≤ b + 21 := by omega
  refine rx_startH [(0, .ref b), (1, .int x1), (2, .ref lo)] rfl (Nat.le_of_ble_eq_true rfl) (by decide) (fun P9 E9 S9 M9 A9 B9 me9 c9 C htab hN => ?_)
  unfold F_L_wearer at hF
  have fr : rx_fr [(lo, 1)] h h := rx_fr0
  refine rx_aload_n C dL_wearer_0 2 rfl ?_
  refine rx_iconst C dL_wearer_1 (0 : Int32) (by decide) ?_
  refine rx_aload_n C dL_wearer_2 0 rfl ?_
  refine rx_iload_n C dL_wearer_3 1 rfl ?_
  replace hF := rx_biE hF; obtain ⟨y1, e_y1, hF⟩ := hF
  refine rx_xci (rx_rVX C (w_X8_wearer hst e_y1 b_B b_s b_p) Y_X8_wearer V_X8_wearer m_L_36 (Or.inl ⟨_, _, _, _, b_B, rfl⟩) ⟨⟨rfl, rfl⟩, ⟨(Nat.le_of_ble_eq_true rfl), (Nat.le_of_ble_eq_true rfl)⟩, ⟨(Nat.le_of_ble_eq_true rfl), (Nat.le_of_ble_eq_true rfl)⟩⟩ rfl rfl (Nat.le_of_ble_eq_true rfl) dL_wearer_4) (fun E hh n1 hx => ?_) (fun r hh n1 hpp => ?_)
  · obtain ⟨hx0, hx1, hx2, hx3⟩ := hx
    rw [if_neg hx0] at hF
    subst hx1
    replace hx2 : hh = h := hx2
    subst hx2
    by_cases d1 : y1.1 = (1 : Int32)
    · rw [if_pos d1] at hF
      rw [show rx_ex y1.1 = rx_E1 by rw [d1]; rfl]
      refine rx_catch C htab [] 0 9 12 19 [] rfl (fun z hz => absurd hz List.not_mem_nil) (by decide) (by decide) xl_19 xc_1 (fun q9 => ?_)
      refine rx_astore_n C dL_wearer_12 (by decide) [(3, .ref q9), (0, .ref b), (1, .int x1), (2, .ref lo)] rfl ?_
      refine rx_iconst C dL_wearer_13 (1 : Int32) (by decide) ?_
      obtain rfl := Option.some.inj hF
      exact rx_xret (rx_iret C dL_wearer_14 (Nat.le_of_ble_eq_true rfl) (Nat.le_of_ble_eq_true rfl) ⟨rfl, hx3, b_L, fr⟩)
    · rw [if_neg d1] at hF
      by_cases d2 : y1.1 = (2 : Int32)
      · rw [if_pos d2] at hF
        cases hF
      · rw [if_neg d2] at hF
        cases hF
  obtain ⟨hz0_y1, rfl, hu⟩ := hpp
  cases hu
  rw [if_pos hz0_y1] at hF
  refine rx_i2l C dL_wearer_7 ?_
  replace hF := rx_leE hF; obtain ⟨o_L_2, e_o_L_2, hF⟩ := hF
  refine rx_aL C dL_wearer_8 b_L e_o_L_2 (fun hh c_L ff => ?_)
  replace b_L := c_L
  replace b_B := b_B.keep ff ⟨s_B_L, trivial⟩
  replace b_s := b_s.keep ff ⟨s_s_L, trivial⟩
  replace b_p := b_p.keep ff ⟨s_p_L, trivial⟩
  replace fr := rx_frt fr ff (fun a ha => ⟨ha.1, trivial⟩)
  refine rx_goto C dL_wearer_9 15 (by decide) ?_
  refine rx_iconst C dL_wearer_15 (0 : Int32) (by decide) ?_
  obtain rfl := Option.some.inj hF
  exact rx_xret (rx_iret C dL_wearer_16 (Nat.le_of_ble_eq_true rfl) (Nat.le_of_ble_eq_true rfl) ⟨rfl, Nat.le_refl _, b_L, fr⟩)
def F_L_crossings (oB : ob) (os : ob) (op : ob) (oL : (Nat → Int64)) (x1 : Int32) : Option (Int32 × (Nat → Int64)) := (F_X8_crossings oB os op x1).bind fun y1 => if y1.1 = (0 : Int32) then (rx_le (vp_updL oL 0 y1.2.toInt64) fun o_L_2 => some ((0 : Int32), o_L_2)) else (if y1.1 = (1 : Int32) then (some ((1 : Int32), oL)) else (if y1.1 = (2 : Int32) then (none) else (none)))
set_option maxRecDepth 100000 in
set_option maxHeartbeats 4000000 in
theorem w_L_crossings {b lo : Nat} {oB : ob} {os : ob} {op : ob} {oL : (Nat → Int64)} {x1 : Int32} {y : Int32 × (Nat → Int64)} (hst : l.stackTraces = false) (hF : F_L_crossings oB os op oL x1 = some y) (b_B : bB k b oB h) (b_s : bS k (b + 12) os h) (b_p : bP k (b + 21) (b + 12) op h) (b_L : bL k lo oL h) (hd0 : b + 204 ≤ lo ∨ lo + 1 ≤ b) : vx_Met l yL_crossings (rx_wsH yL_crossings cL_crossings 4 (some .int) [(0, 9, 12, 19)]) (rx_rmX 8 124 1 6) (va_Pc [.ref b, .int x1, .ref lo] (rx_GN G k h n)) (va_Qi (fun r u => y.1 = r ∧ n ≤ u.2 ∧ bL k lo y.2 u.1 ∧ rx_fr [(lo, 1)] h u.1) (rx_B G k) (rx_A k)) (rx_XC G k (fun _ _ => False)) 1 6 (rx_A k) := by
  have s_B_L : b + 1 ≤ lo ∨ lo + 1 ≤ b := by omega
  have s_s_L : b + 12 + 9 ≤ lo ∨ lo + 1 ≤ b + 12 := by omega
  have s_p_L : b + 21 + 10 ≤ lo ∨ lo + 1 ≤ b + 21 := by omega
  refine rx_startH [(0, .ref b), (1, .int x1), (2, .ref lo)] rfl (Nat.le_of_ble_eq_true rfl) (by decide) (fun P9 E9 S9 M9 A9 B9 me9 c9 C htab hN => ?_)
  unfold F_L_crossings at hF
  have fr : rx_fr [(lo, 1)] h h := rx_fr0
  refine rx_aload_n C dL_crossings_0 2 rfl ?_
  refine rx_iconst C dL_crossings_1 (0 : Int32) (by decide) ?_
  refine rx_aload_n C dL_crossings_2 0 rfl ?_
  refine rx_iload_n C dL_crossings_3 1 rfl ?_
  replace hF := rx_biE hF; obtain ⟨y1, e_y1, hF⟩ := hF
  refine rx_xci (rx_rVX C (w_X8_crossings hst e_y1 b_B b_s b_p) Y_X8_crossings V_X8_crossings m_L_39 (Or.inl ⟨_, _, _, _, b_B, rfl⟩) ⟨⟨rfl, rfl⟩, ⟨(Nat.le_of_ble_eq_true rfl), (Nat.le_of_ble_eq_true rfl)⟩, ⟨(Nat.le_of_ble_eq_true rfl), (Nat.le_of_ble_eq_true rfl)⟩⟩ rfl rfl (Nat.le_of_ble_eq_true rfl) dL_crossings_4) (fun E hh n1 hx => ?_) (fun r hh n1 hpp => ?_)
  · obtain ⟨hx0, hx1, hx2, hx3⟩ := hx
    rw [if_neg hx0] at hF
    subst hx1
    replace hx2 : hh = h := hx2
    subst hx2
    by_cases d1 : y1.1 = (1 : Int32)
    · rw [if_pos d1] at hF
      rw [show rx_ex y1.1 = rx_E1 by rw [d1]; rfl]
      refine rx_catch C htab [] 0 9 12 19 [] rfl (fun z hz => absurd hz List.not_mem_nil) (by decide) (by decide) xl_19 xc_1 (fun q9 => ?_)
      refine rx_astore_n C dL_crossings_12 (by decide) [(3, .ref q9), (0, .ref b), (1, .int x1), (2, .ref lo)] rfl ?_
      refine rx_iconst C dL_crossings_13 (1 : Int32) (by decide) ?_
      obtain rfl := Option.some.inj hF
      exact rx_xret (rx_iret C dL_crossings_14 (Nat.le_of_ble_eq_true rfl) (Nat.le_of_ble_eq_true rfl) ⟨rfl, hx3, b_L, fr⟩)
    · rw [if_neg d1] at hF
      by_cases d2 : y1.1 = (2 : Int32)
      · rw [if_pos d2] at hF
        cases hF
      · rw [if_neg d2] at hF
        cases hF
  obtain ⟨hz0_y1, rfl, hu⟩ := hpp
  cases hu
  rw [if_pos hz0_y1] at hF
  refine rx_i2l C dL_crossings_7 ?_
  replace hF := rx_leE hF; obtain ⟨o_L_2, e_o_L_2, hF⟩ := hF
  refine rx_aL C dL_crossings_8 b_L e_o_L_2 (fun hh c_L ff => ?_)
  replace b_L := c_L
  replace b_B := b_B.keep ff ⟨s_B_L, trivial⟩
  replace b_s := b_s.keep ff ⟨s_s_L, trivial⟩
  replace b_p := b_p.keep ff ⟨s_p_L, trivial⟩
  replace fr := rx_frt fr ff (fun a ha => ⟨ha.1, trivial⟩)
  refine rx_goto C dL_crossings_9 15 (by decide) ?_
  refine rx_iconst C dL_crossings_15 (0 : Int32) (by decide) ?_
  obtain rfl := Option.some.inj hF
  exact rx_xret (rx_iret C dL_crossings_16 (Nat.le_of_ble_eq_true rfl) (Nat.le_of_ble_eq_true rfl) ⟨rfl, Nat.le_refl _, b_L, fr⟩)
def F_L_bowTo (oB : ob) (os : ob) (op : ob) (oL : (Nat → Int64)) (x1 : Int32) (x2 : Int32) : Option (Int32 × (Nat → Int64)) := (F_X8_bowTo oB os op x1 x2).bind fun y1 => if y1.1 = (0 : Int32) then (rx_le (vp_updL oL 0 y1.2.toInt64) fun o_L_2 => some ((0 : Int32), o_L_2)) else (if y1.1 = (1 : Int32) then (some ((1 : Int32), oL)) else (if y1.1 = (2 : Int32) then (some ((2 : Int32), oL)) else (none)))
set_option maxRecDepth 100000 in
set_option maxHeartbeats 4000000 in
theorem w_L_bowTo {b lo : Nat} {oB : ob} {os : ob} {op : ob} {oL : (Nat → Int64)} {x1 : Int32} {x2 : Int32} {y : Int32 × (Nat → Int64)} (hst : l.stackTraces = false) (hF : F_L_bowTo oB os op oL x1 x2 = some y) (b_B : bB k b oB h) (b_s : bS k (b + 12) os h) (b_p : bP k (b + 21) (b + 12) op h) (b_L : bL k lo oL h) (hd0 : b + 204 ≤ lo ∨ lo + 1 ≤ b) : vx_Met l yL_bowTo (rx_wsH yL_bowTo cL_bowTo 5 (some .int) [(0, 10, 13, 19), (0, 10, 17, 13)]) (rx_rmX 8 125 3 18) (va_Pc [.ref b, .int x1, .int x2, .ref lo] (rx_GN G k h n)) (va_Qi (fun r u => y.1 = r ∧ n ≤ u.2 ∧ bL k lo y.2 u.1 ∧ rx_fr [(lo, 1)] h u.1) (rx_B G k) (rx_A k)) (rx_XC G k (fun _ _ => False)) 3 18 (rx_A k) := by
  have s_B_L : b + 1 ≤ lo ∨ lo + 1 ≤ b := by omega
  have s_s_L : b + 12 + 9 ≤ lo ∨ lo + 1 ≤ b + 12 := by omega
  have s_p_L : b + 21 + 10 ≤ lo ∨ lo + 1 ≤ b + 21 := by omega
  refine rx_startH [(0, .ref b), (1, .int x1), (2, .int x2), (3, .ref lo)] rfl (Nat.le_of_ble_eq_true rfl) (by decide) (fun P9 E9 S9 M9 A9 B9 me9 c9 C htab hN => ?_)
  unfold F_L_bowTo at hF
  have fr : rx_fr [(lo, 1)] h h := rx_fr0
  refine rx_aload_n C dL_bowTo_0 3 rfl ?_
  refine rx_iconst C dL_bowTo_1 (0 : Int32) (by decide) ?_
  refine rx_aload_n C dL_bowTo_2 0 rfl ?_
  refine rx_iload_n C dL_bowTo_3 1 rfl ?_
  refine rx_iload_n C dL_bowTo_4 2 rfl ?_
  replace hF := rx_biE hF; obtain ⟨y1, e_y1, hF⟩ := hF
  refine rx_xci (rx_rVX C (w_X8_bowTo hst e_y1 b_B b_s b_p) Y_X8_bowTo V_X8_bowTo m_L_42 (Or.inl ⟨_, _, _, _, b_B, rfl⟩) ⟨⟨rfl, rfl⟩, ⟨(Nat.le_of_ble_eq_true rfl), (Nat.le_of_ble_eq_true rfl)⟩, ⟨(Nat.le_of_ble_eq_true rfl), (Nat.le_of_ble_eq_true rfl)⟩⟩ rfl rfl (Nat.le_of_ble_eq_true rfl) dL_bowTo_5) (fun E hh n1 hx => ?_) (fun r hh n1 hpp => ?_)
  · obtain ⟨hx0, hx1, hx2, hx3⟩ := hx
    rw [if_neg hx0] at hF
    subst hx1
    replace hx2 : hh = h := hx2
    subst hx2
    by_cases d1 : y1.1 = (1 : Int32)
    · rw [if_pos d1] at hF
      rw [show rx_ex y1.1 = rx_E1 by rw [d1]; rfl]
      refine rx_catch C htab [] 0 10 13 19 [(0, 10, 17, 13)] rfl (fun z hz => absurd hz List.not_mem_nil) (by decide) (by decide) xl_19 xc_1 (fun q9 => ?_)
      refine rx_astore C dL_bowTo_13 (by decide) [(4, .ref q9), (0, .ref b), (1, .int x1), (2, .int x2), (3, .ref lo)] rfl ?_
      refine rx_iconst C dL_bowTo_15 (1 : Int32) (by decide) ?_
      obtain rfl := Option.some.inj hF
      exact rx_xret (rx_iret C dL_bowTo_16 (Nat.le_of_ble_eq_true rfl) (Nat.le_of_ble_eq_true rfl) ⟨rfl, hx3, b_L, fr⟩)
    · rw [if_neg d1] at hF
      by_cases d2 : y1.1 = (2 : Int32)
      · rw [if_pos d2] at hF
        rw [show rx_ex y1.1 = rx_E2 by rw [d2]; rfl]
        refine rx_catch C htab [(0, 10, 13, 19)] 0 10 17 13 [] rfl (fun z hz => by
          simp only [List.mem_cons, List.not_mem_nil, or_false] at hz
          rcases hz with rfl
          · exact ⟨by decide, _, xl_19, hN.2.2.1⟩) (by decide) (by decide) xl_13 xc_2 (fun q9 => ?_)
        refine rx_astore C dL_bowTo_17 (by decide) [(4, .ref q9), (0, .ref b), (1, .int x1), (2, .int x2), (3, .ref lo)] rfl ?_
        refine rx_iconst C dL_bowTo_19 (2 : Int32) (by decide) ?_
        obtain rfl := Option.some.inj hF
        exact rx_xret (rx_iret C dL_bowTo_20 (Nat.le_of_ble_eq_true rfl) (Nat.le_of_ble_eq_true rfl) ⟨rfl, hx3, b_L, fr⟩)
      · rw [if_neg d2] at hF
        cases hF
  obtain ⟨hz0_y1, rfl, hu⟩ := hpp
  cases hu
  rw [if_pos hz0_y1] at hF
  refine rx_i2l C dL_bowTo_8 ?_
  replace hF := rx_leE hF; obtain ⟨o_L_2, e_o_L_2, hF⟩ := hF
  refine rx_aL C dL_bowTo_9 b_L e_o_L_2 (fun hh c_L ff => ?_)
  replace b_L := c_L
  replace b_B := b_B.keep ff ⟨s_B_L, trivial⟩
  replace b_s := b_s.keep ff ⟨s_s_L, trivial⟩
  replace b_p := b_p.keep ff ⟨s_p_L, trivial⟩
  replace fr := rx_frt fr ff (fun a ha => ⟨ha.1, trivial⟩)
  refine rx_goto C dL_bowTo_10 21 (by decide) ?_
  refine rx_iconst C dL_bowTo_21 (0 : Int32) (by decide) ?_
  obtain rfl := Option.some.inj hF
  exact rx_xret (rx_iret C dL_bowTo_22 (Nat.le_of_ble_eq_true rfl) (Nat.le_of_ble_eq_true rfl) ⟨rfl, Nat.le_refl _, b_L, fr⟩)
def F_L_bowToKeeper (oB : ob) (os : ob) (op : ob) (oL : (Nat → Int64)) (x1 : Int32) : Option (Int32 × (Nat → Int64)) := (F_X8_bowToKeeper oB os op x1).bind fun y1 => if y1.1 = (0 : Int32) then (rx_le (vp_updL oL 0 y1.2.toInt64) fun o_L_2 => some ((0 : Int32), o_L_2)) else (if y1.1 = (1 : Int32) then (some ((1 : Int32), oL)) else (if y1.1 = (2 : Int32) then (none) else (none)))
set_option maxRecDepth 100000 in
set_option maxHeartbeats 4000000 in
theorem w_L_bowToKeeper {b lo : Nat} {oB : ob} {os : ob} {op : ob} {oL : (Nat → Int64)} {x1 : Int32} {y : Int32 × (Nat → Int64)} (hst : l.stackTraces = false) (hF : F_L_bowToKeeper oB os op oL x1 = some y) (b_B : bB k b oB h) (b_s : bS k (b + 12) os h) (b_p : bP k (b + 21) (b + 12) op h) (b_L : bL k lo oL h) (hd0 : b + 204 ≤ lo ∨ lo + 1 ≤ b) : vx_Met l yL_bowToKeeper (rx_wsH yL_bowToKeeper cL_bowToKeeper 4 (some .int) [(0, 9, 12, 19)]) (rx_rmX 8 124 1 6) (va_Pc [.ref b, .int x1, .ref lo] (rx_GN G k h n)) (va_Qi (fun r u => y.1 = r ∧ n ≤ u.2 ∧ bL k lo y.2 u.1 ∧ rx_fr [(lo, 1)] h u.1) (rx_B G k) (rx_A k)) (rx_XC G k (fun _ _ => False)) 1 6 (rx_A k) := by
  have s_B_L : b + 1 ≤ lo ∨ lo + 1 ≤ b := by omega
  have s_s_L : b + 12 + 9 ≤ lo ∨ lo + 1 ≤ b + 12 := by omega
  have s_p_L : b + 21 + 10 ≤ lo ∨ lo + 1 ≤ b + 21 := by omega
  refine rx_startH [(0, .ref b), (1, .int x1), (2, .ref lo)] rfl (Nat.le_of_ble_eq_true rfl) (by decide) (fun P9 E9 S9 M9 A9 B9 me9 c9 C htab hN => ?_)
  unfold F_L_bowToKeeper at hF
  have fr : rx_fr [(lo, 1)] h h := rx_fr0
  refine rx_aload_n C dL_bowToKeeper_0 2 rfl ?_
  refine rx_iconst C dL_bowToKeeper_1 (0 : Int32) (by decide) ?_
  refine rx_aload_n C dL_bowToKeeper_2 0 rfl ?_
  refine rx_iload_n C dL_bowToKeeper_3 1 rfl ?_
  replace hF := rx_biE hF; obtain ⟨y1, e_y1, hF⟩ := hF
  refine rx_xci (rx_rVX C (w_X8_bowToKeeper hst e_y1 b_B b_s b_p) Y_X8_bowToKeeper V_X8_bowToKeeper m_L_46 (Or.inl ⟨_, _, _, _, b_B, rfl⟩) ⟨⟨rfl, rfl⟩, ⟨(Nat.le_of_ble_eq_true rfl), (Nat.le_of_ble_eq_true rfl)⟩, ⟨(Nat.le_of_ble_eq_true rfl), (Nat.le_of_ble_eq_true rfl)⟩⟩ rfl rfl (Nat.le_of_ble_eq_true rfl) dL_bowToKeeper_4) (fun E hh n1 hx => ?_) (fun r hh n1 hpp => ?_)
  · obtain ⟨hx0, hx1, hx2, hx3⟩ := hx
    rw [if_neg hx0] at hF
    subst hx1
    replace hx2 : hh = h := hx2
    subst hx2
    by_cases d1 : y1.1 = (1 : Int32)
    · rw [if_pos d1] at hF
      rw [show rx_ex y1.1 = rx_E1 by rw [d1]; rfl]
      refine rx_catch C htab [] 0 9 12 19 [] rfl (fun z hz => absurd hz List.not_mem_nil) (by decide) (by decide) xl_19 xc_1 (fun q9 => ?_)
      refine rx_astore_n C dL_bowToKeeper_12 (by decide) [(3, .ref q9), (0, .ref b), (1, .int x1), (2, .ref lo)] rfl ?_
      refine rx_iconst C dL_bowToKeeper_13 (1 : Int32) (by decide) ?_
      obtain rfl := Option.some.inj hF
      exact rx_xret (rx_iret C dL_bowToKeeper_14 (Nat.le_of_ble_eq_true rfl) (Nat.le_of_ble_eq_true rfl) ⟨rfl, hx3, b_L, fr⟩)
    · rw [if_neg d1] at hF
      by_cases d2 : y1.1 = (2 : Int32)
      · rw [if_pos d2] at hF
        cases hF
      · rw [if_neg d2] at hF
        cases hF
  obtain ⟨hz0_y1, rfl, hu⟩ := hpp
  cases hu
  rw [if_pos hz0_y1] at hF
  refine rx_i2l C dL_bowToKeeper_7 ?_
  replace hF := rx_leE hF; obtain ⟨o_L_2, e_o_L_2, hF⟩ := hF
  refine rx_aL C dL_bowToKeeper_8 b_L e_o_L_2 (fun hh c_L ff => ?_)
  replace b_L := c_L
  replace b_B := b_B.keep ff ⟨s_B_L, trivial⟩
  replace b_s := b_s.keep ff ⟨s_s_L, trivial⟩
  replace b_p := b_p.keep ff ⟨s_p_L, trivial⟩
  replace fr := rx_frt fr ff (fun a ha => ⟨ha.1, trivial⟩)
  refine rx_goto C dL_bowToKeeper_9 15 (by decide) ?_
  refine rx_iconst C dL_bowToKeeper_15 (0 : Int32) (by decide) ?_
  obtain rfl := Option.some.inj hF
  exact rx_xret (rx_iret C dL_bowToKeeper_16 (Nat.le_of_ble_eq_true rfl) (Nat.le_of_ble_eq_true rfl) ⟨rfl, Nat.le_refl _, b_L, fr⟩)
def F_L_isTakenForKing (oB : ob) (os : ob) (op : ob) (oL : (Nat → Int64)) (x1 : Int32) : Option (Int32 × (Nat → Int64)) := (F_X8_isTakenForKing oB os op x1).bind fun y1 => if y1.1 = (0 : Int32) then (if y1.2 = (0 : Int32) then (rx_le (vp_updL oL 0 ((0 : Int64))) fun o_L_3 => some ((0 : Int32), o_L_3)) else (rx_le (vp_updL oL 0 ((1 : Int64))) fun o_L_4 => some ((0 : Int32), o_L_4))) else (if y1.1 = (1 : Int32) then (some ((1 : Int32), oL)) else (if y1.1 = (2 : Int32) then (none) else (none)))
set_option maxRecDepth 100000 in
set_option maxHeartbeats 4000000 in
theorem w_L_isTakenForKing {b lo : Nat} {oB : ob} {os : ob} {op : ob} {oL : (Nat → Int64)} {x1 : Int32} {y : Int32 × (Nat → Int64)} (hst : l.stackTraces = false) (hF : F_L_isTakenForKing oB os op oL x1 = some y) (b_B : bB k b oB h) (b_s : bS k (b + 12) os h) (b_p : bP k (b + 21) (b + 12) op h) (b_L : bL k lo oL h) (hd0 : b + 204 ≤ lo ∨ lo + 1 ≤ b) : vx_Met l yL_isTakenForKing (rx_wsH yL_isTakenForKing cL_isTakenForKing 4 (some .int) [(0, 16, 19, 19)]) (rx_rmX 8 124 1 6) (va_Pc [.ref b, .int x1, .ref lo] (rx_GN G k h n)) (va_Qi (fun r u => y.1 = r ∧ n ≤ u.2 ∧ bL k lo y.2 u.1 ∧ rx_fr [(lo, 1)] h u.1) (rx_B G k) (rx_A k)) (rx_XC G k (fun _ _ => False)) 1 6 (rx_A k) := by
  have s_B_L : b + 1 ≤ lo ∨ lo + 1 ≤ b := by omega
  have s_s_L : b + 12 + 9 ≤ lo ∨ lo + 1 ≤ b + 12 := by omega
  have s_p_L : b + 21 + 10 ≤ lo ∨ lo + 1 ≤ b + 21 := by omega
  refine rx_startH [(0, .ref b), (1, .int x1), (2, .ref lo)] rfl (Nat.le_of_ble_eq_true rfl) (by decide) (fun P9 E9 S9 M9 A9 B9 me9 c9 C htab hN => ?_)
  unfold F_L_isTakenForKing at hF
  have fr : rx_fr [(lo, 1)] h h := rx_fr0
  refine rx_aload_n C dL_isTakenForKing_0 2 rfl ?_
  refine rx_iconst C dL_isTakenForKing_1 (0 : Int32) (by decide) ?_
  refine rx_aload_n C dL_isTakenForKing_2 0 rfl ?_
  refine rx_iload_n C dL_isTakenForKing_3 1 rfl ?_
  replace hF := rx_biE hF; obtain ⟨y1, e_y1, hF⟩ := hF
  refine rx_xci (rx_rVX C (w_X8_isTakenForKing hst e_y1 b_B b_s b_p) Y_X8_isTakenForKing V_X8_isTakenForKing m_L_49 (Or.inl ⟨_, _, _, _, b_B, rfl⟩) ⟨⟨rfl, rfl⟩, ⟨(Nat.le_of_ble_eq_true rfl), (Nat.le_of_ble_eq_true rfl)⟩, ⟨(Nat.le_of_ble_eq_true rfl), (Nat.le_of_ble_eq_true rfl)⟩⟩ rfl rfl (Nat.le_of_ble_eq_true rfl) dL_isTakenForKing_4) (fun E hh n1 hx => ?_) (fun r hh n1 hpp => ?_)
  · obtain ⟨hx0, hx1, hx2, hx3⟩ := hx
    rw [if_neg hx0] at hF
    subst hx1
    replace hx2 : hh = h := hx2
    subst hx2
    by_cases d1 : y1.1 = (1 : Int32)
    · rw [if_pos d1] at hF
      rw [show rx_ex y1.1 = rx_E1 by rw [d1]; rfl]
      refine rx_catch C htab [] 0 16 19 19 [] rfl (fun z hz => absurd hz List.not_mem_nil) (by decide) (by decide) xl_19 xc_1 (fun q9 => ?_)
      refine rx_astore_n C dL_isTakenForKing_19 (by decide) [(3, .ref q9), (0, .ref b), (1, .int x1), (2, .ref lo)] rfl ?_
      refine rx_iconst C dL_isTakenForKing_20 (1 : Int32) (by decide) ?_
      obtain rfl := Option.some.inj hF
      exact rx_xret (rx_iret C dL_isTakenForKing_21 (Nat.le_of_ble_eq_true rfl) (Nat.le_of_ble_eq_true rfl) ⟨rfl, hx3, b_L, fr⟩)
    · rw [if_neg d1] at hF
      by_cases d2 : y1.1 = (2 : Int32)
      · rw [if_pos d2] at hF
        cases hF
      · rw [if_neg d2] at hF
        cases hF
  obtain ⟨hz0_y1, rfl, bo_y1, hu⟩ := hpp
  cases hu
  rw [if_pos hz0_y1] at hF
  refine rx_if_eq C dL_isTakenForKing_7 14 (by decide) (fun c2 => ?_) (fun c2 => ?_)
  · rw [if_pos c2] at hF
    refine rx_lconst C dL_isTakenForKing_14 0 (by decide) ?_
    replace hF := rx_leE hF; obtain ⟨o_L_3, e_o_L_3, hF⟩ := hF
    refine rx_aL C dL_isTakenForKing_15 b_L e_o_L_3 (fun hh c_L ff => ?_)
    replace b_L := c_L
    replace b_B := b_B.keep ff ⟨s_B_L, trivial⟩
    replace b_s := b_s.keep ff ⟨s_s_L, trivial⟩
    replace b_p := b_p.keep ff ⟨s_p_L, trivial⟩
    replace fr := rx_frt fr ff (fun a ha => ⟨ha.1, trivial⟩)
    refine rx_goto C dL_isTakenForKing_16 22 (by decide) ?_
    refine rx_iconst C dL_isTakenForKing_22 (0 : Int32) (by decide) ?_
    obtain rfl := Option.some.inj hF
    exact rx_xret (rx_iret C dL_isTakenForKing_23 (Nat.le_of_ble_eq_true rfl) (Nat.le_of_ble_eq_true rfl) ⟨rfl, Nat.le_refl _, b_L, fr⟩)
  · rw [if_neg c2] at hF
    refine rx_lconst C dL_isTakenForKing_10 1 (by decide) ?_
    refine rx_goto C dL_isTakenForKing_11 15 (by decide) ?_
    replace hF := rx_leE hF; obtain ⟨o_L_4, e_o_L_4, hF⟩ := hF
    refine rx_aL C dL_isTakenForKing_15 b_L e_o_L_4 (fun hh c_L ff => ?_)
    replace b_L := c_L
    replace b_B := b_B.keep ff ⟨s_B_L, trivial⟩
    replace b_s := b_s.keep ff ⟨s_s_L, trivial⟩
    replace b_p := b_p.keep ff ⟨s_p_L, trivial⟩
    replace fr := rx_frt fr ff (fun a ha => ⟨ha.1, trivial⟩)
    refine rx_goto C dL_isTakenForKing_16 22 (by decide) ?_
    refine rx_iconst C dL_isTakenForKing_22 (0 : Int32) (by decide) ?_
    obtain rfl := Option.some.inj hF
    exact rx_xret (rx_iret C dL_isTakenForKing_23 (Nat.le_of_ble_eq_true rfl) (Nat.le_of_ble_eq_true rfl) ⟨rfl, Nat.le_refl _, b_L, fr⟩)
def F_L_tollOf (oB : ob) (os : ob) (op : ob) (oL : (Nat → Int64)) (x1 : Int32) : Option (Int32 × (Nat → Int64)) := (F_X8_tollOf oB os op x1).bind fun y1 => if y1.1 = (0 : Int32) then (rx_le (vp_updL oL 0 y1.2.toInt64) fun o_L_2 => some ((0 : Int32), o_L_2)) else (if y1.1 = (1 : Int32) then (some ((1 : Int32), oL)) else (if y1.1 = (2 : Int32) then (none) else (none)))
set_option maxRecDepth 100000 in
set_option maxHeartbeats 4000000 in
theorem w_L_tollOf {b lo : Nat} {oB : ob} {os : ob} {op : ob} {oL : (Nat → Int64)} {x1 : Int32} {y : Int32 × (Nat → Int64)} (hst : l.stackTraces = false) (hF : F_L_tollOf oB os op oL x1 = some y) (b_B : bB k b oB h) (b_s : bS k (b + 12) os h) (b_p : bP k (b + 21) (b + 12) op h) (b_L : bL k lo oL h) (hd0 : b + 204 ≤ lo ∨ lo + 1 ≤ b) : vx_Met l yL_tollOf (rx_wsH yL_tollOf cL_tollOf 4 (some .int) [(0, 9, 12, 19)]) (rx_rmX 8 124 1 6) (va_Pc [.ref b, .int x1, .ref lo] (rx_GN G k h n)) (va_Qi (fun r u => y.1 = r ∧ n ≤ u.2 ∧ bL k lo y.2 u.1 ∧ rx_fr [(lo, 1)] h u.1) (rx_B G k) (rx_A k)) (rx_XC G k (fun _ _ => False)) 1 6 (rx_A k) := by
  have s_B_L : b + 1 ≤ lo ∨ lo + 1 ≤ b := by omega
  have s_s_L : b + 12 + 9 ≤ lo ∨ lo + 1 ≤ b + 12 := by omega
  have s_p_L : b + 21 + 10 ≤ lo ∨ lo + 1 ≤ b + 21 := by omega
  refine rx_startH [(0, .ref b), (1, .int x1), (2, .ref lo)] rfl (Nat.le_of_ble_eq_true rfl) (by decide) (fun P9 E9 S9 M9 A9 B9 me9 c9 C htab hN => ?_)
  unfold F_L_tollOf at hF
  have fr : rx_fr [(lo, 1)] h h := rx_fr0
  refine rx_aload_n C dL_tollOf_0 2 rfl ?_
  refine rx_iconst C dL_tollOf_1 (0 : Int32) (by decide) ?_
  refine rx_aload_n C dL_tollOf_2 0 rfl ?_
  refine rx_iload_n C dL_tollOf_3 1 rfl ?_
  replace hF := rx_biE hF; obtain ⟨y1, e_y1, hF⟩ := hF
  refine rx_xci (rx_rVX C (w_X8_tollOf hst e_y1 b_B b_s b_p) Y_X8_tollOf V_X8_tollOf m_L_52 (Or.inl ⟨_, _, _, _, b_B, rfl⟩) ⟨⟨rfl, rfl⟩, ⟨(Nat.le_of_ble_eq_true rfl), (Nat.le_of_ble_eq_true rfl)⟩, ⟨(Nat.le_of_ble_eq_true rfl), (Nat.le_of_ble_eq_true rfl)⟩⟩ rfl rfl (Nat.le_of_ble_eq_true rfl) dL_tollOf_4) (fun E hh n1 hx => ?_) (fun r hh n1 hpp => ?_)
  · obtain ⟨hx0, hx1, hx2, hx3⟩ := hx
    rw [if_neg hx0] at hF
    subst hx1
    replace hx2 : hh = h := hx2
    subst hx2
    by_cases d1 : y1.1 = (1 : Int32)
    · rw [if_pos d1] at hF
      rw [show rx_ex y1.1 = rx_E1 by rw [d1]; rfl]
      refine rx_catch C htab [] 0 9 12 19 [] rfl (fun z hz => absurd hz List.not_mem_nil) (by decide) (by decide) xl_19 xc_1 (fun q9 => ?_)
      refine rx_astore_n C dL_tollOf_12 (by decide) [(3, .ref q9), (0, .ref b), (1, .int x1), (2, .ref lo)] rfl ?_
      refine rx_iconst C dL_tollOf_13 (1 : Int32) (by decide) ?_
      obtain rfl := Option.some.inj hF
      exact rx_xret (rx_iret C dL_tollOf_14 (Nat.le_of_ble_eq_true rfl) (Nat.le_of_ble_eq_true rfl) ⟨rfl, hx3, b_L, fr⟩)
    · rw [if_neg d1] at hF
      by_cases d2 : y1.1 = (2 : Int32)
      · rw [if_pos d2] at hF
        cases hF
      · rw [if_neg d2] at hF
        cases hF
  obtain ⟨hz0_y1, rfl, hu⟩ := hpp
  cases hu
  rw [if_pos hz0_y1] at hF
  refine rx_i2l C dL_tollOf_7 ?_
  replace hF := rx_leE hF; obtain ⟨o_L_2, e_o_L_2, hF⟩ := hF
  refine rx_aL C dL_tollOf_8 b_L e_o_L_2 (fun hh c_L ff => ?_)
  replace b_L := c_L
  replace b_B := b_B.keep ff ⟨s_B_L, trivial⟩
  replace b_s := b_s.keep ff ⟨s_s_L, trivial⟩
  replace b_p := b_p.keep ff ⟨s_p_L, trivial⟩
  replace fr := rx_frt fr ff (fun a ha => ⟨ha.1, trivial⟩)
  refine rx_goto C dL_tollOf_9 15 (by decide) ?_
  refine rx_iconst C dL_tollOf_15 (0 : Int32) (by decide) ?_
  obtain rfl := Option.some.inj hF
  exact rx_xret (rx_iret C dL_tollOf_16 (Nat.le_of_ble_eq_true rfl) (Nat.le_of_ble_eq_true rfl) ⟨rfl, Nat.le_refl _, b_L, fr⟩)
def F_L_cheapestRags (oB : ob) (os : ob) (op : ob) (oL : (Nat → Int64)) (x1 : Int32) : Option (Int32 × (Nat → Int64)) := (F_X8_cheapestRags oB os op x1).bind fun y1 => if y1.1 = (0 : Int32) then (rx_le (vp_updL oL 0 y1.2.toInt64) fun o_L_2 => some ((0 : Int32), o_L_2)) else (if y1.1 = (1 : Int32) then (some ((1 : Int32), oL)) else (if y1.1 = (2 : Int32) then (none) else (none)))
set_option maxRecDepth 100000 in
set_option maxHeartbeats 4000000 in
theorem w_L_cheapestRags {b lo : Nat} {oB : ob} {os : ob} {op : ob} {oL : (Nat → Int64)} {x1 : Int32} {y : Int32 × (Nat → Int64)} (hst : l.stackTraces = false) (hF : F_L_cheapestRags oB os op oL x1 = some y) (b_B : bB k b oB h) (b_s : bS k (b + 12) os h) (b_p : bP k (b + 21) (b + 12) op h) (b_L : bL k lo oL h) (hd0 : b + 204 ≤ lo ∨ lo + 1 ≤ b) : vx_Met l yL_cheapestRags (rx_wsH yL_cheapestRags cL_cheapestRags 4 (some .int) [(0, 9, 12, 19)]) (rx_rmX 8 124 1 6) (va_Pc [.ref b, .int x1, .ref lo] (rx_GN G k h n)) (va_Qi (fun r u => y.1 = r ∧ n ≤ u.2 ∧ bL k lo y.2 u.1 ∧ rx_fr [(lo, 1)] h u.1) (rx_B G k) (rx_A k)) (rx_XC G k (fun _ _ => False)) 1 6 (rx_A k) := by
  have s_B_L : b + 1 ≤ lo ∨ lo + 1 ≤ b := by omega
  have s_s_L : b + 12 + 9 ≤ lo ∨ lo + 1 ≤ b + 12 := by omega
  have s_p_L : b + 21 + 10 ≤ lo ∨ lo + 1 ≤ b + 21 := by omega
  refine rx_startH [(0, .ref b), (1, .int x1), (2, .ref lo)] rfl (Nat.le_of_ble_eq_true rfl) (by decide) (fun P9 E9 S9 M9 A9 B9 me9 c9 C htab hN => ?_)
  unfold F_L_cheapestRags at hF
  have fr : rx_fr [(lo, 1)] h h := rx_fr0
  refine rx_aload_n C dL_cheapestRags_0 2 rfl ?_
  refine rx_iconst C dL_cheapestRags_1 (0 : Int32) (by decide) ?_
  refine rx_aload_n C dL_cheapestRags_2 0 rfl ?_
  refine rx_iload_n C dL_cheapestRags_3 1 rfl ?_
  replace hF := rx_biE hF; obtain ⟨y1, e_y1, hF⟩ := hF
  refine rx_xci (rx_rVX C (w_X8_cheapestRags hst e_y1 b_B b_s b_p) Y_X8_cheapestRags V_X8_cheapestRags m_L_55 (Or.inl ⟨_, _, _, _, b_B, rfl⟩) ⟨⟨rfl, rfl⟩, ⟨(Nat.le_of_ble_eq_true rfl), (Nat.le_of_ble_eq_true rfl)⟩, ⟨(Nat.le_of_ble_eq_true rfl), (Nat.le_of_ble_eq_true rfl)⟩⟩ rfl rfl (Nat.le_of_ble_eq_true rfl) dL_cheapestRags_4) (fun E hh n1 hx => ?_) (fun r hh n1 hpp => ?_)
  · obtain ⟨hx0, hx1, hx2, hx3⟩ := hx
    rw [if_neg hx0] at hF
    subst hx1
    replace hx2 : hh = h := hx2
    subst hx2
    by_cases d1 : y1.1 = (1 : Int32)
    · rw [if_pos d1] at hF
      rw [show rx_ex y1.1 = rx_E1 by rw [d1]; rfl]
      refine rx_catch C htab [] 0 9 12 19 [] rfl (fun z hz => absurd hz List.not_mem_nil) (by decide) (by decide) xl_19 xc_1 (fun q9 => ?_)
      refine rx_astore_n C dL_cheapestRags_12 (by decide) [(3, .ref q9), (0, .ref b), (1, .int x1), (2, .ref lo)] rfl ?_
      refine rx_iconst C dL_cheapestRags_13 (1 : Int32) (by decide) ?_
      obtain rfl := Option.some.inj hF
      exact rx_xret (rx_iret C dL_cheapestRags_14 (Nat.le_of_ble_eq_true rfl) (Nat.le_of_ble_eq_true rfl) ⟨rfl, hx3, b_L, fr⟩)
    · rw [if_neg d1] at hF
      by_cases d2 : y1.1 = (2 : Int32)
      · rw [if_pos d2] at hF
        cases hF
      · rw [if_neg d2] at hF
        cases hF
  obtain ⟨hz0_y1, rfl, hu⟩ := hpp
  cases hu
  rw [if_pos hz0_y1] at hF
  refine rx_i2l C dL_cheapestRags_7 ?_
  replace hF := rx_leE hF; obtain ⟨o_L_2, e_o_L_2, hF⟩ := hF
  refine rx_aL C dL_cheapestRags_8 b_L e_o_L_2 (fun hh c_L ff => ?_)
  replace b_L := c_L
  replace b_B := b_B.keep ff ⟨s_B_L, trivial⟩
  replace b_s := b_s.keep ff ⟨s_s_L, trivial⟩
  replace b_p := b_p.keep ff ⟨s_p_L, trivial⟩
  replace fr := rx_frt fr ff (fun a ha => ⟨ha.1, trivial⟩)
  refine rx_goto C dL_cheapestRags_9 15 (by decide) ?_
  refine rx_iconst C dL_cheapestRags_15 (0 : Int32) (by decide) ?_
  obtain rfl := Option.some.inj hF
  exact rx_xret (rx_iret C dL_cheapestRags_16 (Nat.le_of_ble_eq_true rfl) (Nat.le_of_ble_eq_true rfl) ⟨rfl, Nat.le_refl _, b_L, fr⟩)
def F_L_royalHolder (oB : ob) (os : ob) (op : ob) (oL : (Nat → Int64)) (x1 : Int32) : Option (Int32 × (Nat → Int64)) := (F_X8_royalHolder oB os op x1).bind fun y1 => if y1.1 = (0 : Int32) then (rx_le (vp_updL oL 0 y1.2.toInt64) fun o_L_2 => some ((0 : Int32), o_L_2)) else (if y1.1 = (1 : Int32) then (some ((1 : Int32), oL)) else (if y1.1 = (2 : Int32) then (some ((2 : Int32), oL)) else (none)))
set_option maxRecDepth 100000 in
set_option maxHeartbeats 4000000 in
theorem w_L_royalHolder {b lo : Nat} {oB : ob} {os : ob} {op : ob} {oL : (Nat → Int64)} {x1 : Int32} {y : Int32 × (Nat → Int64)} (hst : l.stackTraces = false) (hF : F_L_royalHolder oB os op oL x1 = some y) (b_B : bB k b oB h) (b_s : bS k (b + 12) os h) (b_p : bP k (b + 21) (b + 12) op h) (b_L : bL k lo oL h) (hd0 : b + 204 ≤ lo ∨ lo + 1 ≤ b) : vx_Met l yL_royalHolder (rx_wsH yL_royalHolder cL_royalHolder 4 (some .int) [(0, 9, 12, 19), (0, 9, 15, 13)]) (rx_rmX 9 145 2 12) (va_Pc [.ref b, .int x1, .ref lo] (rx_GN G k h n)) (va_Qi (fun r u => y.1 = r ∧ n ≤ u.2 ∧ bL k lo y.2 u.1 ∧ rx_fr [(lo, 1)] h u.1) (rx_B G k) (rx_A k)) (rx_XC G k (fun _ _ => False)) 2 12 (rx_A k) := by
  have s_B_L : b + 1 ≤ lo ∨ lo + 1 ≤ b := by omega
  have s_s_L : b + 12 + 9 ≤ lo ∨ lo + 1 ≤ b + 12 := by omega
  have s_p_L : b + 21 + 10 ≤ lo ∨ lo + 1 ≤ b + 21 := by omega
  refine rx_startH [(0, .ref b), (1, .int x1), (2, .ref lo)] rfl (Nat.le_of_ble_eq_true rfl) (by decide) (fun P9 E9 S9 M9 A9 B9 me9 c9 C htab hN => ?_)
  unfold F_L_royalHolder at hF
  have fr : rx_fr [(lo, 1)] h h := rx_fr0
  refine rx_aload_n C dL_royalHolder_0 2 rfl ?_
  refine rx_iconst C dL_royalHolder_1 (0 : Int32) (by decide) ?_
  refine rx_aload_n C dL_royalHolder_2 0 rfl ?_
  refine rx_iload_n C dL_royalHolder_3 1 rfl ?_
  replace hF := rx_biE hF; obtain ⟨y1, e_y1, hF⟩ := hF
  refine rx_xci (rx_rVX C (w_X8_royalHolder hst e_y1 b_B b_s b_p) Y_X8_royalHolder V_X8_royalHolder m_L_58 (Or.inl ⟨_, _, _, _, b_B, rfl⟩) ⟨⟨rfl, rfl⟩, ⟨(Nat.le_of_ble_eq_true rfl), (Nat.le_of_ble_eq_true rfl)⟩, ⟨(Nat.le_of_ble_eq_true rfl), (Nat.le_of_ble_eq_true rfl)⟩⟩ rfl rfl (Nat.le_of_ble_eq_true rfl) dL_royalHolder_4) (fun E hh n1 hx => ?_) (fun r hh n1 hpp => ?_)
  · obtain ⟨hx0, hx1, hx2, hx3⟩ := hx
    rw [if_neg hx0] at hF
    subst hx1
    replace hx2 : hh = h := hx2
    subst hx2
    by_cases d1 : y1.1 = (1 : Int32)
    · rw [if_pos d1] at hF
      rw [show rx_ex y1.1 = rx_E1 by rw [d1]; rfl]
      refine rx_catch C htab [] 0 9 12 19 [(0, 9, 15, 13)] rfl (fun z hz => absurd hz List.not_mem_nil) (by decide) (by decide) xl_19 xc_1 (fun q9 => ?_)
      refine rx_astore_n C dL_royalHolder_12 (by decide) [(3, .ref q9), (0, .ref b), (1, .int x1), (2, .ref lo)] rfl ?_
      refine rx_iconst C dL_royalHolder_13 (1 : Int32) (by decide) ?_
      obtain rfl := Option.some.inj hF
      exact rx_xret (rx_iret C dL_royalHolder_14 (Nat.le_of_ble_eq_true rfl) (Nat.le_of_ble_eq_true rfl) ⟨rfl, hx3, b_L, fr⟩)
    · rw [if_neg d1] at hF
      by_cases d2 : y1.1 = (2 : Int32)
      · rw [if_pos d2] at hF
        rw [show rx_ex y1.1 = rx_E2 by rw [d2]; rfl]
        refine rx_catch C htab [(0, 9, 12, 19)] 0 9 15 13 [] rfl (fun z hz => by
          simp only [List.mem_cons, List.not_mem_nil, or_false] at hz
          rcases hz with rfl
          · exact ⟨by decide, _, xl_19, hN.2.2.1⟩) (by decide) (by decide) xl_13 xc_2 (fun q9 => ?_)
        refine rx_astore_n C dL_royalHolder_15 (by decide) [(3, .ref q9), (0, .ref b), (1, .int x1), (2, .ref lo)] rfl ?_
        refine rx_iconst C dL_royalHolder_16 (2 : Int32) (by decide) ?_
        obtain rfl := Option.some.inj hF
        exact rx_xret (rx_iret C dL_royalHolder_17 (Nat.le_of_ble_eq_true rfl) (Nat.le_of_ble_eq_true rfl) ⟨rfl, hx3, b_L, fr⟩)
      · rw [if_neg d2] at hF
        cases hF
  obtain ⟨hz0_y1, rfl, hu⟩ := hpp
  cases hu
  rw [if_pos hz0_y1] at hF
  refine rx_i2l C dL_royalHolder_7 ?_
  replace hF := rx_leE hF; obtain ⟨o_L_2, e_o_L_2, hF⟩ := hF
  refine rx_aL C dL_royalHolder_8 b_L e_o_L_2 (fun hh c_L ff => ?_)
  replace b_L := c_L
  replace b_B := b_B.keep ff ⟨s_B_L, trivial⟩
  replace b_s := b_s.keep ff ⟨s_s_L, trivial⟩
  replace b_p := b_p.keep ff ⟨s_p_L, trivial⟩
  replace fr := rx_frt fr ff (fun a ha => ⟨ha.1, trivial⟩)
  refine rx_goto C dL_royalHolder_9 18 (by decide) ?_
  refine rx_iconst C dL_royalHolder_18 (0 : Int32) (by decide) ?_
  obtain rfl := Option.some.inj hF
  exact rx_xret (rx_iret C dL_royalHolder_19 (Nat.le_of_ble_eq_true rfl) (Nat.le_of_ble_eq_true rfl) ⟨rfl, Nat.le_refl _, b_L, fr⟩)
def F_L_isRoyalCoinEast (oB : ob) (os : ob) (op : ob) (oL : (Nat → Int64)) (x1 : Int32) : Option (Int32 × (Nat → Int64)) := (F_X8_isRoyalCoinEast oB os op x1).bind fun y1 => if y1.1 = (0 : Int32) then (if y1.2 = (0 : Int32) then (rx_le (vp_updL oL 0 ((0 : Int64))) fun o_L_3 => some ((0 : Int32), o_L_3)) else (rx_le (vp_updL oL 0 ((1 : Int64))) fun o_L_4 => some ((0 : Int32), o_L_4))) else (if y1.1 = (1 : Int32) then (some ((1 : Int32), oL)) else (if y1.1 = (2 : Int32) then (some ((2 : Int32), oL)) else (none)))
set_option maxRecDepth 100000 in
set_option maxHeartbeats 4000000 in
theorem w_L_isRoyalCoinEast {b lo : Nat} {oB : ob} {os : ob} {op : ob} {oL : (Nat → Int64)} {x1 : Int32} {y : Int32 × (Nat → Int64)} (hst : l.stackTraces = false) (hF : F_L_isRoyalCoinEast oB os op oL x1 = some y) (b_B : bB k b oB h) (b_s : bS k (b + 12) os h) (b_p : bP k (b + 21) (b + 12) op h) (b_L : bL k lo oL h) (hd0 : b + 204 ≤ lo ∨ lo + 1 ≤ b) : vx_Met l yL_isRoyalCoinEast (rx_wsH yL_isRoyalCoinEast cL_isRoyalCoinEast 4 (some .int) [(0, 16, 19, 19), (0, 16, 22, 13)]) (rx_rmX 9 145 2 12) (va_Pc [.ref b, .int x1, .ref lo] (rx_GN G k h n)) (va_Qi (fun r u => y.1 = r ∧ n ≤ u.2 ∧ bL k lo y.2 u.1 ∧ rx_fr [(lo, 1)] h u.1) (rx_B G k) (rx_A k)) (rx_XC G k (fun _ _ => False)) 2 12 (rx_A k) := by
  have s_B_L : b + 1 ≤ lo ∨ lo + 1 ≤ b := by omega
  have s_s_L : b + 12 + 9 ≤ lo ∨ lo + 1 ≤ b + 12 := by omega
  have s_p_L : b + 21 + 10 ≤ lo ∨ lo + 1 ≤ b + 21 := by omega
  refine rx_startH [(0, .ref b), (1, .int x1), (2, .ref lo)] rfl (Nat.le_of_ble_eq_true rfl) (by decide) (fun P9 E9 S9 M9 A9 B9 me9 c9 C htab hN => ?_)
  unfold F_L_isRoyalCoinEast at hF
  have fr : rx_fr [(lo, 1)] h h := rx_fr0
  refine rx_aload_n C dL_isRoyalCoinEast_0 2 rfl ?_
  refine rx_iconst C dL_isRoyalCoinEast_1 (0 : Int32) (by decide) ?_
  refine rx_aload_n C dL_isRoyalCoinEast_2 0 rfl ?_
  refine rx_iload_n C dL_isRoyalCoinEast_3 1 rfl ?_
  replace hF := rx_biE hF; obtain ⟨y1, e_y1, hF⟩ := hF
  refine rx_xci (rx_rVX C (w_X8_isRoyalCoinEast hst e_y1 b_B b_s b_p) Y_X8_isRoyalCoinEast V_X8_isRoyalCoinEast m_L_61 (Or.inl ⟨_, _, _, _, b_B, rfl⟩) ⟨⟨rfl, rfl⟩, ⟨(Nat.le_of_ble_eq_true rfl), (Nat.le_of_ble_eq_true rfl)⟩, ⟨(Nat.le_of_ble_eq_true rfl), (Nat.le_of_ble_eq_true rfl)⟩⟩ rfl rfl (Nat.le_of_ble_eq_true rfl) dL_isRoyalCoinEast_4) (fun E hh n1 hx => ?_) (fun r hh n1 hpp => ?_)
  · obtain ⟨hx0, hx1, hx2, hx3⟩ := hx
    rw [if_neg hx0] at hF
    subst hx1
    replace hx2 : hh = h := hx2
    subst hx2
    by_cases d1 : y1.1 = (1 : Int32)
    · rw [if_pos d1] at hF
      rw [show rx_ex y1.1 = rx_E1 by rw [d1]; rfl]
      refine rx_catch C htab [] 0 16 19 19 [(0, 16, 22, 13)] rfl (fun z hz => absurd hz List.not_mem_nil) (by decide) (by decide) xl_19 xc_1 (fun q9 => ?_)
      refine rx_astore_n C dL_isRoyalCoinEast_19 (by decide) [(3, .ref q9), (0, .ref b), (1, .int x1), (2, .ref lo)] rfl ?_
      refine rx_iconst C dL_isRoyalCoinEast_20 (1 : Int32) (by decide) ?_
      obtain rfl := Option.some.inj hF
      exact rx_xret (rx_iret C dL_isRoyalCoinEast_21 (Nat.le_of_ble_eq_true rfl) (Nat.le_of_ble_eq_true rfl) ⟨rfl, hx3, b_L, fr⟩)
    · rw [if_neg d1] at hF
      by_cases d2 : y1.1 = (2 : Int32)
      · rw [if_pos d2] at hF
        rw [show rx_ex y1.1 = rx_E2 by rw [d2]; rfl]
        refine rx_catch C htab [(0, 16, 19, 19)] 0 16 22 13 [] rfl (fun z hz => by
          simp only [List.mem_cons, List.not_mem_nil, or_false] at hz
          rcases hz with rfl
          · exact ⟨by decide, _, xl_19, hN.2.2.1⟩) (by decide) (by decide) xl_13 xc_2 (fun q9 => ?_)
        refine rx_astore_n C dL_isRoyalCoinEast_22 (by decide) [(3, .ref q9), (0, .ref b), (1, .int x1), (2, .ref lo)] rfl ?_
        refine rx_iconst C dL_isRoyalCoinEast_23 (2 : Int32) (by decide) ?_
        obtain rfl := Option.some.inj hF
        exact rx_xret (rx_iret C dL_isRoyalCoinEast_24 (Nat.le_of_ble_eq_true rfl) (Nat.le_of_ble_eq_true rfl) ⟨rfl, hx3, b_L, fr⟩)
      · rw [if_neg d2] at hF
        cases hF
  obtain ⟨hz0_y1, rfl, bo_y1, hu⟩ := hpp
  cases hu
  rw [if_pos hz0_y1] at hF
  refine rx_if_eq C dL_isRoyalCoinEast_7 14 (by decide) (fun c2 => ?_) (fun c2 => ?_)
  · rw [if_pos c2] at hF
    refine rx_lconst C dL_isRoyalCoinEast_14 0 (by decide) ?_
    replace hF := rx_leE hF; obtain ⟨o_L_3, e_o_L_3, hF⟩ := hF
    refine rx_aL C dL_isRoyalCoinEast_15 b_L e_o_L_3 (fun hh c_L ff => ?_)
    replace b_L := c_L
    replace b_B := b_B.keep ff ⟨s_B_L, trivial⟩
    replace b_s := b_s.keep ff ⟨s_s_L, trivial⟩
    replace b_p := b_p.keep ff ⟨s_p_L, trivial⟩
    replace fr := rx_frt fr ff (fun a ha => ⟨ha.1, trivial⟩)
    refine rx_goto C dL_isRoyalCoinEast_16 25 (by decide) ?_
    refine rx_iconst C dL_isRoyalCoinEast_25 (0 : Int32) (by decide) ?_
    obtain rfl := Option.some.inj hF
    exact rx_xret (rx_iret C dL_isRoyalCoinEast_26 (Nat.le_of_ble_eq_true rfl) (Nat.le_of_ble_eq_true rfl) ⟨rfl, Nat.le_refl _, b_L, fr⟩)
  · rw [if_neg c2] at hF
    refine rx_lconst C dL_isRoyalCoinEast_10 1 (by decide) ?_
    refine rx_goto C dL_isRoyalCoinEast_11 15 (by decide) ?_
    replace hF := rx_leE hF; obtain ⟨o_L_4, e_o_L_4, hF⟩ := hF
    refine rx_aL C dL_isRoyalCoinEast_15 b_L e_o_L_4 (fun hh c_L ff => ?_)
    replace b_L := c_L
    replace b_B := b_B.keep ff ⟨s_B_L, trivial⟩
    replace b_s := b_s.keep ff ⟨s_s_L, trivial⟩
    replace b_p := b_p.keep ff ⟨s_p_L, trivial⟩
    replace fr := rx_frt fr ff (fun a ha => ⟨ha.1, trivial⟩)
    refine rx_goto C dL_isRoyalCoinEast_16 25 (by decide) ?_
    refine rx_iconst C dL_isRoyalCoinEast_25 (0 : Int32) (by decide) ?_
    obtain rfl := Option.some.inj hF
    exact rx_xret (rx_iret C dL_isRoyalCoinEast_26 (Nat.le_of_ble_eq_true rfl) (Nat.le_of_ble_eq_true rfl) ⟨rfl, Nat.le_refl _, b_L, fr⟩)
def F_L_isCounted (oB : ob) (os : ob) (op : ob) (oL : (Nat → Int64)) (x1 : Int32) : Option (Int32 × (Nat → Int64)) := (F_X8_isCounted oB os op x1).bind fun y1 => if y1.1 = (0 : Int32) then (if y1.2 = (0 : Int32) then (rx_le (vp_updL oL 0 ((0 : Int64))) fun o_L_3 => some ((0 : Int32), o_L_3)) else (rx_le (vp_updL oL 0 ((1 : Int64))) fun o_L_4 => some ((0 : Int32), o_L_4))) else (if y1.1 = (1 : Int32) then (some ((1 : Int32), oL)) else (if y1.1 = (2 : Int32) then (some ((2 : Int32), oL)) else (none)))
set_option maxRecDepth 100000 in
set_option maxHeartbeats 4000000 in
theorem w_L_isCounted {b lo : Nat} {oB : ob} {os : ob} {op : ob} {oL : (Nat → Int64)} {x1 : Int32} {y : Int32 × (Nat → Int64)} (hst : l.stackTraces = false) (hF : F_L_isCounted oB os op oL x1 = some y) (b_B : bB k b oB h) (b_s : bS k (b + 12) os h) (b_p : bP k (b + 21) (b + 12) op h) (b_L : bL k lo oL h) (hd0 : b + 204 ≤ lo ∨ lo + 1 ≤ b) : vx_Met l yL_isCounted (rx_wsH yL_isCounted cL_isCounted 4 (some .int) [(0, 16, 19, 19), (0, 16, 22, 13)]) (rx_rmX 9 145 2 12) (va_Pc [.ref b, .int x1, .ref lo] (rx_GN G k h n)) (va_Qi (fun r u => y.1 = r ∧ n ≤ u.2 ∧ bL k lo y.2 u.1 ∧ rx_fr [(lo, 1)] h u.1) (rx_B G k) (rx_A k)) (rx_XC G k (fun _ _ => False)) 2 12 (rx_A k) := by
  have s_B_L : b + 1 ≤ lo ∨ lo + 1 ≤ b := by omega
  have s_s_L : b + 12 + 9 ≤ lo ∨ lo + 1 ≤ b + 12 := by omega
  have s_p_L : b + 21 + 10 ≤ lo ∨ lo + 1 ≤ b + 21 := by omega
  refine rx_startH [(0, .ref b), (1, .int x1), (2, .ref lo)] rfl (Nat.le_of_ble_eq_true rfl) (by decide) (fun P9 E9 S9 M9 A9 B9 me9 c9 C htab hN => ?_)
  unfold F_L_isCounted at hF
  have fr : rx_fr [(lo, 1)] h h := rx_fr0
  refine rx_aload_n C dL_isCounted_0 2 rfl ?_
  refine rx_iconst C dL_isCounted_1 (0 : Int32) (by decide) ?_
  refine rx_aload_n C dL_isCounted_2 0 rfl ?_
  refine rx_iload_n C dL_isCounted_3 1 rfl ?_
  replace hF := rx_biE hF; obtain ⟨y1, e_y1, hF⟩ := hF
  refine rx_xci (rx_rVX C (w_X8_isCounted hst e_y1 b_B b_s b_p) Y_X8_isCounted V_X8_isCounted m_L_64 (Or.inl ⟨_, _, _, _, b_B, rfl⟩) ⟨⟨rfl, rfl⟩, ⟨(Nat.le_of_ble_eq_true rfl), (Nat.le_of_ble_eq_true rfl)⟩, ⟨(Nat.le_of_ble_eq_true rfl), (Nat.le_of_ble_eq_true rfl)⟩⟩ rfl rfl (Nat.le_of_ble_eq_true rfl) dL_isCounted_4) (fun E hh n1 hx => ?_) (fun r hh n1 hpp => ?_)
  · obtain ⟨hx0, hx1, hx2, hx3⟩ := hx
    rw [if_neg hx0] at hF
    subst hx1
    replace hx2 : hh = h := hx2
    subst hx2
    by_cases d1 : y1.1 = (1 : Int32)
    · rw [if_pos d1] at hF
      rw [show rx_ex y1.1 = rx_E1 by rw [d1]; rfl]
      refine rx_catch C htab [] 0 16 19 19 [(0, 16, 22, 13)] rfl (fun z hz => absurd hz List.not_mem_nil) (by decide) (by decide) xl_19 xc_1 (fun q9 => ?_)
      refine rx_astore_n C dL_isCounted_19 (by decide) [(3, .ref q9), (0, .ref b), (1, .int x1), (2, .ref lo)] rfl ?_
      refine rx_iconst C dL_isCounted_20 (1 : Int32) (by decide) ?_
      obtain rfl := Option.some.inj hF
      exact rx_xret (rx_iret C dL_isCounted_21 (Nat.le_of_ble_eq_true rfl) (Nat.le_of_ble_eq_true rfl) ⟨rfl, hx3, b_L, fr⟩)
    · rw [if_neg d1] at hF
      by_cases d2 : y1.1 = (2 : Int32)
      · rw [if_pos d2] at hF
        rw [show rx_ex y1.1 = rx_E2 by rw [d2]; rfl]
        refine rx_catch C htab [(0, 16, 19, 19)] 0 16 22 13 [] rfl (fun z hz => by
          simp only [List.mem_cons, List.not_mem_nil, or_false] at hz
          rcases hz with rfl
          · exact ⟨by decide, _, xl_19, hN.2.2.1⟩) (by decide) (by decide) xl_13 xc_2 (fun q9 => ?_)
        refine rx_astore_n C dL_isCounted_22 (by decide) [(3, .ref q9), (0, .ref b), (1, .int x1), (2, .ref lo)] rfl ?_
        refine rx_iconst C dL_isCounted_23 (2 : Int32) (by decide) ?_
        obtain rfl := Option.some.inj hF
        exact rx_xret (rx_iret C dL_isCounted_24 (Nat.le_of_ble_eq_true rfl) (Nat.le_of_ble_eq_true rfl) ⟨rfl, hx3, b_L, fr⟩)
      · rw [if_neg d2] at hF
        cases hF
  obtain ⟨hz0_y1, rfl, bo_y1, hu⟩ := hpp
  cases hu
  rw [if_pos hz0_y1] at hF
  refine rx_if_eq C dL_isCounted_7 14 (by decide) (fun c2 => ?_) (fun c2 => ?_)
  · rw [if_pos c2] at hF
    refine rx_lconst C dL_isCounted_14 0 (by decide) ?_
    replace hF := rx_leE hF; obtain ⟨o_L_3, e_o_L_3, hF⟩ := hF
    refine rx_aL C dL_isCounted_15 b_L e_o_L_3 (fun hh c_L ff => ?_)
    replace b_L := c_L
    replace b_B := b_B.keep ff ⟨s_B_L, trivial⟩
    replace b_s := b_s.keep ff ⟨s_s_L, trivial⟩
    replace b_p := b_p.keep ff ⟨s_p_L, trivial⟩
    replace fr := rx_frt fr ff (fun a ha => ⟨ha.1, trivial⟩)
    refine rx_goto C dL_isCounted_16 25 (by decide) ?_
    refine rx_iconst C dL_isCounted_25 (0 : Int32) (by decide) ?_
    obtain rfl := Option.some.inj hF
    exact rx_xret (rx_iret C dL_isCounted_26 (Nat.le_of_ble_eq_true rfl) (Nat.le_of_ble_eq_true rfl) ⟨rfl, Nat.le_refl _, b_L, fr⟩)
  · rw [if_neg c2] at hF
    refine rx_lconst C dL_isCounted_10 1 (by decide) ?_
    refine rx_goto C dL_isCounted_11 15 (by decide) ?_
    replace hF := rx_leE hF; obtain ⟨o_L_4, e_o_L_4, hF⟩ := hF
    refine rx_aL C dL_isCounted_15 b_L e_o_L_4 (fun hh c_L ff => ?_)
    replace b_L := c_L
    replace b_B := b_B.keep ff ⟨s_B_L, trivial⟩
    replace b_s := b_s.keep ff ⟨s_s_L, trivial⟩
    replace b_p := b_p.keep ff ⟨s_p_L, trivial⟩
    replace fr := rx_frt fr ff (fun a ha => ⟨ha.1, trivial⟩)
    refine rx_goto C dL_isCounted_16 25 (by decide) ?_
    refine rx_iconst C dL_isCounted_25 (0 : Int32) (by decide) ?_
    obtain rfl := Option.some.inj hF
    exact rx_xret (rx_iret C dL_isCounted_26 (Nat.le_of_ble_eq_true rfl) (Nat.le_of_ble_eq_true rfl) ⟨rfl, Nat.le_refl _, b_L, fr⟩)
def F_L_royalCoins (oB : ob) (os : ob) (op : ob) (oL : (Nat → Int64)) (x1 : Int32) : Option (Int32 × (Nat → Int64)) := (F_X8_royalCoins oB os op x1).bind fun y1 => if y1.1 = (0 : Int32) then (rx_le (vp_updL oL 0 y1.2.toInt64) fun o_L_2 => some ((0 : Int32), o_L_2)) else (if y1.1 = (1 : Int32) then (some ((1 : Int32), oL)) else (if y1.1 = (2 : Int32) then (none) else (none)))
set_option maxRecDepth 100000 in
set_option maxHeartbeats 4000000 in
theorem w_L_royalCoins {b lo : Nat} {oB : ob} {os : ob} {op : ob} {oL : (Nat → Int64)} {x1 : Int32} {y : Int32 × (Nat → Int64)} (hst : l.stackTraces = false) (hF : F_L_royalCoins oB os op oL x1 = some y) (b_B : bB k b oB h) (b_s : bS k (b + 12) os h) (b_p : bP k (b + 21) (b + 12) op h) (b_L : bL k lo oL h) (hd0 : b + 204 ≤ lo ∨ lo + 1 ≤ b) : vx_Met l yL_royalCoins (rx_wsH yL_royalCoins cL_royalCoins 4 (some .int) [(0, 9, 12, 19)]) (rx_rmX 8 124 1 6) (va_Pc [.ref b, .int x1, .ref lo] (rx_GN G k h n)) (va_Qi (fun r u => y.1 = r ∧ n ≤ u.2 ∧ bL k lo y.2 u.1 ∧ rx_fr [(lo, 1)] h u.1) (rx_B G k) (rx_A k)) (rx_XC G k (fun _ _ => False)) 1 6 (rx_A k) := by
  have s_B_L : b + 1 ≤ lo ∨ lo + 1 ≤ b := by omega
  have s_s_L : b + 12 + 9 ≤ lo ∨ lo + 1 ≤ b + 12 := by omega
  have s_p_L : b + 21 + 10 ≤ lo ∨ lo + 1 ≤ b + 21 := by omega
  refine rx_startH [(0, .ref b), (1, .int x1), (2, .ref lo)] rfl (Nat.le_of_ble_eq_true rfl) (by decide) (fun P9 E9 S9 M9 A9 B9 me9 c9 C htab hN => ?_)
  unfold F_L_royalCoins at hF
  have fr : rx_fr [(lo, 1)] h h := rx_fr0
  refine rx_aload_n C dL_royalCoins_0 2 rfl ?_
  refine rx_iconst C dL_royalCoins_1 (0 : Int32) (by decide) ?_
  refine rx_aload_n C dL_royalCoins_2 0 rfl ?_
  refine rx_iload_n C dL_royalCoins_3 1 rfl ?_
  replace hF := rx_biE hF; obtain ⟨y1, e_y1, hF⟩ := hF
  refine rx_xci (rx_rVX C (w_X8_royalCoins hst e_y1 b_B b_s b_p) Y_X8_royalCoins V_X8_royalCoins m_L_67 (Or.inl ⟨_, _, _, _, b_B, rfl⟩) ⟨⟨rfl, rfl⟩, ⟨(Nat.le_of_ble_eq_true rfl), (Nat.le_of_ble_eq_true rfl)⟩, ⟨(Nat.le_of_ble_eq_true rfl), (Nat.le_of_ble_eq_true rfl)⟩⟩ rfl rfl (Nat.le_of_ble_eq_true rfl) dL_royalCoins_4) (fun E hh n1 hx => ?_) (fun r hh n1 hpp => ?_)
  · obtain ⟨hx0, hx1, hx2, hx3⟩ := hx
    rw [if_neg hx0] at hF
    subst hx1
    replace hx2 : hh = h := hx2
    subst hx2
    by_cases d1 : y1.1 = (1 : Int32)
    · rw [if_pos d1] at hF
      rw [show rx_ex y1.1 = rx_E1 by rw [d1]; rfl]
      refine rx_catch C htab [] 0 9 12 19 [] rfl (fun z hz => absurd hz List.not_mem_nil) (by decide) (by decide) xl_19 xc_1 (fun q9 => ?_)
      refine rx_astore_n C dL_royalCoins_12 (by decide) [(3, .ref q9), (0, .ref b), (1, .int x1), (2, .ref lo)] rfl ?_
      refine rx_iconst C dL_royalCoins_13 (1 : Int32) (by decide) ?_
      obtain rfl := Option.some.inj hF
      exact rx_xret (rx_iret C dL_royalCoins_14 (Nat.le_of_ble_eq_true rfl) (Nat.le_of_ble_eq_true rfl) ⟨rfl, hx3, b_L, fr⟩)
    · rw [if_neg d1] at hF
      by_cases d2 : y1.1 = (2 : Int32)
      · rw [if_pos d2] at hF
        cases hF
      · rw [if_neg d2] at hF
        cases hF
  obtain ⟨hz0_y1, rfl, hu⟩ := hpp
  cases hu
  rw [if_pos hz0_y1] at hF
  refine rx_i2l C dL_royalCoins_7 ?_
  replace hF := rx_leE hF; obtain ⟨o_L_2, e_o_L_2, hF⟩ := hF
  refine rx_aL C dL_royalCoins_8 b_L e_o_L_2 (fun hh c_L ff => ?_)
  replace b_L := c_L
  replace b_B := b_B.keep ff ⟨s_B_L, trivial⟩
  replace b_s := b_s.keep ff ⟨s_s_L, trivial⟩
  replace b_p := b_p.keep ff ⟨s_p_L, trivial⟩
  replace fr := rx_frt fr ff (fun a ha => ⟨ha.1, trivial⟩)
  refine rx_goto C dL_royalCoins_9 15 (by decide) ?_
  refine rx_iconst C dL_royalCoins_15 (0 : Int32) (by decide) ?_
  obtain rfl := Option.some.inj hF
  exact rx_xret (rx_iret C dL_royalCoins_16 (Nat.le_of_ble_eq_true rfl) (Nat.le_of_ble_eq_true rfl) ⟨rfl, Nat.le_refl _, b_L, fr⟩)
def F_L_offer (oB : ob) (os : ob) (op : ob) (ow : ob) (oe : ob) (oL : (Nat → Int64)) (x1 : Int32) : Option (Int32 × (Nat → Int64)) := (F_X8_offer oB os op ow oe x1).bind fun y1 => if y1.1 = (0 : Int32) then (rx_le (vp_updL oL 0 y1.2.toInt64) fun o_L_2 => some ((0 : Int32), o_L_2)) else (if y1.1 = (1 : Int32) then (some ((1 : Int32), oL)) else (if y1.1 = (2 : Int32) then (none) else (none)))
set_option maxRecDepth 100000 in
set_option maxHeartbeats 4000000 in
theorem w_L_offer {b lo : Nat} {oB : ob} {os : ob} {op : ob} {ow : ob} {oe : ob} {oL : (Nat → Int64)} {x1 : Int32} {y : Int32 × (Nat → Int64)} (hst : l.stackTraces = false) (hF : F_L_offer oB os op ow oe oL x1 = some y) (b_B : bB k b oB h) (b_s : bS k (b + 12) os h) (b_p : bP k (b + 21) (b + 12) op h) (b_w : bQ k (b + 21 + 10) ow h) (b_e : bQ k (b + 21 + 13) oe h) (b_L : bL k lo oL h) (hd0 : b + 204 ≤ lo ∨ lo + 1 ≤ b) : vx_Met l yL_offer (rx_wsH yL_offer cL_offer 4 (some .int) [(0, 9, 12, 19)]) (rx_rmX 8 124 1 6) (va_Pc [.ref b, .int x1, .ref lo] (rx_GN G k h n)) (va_Qi (fun r u => y.1 = r ∧ n ≤ u.2 ∧ bL k lo y.2 u.1 ∧ rx_fr [(lo, 1)] h u.1) (rx_B G k) (rx_A k)) (rx_XC G k (fun _ _ => False)) 1 6 (rx_A k) := by
  have s_B_L : b + 1 ≤ lo ∨ lo + 1 ≤ b := by omega
  have s_s_L : b + 12 + 9 ≤ lo ∨ lo + 1 ≤ b + 12 := by omega
  have s_p_L : b + 21 + 10 ≤ lo ∨ lo + 1 ≤ b + 21 := by omega
  have s_w_L : b + 21 + 10 + 3 ≤ lo ∨ lo + 1 ≤ b + 21 + 10 := by omega
  have s_e_L : b + 21 + 13 + 3 ≤ lo ∨ lo + 1 ≤ b + 21 + 13 := by omega
  refine rx_startH [(0, .ref b), (1, .int x1), (2, .ref lo)] rfl (Nat.le_of_ble_eq_true rfl) (by decide) (fun P9 E9 S9 M9 A9 B9 me9 c9 C htab hN => ?_)
  unfold F_L_offer at hF
  have fr : rx_fr [(lo, 1)] h h := rx_fr0
  refine rx_aload_n C dL_offer_0 2 rfl ?_
  refine rx_iconst C dL_offer_1 (0 : Int32) (by decide) ?_
  refine rx_aload_n C dL_offer_2 0 rfl ?_
  refine rx_iload_n C dL_offer_3 1 rfl ?_
  replace hF := rx_biE hF; obtain ⟨y1, e_y1, hF⟩ := hF
  refine rx_xci (rx_rVX C (w_X8_offer hst e_y1 b_B b_s b_p b_w b_e) Y_X8_offer V_X8_offer m_L_70 (Or.inl ⟨_, _, _, _, b_B, rfl⟩) ⟨⟨rfl, rfl⟩, ⟨(Nat.le_of_ble_eq_true rfl), (Nat.le_of_ble_eq_true rfl)⟩, ⟨(Nat.le_of_ble_eq_true rfl), (Nat.le_of_ble_eq_true rfl)⟩⟩ rfl rfl (Nat.le_of_ble_eq_true rfl) dL_offer_4) (fun E hh n1 hx => ?_) (fun r hh n1 hpp => ?_)
  · obtain ⟨hx0, hx1, hx2, hx3⟩ := hx
    rw [if_neg hx0] at hF
    subst hx1
    replace hx2 : hh = h := hx2
    subst hx2
    by_cases d1 : y1.1 = (1 : Int32)
    · rw [if_pos d1] at hF
      rw [show rx_ex y1.1 = rx_E1 by rw [d1]; rfl]
      refine rx_catch C htab [] 0 9 12 19 [] rfl (fun z hz => absurd hz List.not_mem_nil) (by decide) (by decide) xl_19 xc_1 (fun q9 => ?_)
      refine rx_astore_n C dL_offer_12 (by decide) [(3, .ref q9), (0, .ref b), (1, .int x1), (2, .ref lo)] rfl ?_
      refine rx_iconst C dL_offer_13 (1 : Int32) (by decide) ?_
      obtain rfl := Option.some.inj hF
      exact rx_xret (rx_iret C dL_offer_14 (Nat.le_of_ble_eq_true rfl) (Nat.le_of_ble_eq_true rfl) ⟨rfl, hx3, b_L, fr⟩)
    · rw [if_neg d1] at hF
      by_cases d2 : y1.1 = (2 : Int32)
      · rw [if_pos d2] at hF
        cases hF
      · rw [if_neg d2] at hF
        cases hF
  obtain ⟨hz0_y1, rfl, hu⟩ := hpp
  cases hu
  rw [if_pos hz0_y1] at hF
  refine rx_i2l C dL_offer_7 ?_
  replace hF := rx_leE hF; obtain ⟨o_L_2, e_o_L_2, hF⟩ := hF
  refine rx_aL C dL_offer_8 b_L e_o_L_2 (fun hh c_L ff => ?_)
  replace b_L := c_L
  replace b_B := b_B.keep ff ⟨s_B_L, trivial⟩
  replace b_s := b_s.keep ff ⟨s_s_L, trivial⟩
  replace b_p := b_p.keep ff ⟨s_p_L, trivial⟩
  replace b_w := b_w.keep ff ⟨s_w_L, trivial⟩
  replace b_e := b_e.keep ff ⟨s_e_L, trivial⟩
  replace fr := rx_frt fr ff (fun a ha => ⟨ha.1, trivial⟩)
  refine rx_goto C dL_offer_9 15 (by decide) ?_
  refine rx_iconst C dL_offer_15 (0 : Int32) (by decide) ?_
  obtain rfl := Option.some.inj hF
  exact rx_xret (rx_iret C dL_offer_16 (Nat.le_of_ble_eq_true rfl) (Nat.le_of_ble_eq_true rfl) ⟨rfl, Nat.le_refl _, b_L, fr⟩)
def F_L_isOpen (oB : ob) (os : ob) (op : ob) (oL : (Nat → Int64)) (x1 : Int32) : Option (Int32 × (Nat → Int64)) := (F_X8_isOpen oB os op x1).bind fun y1 => if y1.1 = (0 : Int32) then (if y1.2 = (0 : Int32) then (rx_le (vp_updL oL 0 ((0 : Int64))) fun o_L_3 => some ((0 : Int32), o_L_3)) else (rx_le (vp_updL oL 0 ((1 : Int64))) fun o_L_4 => some ((0 : Int32), o_L_4))) else (if y1.1 = (1 : Int32) then (some ((1 : Int32), oL)) else (if y1.1 = (2 : Int32) then (none) else (none)))
set_option maxRecDepth 100000 in
set_option maxHeartbeats 4000000 in
theorem w_L_isOpen {b lo : Nat} {oB : ob} {os : ob} {op : ob} {oL : (Nat → Int64)} {x1 : Int32} {y : Int32 × (Nat → Int64)} (hst : l.stackTraces = false) (hF : F_L_isOpen oB os op oL x1 = some y) (b_B : bB k b oB h) (b_s : bS k (b + 12) os h) (b_p : bP k (b + 21) (b + 12) op h) (b_L : bL k lo oL h) (hd0 : b + 204 ≤ lo ∨ lo + 1 ≤ b) : vx_Met l yL_isOpen (rx_wsH yL_isOpen cL_isOpen 4 (some .int) [(0, 16, 19, 19)]) (rx_rmX 7 103 1 6) (va_Pc [.ref b, .int x1, .ref lo] (rx_GN G k h n)) (va_Qi (fun r u => y.1 = r ∧ n ≤ u.2 ∧ bL k lo y.2 u.1 ∧ rx_fr [(lo, 1)] h u.1) (rx_B G k) (rx_A k)) (rx_XC G k (fun _ _ => False)) 1 6 (rx_A k) := by
  have s_B_L : b + 1 ≤ lo ∨ lo + 1 ≤ b := by omega
  have s_s_L : b + 12 + 9 ≤ lo ∨ lo + 1 ≤ b + 12 := by omega
  have s_p_L : b + 21 + 10 ≤ lo ∨ lo + 1 ≤ b + 21 := by omega
  refine rx_startH [(0, .ref b), (1, .int x1), (2, .ref lo)] rfl (Nat.le_of_ble_eq_true rfl) (by decide) (fun P9 E9 S9 M9 A9 B9 me9 c9 C htab hN => ?_)
  unfold F_L_isOpen at hF
  have fr : rx_fr [(lo, 1)] h h := rx_fr0
  refine rx_aload_n C dL_isOpen_0 2 rfl ?_
  refine rx_iconst C dL_isOpen_1 (0 : Int32) (by decide) ?_
  refine rx_aload_n C dL_isOpen_2 0 rfl ?_
  refine rx_iload_n C dL_isOpen_3 1 rfl ?_
  replace hF := rx_biE hF; obtain ⟨y1, e_y1, hF⟩ := hF
  refine rx_xci (rx_rVX C (w_X8_isOpen hst e_y1 b_B b_s b_p) Y_X8_isOpen V_X8_isOpen m_L_73 (Or.inl ⟨_, _, _, _, b_B, rfl⟩) ⟨⟨rfl, rfl⟩, ⟨(Nat.le_of_ble_eq_true rfl), (Nat.le_of_ble_eq_true rfl)⟩, ⟨(Nat.le_of_ble_eq_true rfl), (Nat.le_of_ble_eq_true rfl)⟩⟩ rfl rfl (Nat.le_of_ble_eq_true rfl) dL_isOpen_4) (fun E hh n1 hx => ?_) (fun r hh n1 hpp => ?_)
  · obtain ⟨hx0, hx1, hx2, hx3⟩ := hx
    rw [if_neg hx0] at hF
    subst hx1
    replace hx2 : hh = h := hx2
    subst hx2
    by_cases d1 : y1.1 = (1 : Int32)
    · rw [if_pos d1] at hF
      rw [show rx_ex y1.1 = rx_E1 by rw [d1]; rfl]
      refine rx_catch C htab [] 0 16 19 19 [] rfl (fun z hz => absurd hz List.not_mem_nil) (by decide) (by decide) xl_19 xc_1 (fun q9 => ?_)
      refine rx_astore_n C dL_isOpen_19 (by decide) [(3, .ref q9), (0, .ref b), (1, .int x1), (2, .ref lo)] rfl ?_
      refine rx_iconst C dL_isOpen_20 (1 : Int32) (by decide) ?_
      obtain rfl := Option.some.inj hF
      exact rx_xret (rx_iret C dL_isOpen_21 (Nat.le_of_ble_eq_true rfl) (Nat.le_of_ble_eq_true rfl) ⟨rfl, hx3, b_L, fr⟩)
    · rw [if_neg d1] at hF
      by_cases d2 : y1.1 = (2 : Int32)
      · rw [if_pos d2] at hF
        cases hF
      · rw [if_neg d2] at hF
        cases hF
  obtain ⟨hz0_y1, rfl, bo_y1, hu⟩ := hpp
  cases hu
  rw [if_pos hz0_y1] at hF
  refine rx_if_eq C dL_isOpen_7 14 (by decide) (fun c2 => ?_) (fun c2 => ?_)
  · rw [if_pos c2] at hF
    refine rx_lconst C dL_isOpen_14 0 (by decide) ?_
    replace hF := rx_leE hF; obtain ⟨o_L_3, e_o_L_3, hF⟩ := hF
    refine rx_aL C dL_isOpen_15 b_L e_o_L_3 (fun hh c_L ff => ?_)
    replace b_L := c_L
    replace b_B := b_B.keep ff ⟨s_B_L, trivial⟩
    replace b_s := b_s.keep ff ⟨s_s_L, trivial⟩
    replace b_p := b_p.keep ff ⟨s_p_L, trivial⟩
    replace fr := rx_frt fr ff (fun a ha => ⟨ha.1, trivial⟩)
    refine rx_goto C dL_isOpen_16 22 (by decide) ?_
    refine rx_iconst C dL_isOpen_22 (0 : Int32) (by decide) ?_
    obtain rfl := Option.some.inj hF
    exact rx_xret (rx_iret C dL_isOpen_23 (Nat.le_of_ble_eq_true rfl) (Nat.le_of_ble_eq_true rfl) ⟨rfl, Nat.le_refl _, b_L, fr⟩)
  · rw [if_neg c2] at hF
    refine rx_lconst C dL_isOpen_10 1 (by decide) ?_
    refine rx_goto C dL_isOpen_11 15 (by decide) ?_
    replace hF := rx_leE hF; obtain ⟨o_L_4, e_o_L_4, hF⟩ := hF
    refine rx_aL C dL_isOpen_15 b_L e_o_L_4 (fun hh c_L ff => ?_)
    replace b_L := c_L
    replace b_B := b_B.keep ff ⟨s_B_L, trivial⟩
    replace b_s := b_s.keep ff ⟨s_s_L, trivial⟩
    replace b_p := b_p.keep ff ⟨s_p_L, trivial⟩
    replace fr := rx_frt fr ff (fun a ha => ⟨ha.1, trivial⟩)
    refine rx_goto C dL_isOpen_16 22 (by decide) ?_
    refine rx_iconst C dL_isOpen_22 (0 : Int32) (by decide) ?_
    obtain rfl := Option.some.inj hF
    exact rx_xret (rx_iret C dL_isOpen_23 (Nat.le_of_ble_eq_true rfl) (Nat.le_of_ble_eq_true rfl) ⟨rfl, Nat.le_refl _, b_L, fr⟩)
def F_L_firstPlaceOffer (oB : ob) (os : ob) (op : ob) (ow : ob) (oe : ob) (oL : (Nat → Int64)) (x1 : Int32) : Option (Int32 × (Nat → Int64)) := (F_X8_firstPlaceOffer oB os op ow oe x1).bind fun y1 => if y1.1 = (0 : Int32) then (rx_le (vp_updL oL 0 y1.2.toInt64) fun o_L_2 => some ((0 : Int32), o_L_2)) else (if y1.1 = (1 : Int32) then (some ((1 : Int32), oL)) else (if y1.1 = (2 : Int32) then (none) else (none)))
set_option maxRecDepth 100000 in
set_option maxHeartbeats 4000000 in
theorem w_L_firstPlaceOffer {b lo : Nat} {oB : ob} {os : ob} {op : ob} {ow : ob} {oe : ob} {oL : (Nat → Int64)} {x1 : Int32} {y : Int32 × (Nat → Int64)} (hst : l.stackTraces = false) (hF : F_L_firstPlaceOffer oB os op ow oe oL x1 = some y) (b_B : bB k b oB h) (b_s : bS k (b + 12) os h) (b_p : bP k (b + 21) (b + 12) op h) (b_w : bQ k (b + 21 + 10) ow h) (b_e : bQ k (b + 21 + 13) oe h) (b_L : bL k lo oL h) (hd0 : b + 204 ≤ lo ∨ lo + 1 ≤ b) : vx_Met l yL_firstPlaceOffer (rx_wsH yL_firstPlaceOffer cL_firstPlaceOffer 4 (some .int) [(0, 9, 12, 19)]) (rx_rmX 8 124 1 6) (va_Pc [.ref b, .int x1, .ref lo] (rx_GN G k h n)) (va_Qi (fun r u => y.1 = r ∧ n ≤ u.2 ∧ bL k lo y.2 u.1 ∧ rx_fr [(lo, 1)] h u.1) (rx_B G k) (rx_A k)) (rx_XC G k (fun _ _ => False)) 1 6 (rx_A k) := by
  have s_B_L : b + 1 ≤ lo ∨ lo + 1 ≤ b := by omega
  have s_s_L : b + 12 + 9 ≤ lo ∨ lo + 1 ≤ b + 12 := by omega
  have s_p_L : b + 21 + 10 ≤ lo ∨ lo + 1 ≤ b + 21 := by omega
  have s_w_L : b + 21 + 10 + 3 ≤ lo ∨ lo + 1 ≤ b + 21 + 10 := by omega
  have s_e_L : b + 21 + 13 + 3 ≤ lo ∨ lo + 1 ≤ b + 21 + 13 := by omega
  refine rx_startH [(0, .ref b), (1, .int x1), (2, .ref lo)] rfl (Nat.le_of_ble_eq_true rfl) (by decide) (fun P9 E9 S9 M9 A9 B9 me9 c9 C htab hN => ?_)
  unfold F_L_firstPlaceOffer at hF
  have fr : rx_fr [(lo, 1)] h h := rx_fr0
  refine rx_aload_n C dL_firstPlaceOffer_0 2 rfl ?_
  refine rx_iconst C dL_firstPlaceOffer_1 (0 : Int32) (by decide) ?_
  refine rx_aload_n C dL_firstPlaceOffer_2 0 rfl ?_
  refine rx_iload_n C dL_firstPlaceOffer_3 1 rfl ?_
  replace hF := rx_biE hF; obtain ⟨y1, e_y1, hF⟩ := hF
  refine rx_xci (rx_rVX C (w_X8_firstPlaceOffer hst e_y1 b_B b_s b_p b_w b_e) Y_X8_firstPlaceOffer V_X8_firstPlaceOffer m_L_76 (Or.inl ⟨_, _, _, _, b_B, rfl⟩) ⟨⟨rfl, rfl⟩, ⟨(Nat.le_of_ble_eq_true rfl), (Nat.le_of_ble_eq_true rfl)⟩, ⟨(Nat.le_of_ble_eq_true rfl), (Nat.le_of_ble_eq_true rfl)⟩⟩ rfl rfl (Nat.le_of_ble_eq_true rfl) dL_firstPlaceOffer_4) (fun E hh n1 hx => ?_) (fun r hh n1 hpp => ?_)
  · obtain ⟨hx0, hx1, hx2, hx3⟩ := hx
    rw [if_neg hx0] at hF
    subst hx1
    replace hx2 : hh = h := hx2
    subst hx2
    by_cases d1 : y1.1 = (1 : Int32)
    · rw [if_pos d1] at hF
      rw [show rx_ex y1.1 = rx_E1 by rw [d1]; rfl]
      refine rx_catch C htab [] 0 9 12 19 [] rfl (fun z hz => absurd hz List.not_mem_nil) (by decide) (by decide) xl_19 xc_1 (fun q9 => ?_)
      refine rx_astore_n C dL_firstPlaceOffer_12 (by decide) [(3, .ref q9), (0, .ref b), (1, .int x1), (2, .ref lo)] rfl ?_
      refine rx_iconst C dL_firstPlaceOffer_13 (1 : Int32) (by decide) ?_
      obtain rfl := Option.some.inj hF
      exact rx_xret (rx_iret C dL_firstPlaceOffer_14 (Nat.le_of_ble_eq_true rfl) (Nat.le_of_ble_eq_true rfl) ⟨rfl, hx3, b_L, fr⟩)
    · rw [if_neg d1] at hF
      by_cases d2 : y1.1 = (2 : Int32)
      · rw [if_pos d2] at hF
        cases hF
      · rw [if_neg d2] at hF
        cases hF
  obtain ⟨hz0_y1, rfl, hu⟩ := hpp
  cases hu
  rw [if_pos hz0_y1] at hF
  refine rx_i2l C dL_firstPlaceOffer_7 ?_
  replace hF := rx_leE hF; obtain ⟨o_L_2, e_o_L_2, hF⟩ := hF
  refine rx_aL C dL_firstPlaceOffer_8 b_L e_o_L_2 (fun hh c_L ff => ?_)
  replace b_L := c_L
  replace b_B := b_B.keep ff ⟨s_B_L, trivial⟩
  replace b_s := b_s.keep ff ⟨s_s_L, trivial⟩
  replace b_p := b_p.keep ff ⟨s_p_L, trivial⟩
  replace b_w := b_w.keep ff ⟨s_w_L, trivial⟩
  replace b_e := b_e.keep ff ⟨s_e_L, trivial⟩
  replace fr := rx_frt fr ff (fun a ha => ⟨ha.1, trivial⟩)
  refine rx_goto C dL_firstPlaceOffer_9 15 (by decide) ?_
  refine rx_iconst C dL_firstPlaceOffer_15 (0 : Int32) (by decide) ?_
  obtain rfl := Option.some.inj hF
  exact rx_xret (rx_iret C dL_firstPlaceOffer_16 (Nat.le_of_ble_eq_true rfl) (Nat.le_of_ble_eq_true rfl) ⟨rfl, Nat.le_refl _, b_L, fr⟩)
def F_L_turnsUntilCrossing (oB : ob) (os : ob) (op : ob) (ow : ob) (oe : ob) (ofp : ob) (ofw : ob) (ofe : ob) (oL : (Nat → Int64)) (x1 : Int32) : Option (Int32 × ob × ob × ob × (Nat → Int64)) := (F_X8_turnsUntilCrossing oB os op ow oe ofp ofw ofe x1).bind fun y1 => if y1.1 = (0 : Int32) then (rx_le (vp_updL oL 0 y1.2.1.toInt64) fun o_L_2 => some ((0 : Int32), y1.2.2.1, y1.2.2.2.1, y1.2.2.2.2, o_L_2)) else (if y1.1 = (1 : Int32) then (some ((1 : Int32), ofp, ofw, ofe, oL)) else (if y1.1 = (2 : Int32) then (none) else (none)))
set_option maxRecDepth 100000 in
set_option maxHeartbeats 4000000 in
theorem w_L_turnsUntilCrossing {b lo : Nat} {oB : ob} {os : ob} {op : ob} {ow : ob} {oe : ob} {ofp : ob} {ofw : ob} {ofe : ob} {oL : (Nat → Int64)} {x1 : Int32} {y : Int32 × ob × ob × ob × (Nat → Int64)} (hst : l.stackTraces = false) (hF : F_L_turnsUntilCrossing oB os op ow oe ofp ofw ofe oL x1 = some y) (b_B : bB k b oB h) (b_s : bS k (b + 12) os h) (b_p : bP k (b + 21) (b + 12) op h) (b_w : bQ k (b + 21 + 10) ow h) (b_e : bQ k (b + 21 + 13) oe h) (b_fp : bP k (b + 37) (b + 12) ofp h) (b_fw : bQ k (b + 37 + 10) ofw h) (b_fe : bQ k (b + 37 + 13) ofe h) (b_L : bL k lo oL h) (hd0 : b + 204 ≤ lo ∨ lo + 1 ≤ b) : vx_Met l yL_turnsUntilCrossing (rx_wsH yL_turnsUntilCrossing cL_turnsUntilCrossing 4 (some .int) [(0, 9, 12, 19)]) (rx_rmX 8 126 1 6) (va_Pc [.ref b, .int x1, .ref lo] (rx_GN G k h n)) (va_Qi (fun r u => y.1 = r ∧ n ≤ u.2 ∧ bP k (b + 37) (b + 12) y.2.1 u.1 ∧ bQ k (b + 37 + 10) y.2.2.1 u.1 ∧ bQ k (b + 37 + 13) y.2.2.2.1 u.1 ∧ bL k lo y.2.2.2.2 u.1 ∧ rx_fr [(b + 37, 10), (b + 37 + 10, 3), (b + 37 + 13, 3), (lo, 1)] h u.1) (rx_B G k) (rx_A k)) (rx_XC G k (fun _ _ => False)) 1 6 (rx_A k) := by
  have s_B_fp : b + 1 ≤ b + 37 ∨ b + 37 + 10 ≤ b := by omega
  have s_B_fw : b + 1 ≤ b + 37 + 10 ∨ b + 37 + 10 + 3 ≤ b := by omega
  have s_B_fe : b + 1 ≤ b + 37 + 13 ∨ b + 37 + 13 + 3 ≤ b := by omega
  have s_s_fp : b + 12 + 9 ≤ b + 37 ∨ b + 37 + 10 ≤ b + 12 := by omega
  have s_s_fw : b + 12 + 9 ≤ b + 37 + 10 ∨ b + 37 + 10 + 3 ≤ b + 12 := by omega
  have s_s_fe : b + 12 + 9 ≤ b + 37 + 13 ∨ b + 37 + 13 + 3 ≤ b + 12 := by omega
  have s_p_fp : b + 21 + 10 ≤ b + 37 ∨ b + 37 + 10 ≤ b + 21 := by omega
  have s_p_fw : b + 21 + 10 ≤ b + 37 + 10 ∨ b + 37 + 10 + 3 ≤ b + 21 := by omega
  have s_p_fe : b + 21 + 10 ≤ b + 37 + 13 ∨ b + 37 + 13 + 3 ≤ b + 21 := by omega
  have s_w_fp : b + 21 + 10 + 3 ≤ b + 37 ∨ b + 37 + 10 ≤ b + 21 + 10 := by omega
  have s_w_fw : b + 21 + 10 + 3 ≤ b + 37 + 10 ∨ b + 37 + 10 + 3 ≤ b + 21 + 10 := by omega
  have s_w_fe : b + 21 + 10 + 3 ≤ b + 37 + 13 ∨ b + 37 + 13 + 3 ≤ b + 21 + 10 := by omega
  have s_e_fp : b + 21 + 13 + 3 ≤ b + 37 ∨ b + 37 + 10 ≤ b + 21 + 13 := by omega
  have s_e_fw : b + 21 + 13 + 3 ≤ b + 37 + 10 ∨ b + 37 + 10 + 3 ≤ b + 21 + 13 := by omega
  have s_e_fe : b + 21 + 13 + 3 ≤ b + 37 + 13 ∨ b + 37 + 13 + 3 ≤ b + 21 + 13 := by omega
  have s_L_fp : lo + 1 ≤ b + 37 ∨ b + 37 + 10 ≤ lo := by omega
  have s_L_fw : lo + 1 ≤ b + 37 + 10 ∨ b + 37 + 10 + 3 ≤ lo := by omega
  have s_L_fe : lo + 1 ≤ b + 37 + 13 ∨ b + 37 + 13 + 3 ≤ lo := by omega
  have s_B_L : b + 1 ≤ lo ∨ lo + 1 ≤ b := by omega
  have s_s_L : b + 12 + 9 ≤ lo ∨ lo + 1 ≤ b + 12 := by omega
  have s_p_L : b + 21 + 10 ≤ lo ∨ lo + 1 ≤ b + 21 := by omega
  have s_w_L : b + 21 + 10 + 3 ≤ lo ∨ lo + 1 ≤ b + 21 + 10 := by omega
  have s_e_L : b + 21 + 13 + 3 ≤ lo ∨ lo + 1 ≤ b + 21 + 13 := by omega
  have s_fp_L : b + 37 + 10 ≤ lo ∨ lo + 1 ≤ b + 37 := by omega
  have s_fw_L : b + 37 + 10 + 3 ≤ lo ∨ lo + 1 ≤ b + 37 + 10 := by omega
  have s_fe_L : b + 37 + 13 + 3 ≤ lo ∨ lo + 1 ≤ b + 37 + 13 := by omega
  refine rx_startH [(0, .ref b), (1, .int x1), (2, .ref lo)] rfl (Nat.le_of_ble_eq_true rfl) (by decide) (fun P9 E9 S9 M9 A9 B9 me9 c9 C htab hN => ?_)
  unfold F_L_turnsUntilCrossing at hF
  have fr : rx_fr [(b + 37, 10), (b + 37 + 10, 3), (b + 37 + 13, 3), (lo, 1)] h h := rx_fr0
  refine rx_aload_n C dL_turnsUntilCrossing_0 2 rfl ?_
  refine rx_iconst C dL_turnsUntilCrossing_1 (0 : Int32) (by decide) ?_
  refine rx_aload_n C dL_turnsUntilCrossing_2 0 rfl ?_
  refine rx_iload_n C dL_turnsUntilCrossing_3 1 rfl ?_
  replace hF := rx_biE hF; obtain ⟨y1, e_y1, hF⟩ := hF
  refine rx_xci (rx_rVX C (w_X8_turnsUntilCrossing hst e_y1 b_B b_s b_p b_w b_e b_fp b_fw b_fe) Y_X8_turnsUntilCrossing V_X8_turnsUntilCrossing m_L_79 (Or.inl ⟨_, _, _, _, b_B, rfl⟩) ⟨⟨rfl, rfl⟩, ⟨(Nat.le_of_ble_eq_true rfl), (Nat.le_of_ble_eq_true rfl)⟩, ⟨(Nat.le_of_ble_eq_true rfl), (Nat.le_of_ble_eq_true rfl)⟩⟩ rfl rfl (Nat.le_of_ble_eq_true rfl) dL_turnsUntilCrossing_4) (fun E hh n1 hx => ?_) (fun r hh n1 hpp => ?_)
  · obtain ⟨hx0, hx1, hx2, hx3⟩ := hx
    rw [if_neg hx0] at hF
    subst hx1
    replace hx2 : hh = h := hx2
    subst hx2
    by_cases d1 : y1.1 = (1 : Int32)
    · rw [if_pos d1] at hF
      rw [show rx_ex y1.1 = rx_E1 by rw [d1]; rfl]
      refine rx_catch C htab [] 0 9 12 19 [] rfl (fun z hz => absurd hz List.not_mem_nil) (by decide) (by decide) xl_19 xc_1 (fun q9 => ?_)
      refine rx_astore_n C dL_turnsUntilCrossing_12 (by decide) [(3, .ref q9), (0, .ref b), (1, .int x1), (2, .ref lo)] rfl ?_
      refine rx_iconst C dL_turnsUntilCrossing_13 (1 : Int32) (by decide) ?_
      obtain rfl := Option.some.inj hF
      exact rx_xret (rx_iret C dL_turnsUntilCrossing_14 (Nat.le_of_ble_eq_true rfl) (Nat.le_of_ble_eq_true rfl) ⟨rfl, hx3, b_fp, b_fw, b_fe, b_L, fr⟩)
    · rw [if_neg d1] at hF
      by_cases d2 : y1.1 = (2 : Int32)
      · rw [if_pos d2] at hF
        cases hF
      · rw [if_neg d2] at hF
        cases hF
  obtain ⟨hz0_y1, rfl, hn, c_fp, c_fw, c_fe, ff⟩ := hpp
  replace hn : n = n1 := Eq.symm hn
  subst hn
  replace b_fp : bP k (b + 37) (b + 12) y1.2.2.1 hh := c_fp
  clear c_fp
  replace b_fw : bQ k (b + 37 + 10) y1.2.2.2.1 hh := c_fw
  clear c_fw
  replace b_fe : bQ k (b + 37 + 13) y1.2.2.2.2 hh := c_fe
  clear c_fe
  replace ff : rx_fr [(b + 37, 10), (b + 37 + 10, 3), (b + 37 + 13, 3)] _ hh := ff
  replace b_B := b_B.keep ff ⟨s_B_fp, s_B_fw, s_B_fe, trivial⟩
  replace b_s := b_s.keep ff ⟨s_s_fp, s_s_fw, s_s_fe, trivial⟩
  replace b_p := b_p.keep ff ⟨s_p_fp, s_p_fw, s_p_fe, trivial⟩
  replace b_w := b_w.keep ff ⟨s_w_fp, s_w_fw, s_w_fe, trivial⟩
  replace b_e := b_e.keep ff ⟨s_e_fp, s_e_fw, s_e_fe, trivial⟩
  replace b_L := b_L.keep ff ⟨s_L_fp, s_L_fw, s_L_fe, trivial⟩
  replace fr := rx_frt fr ff (fun a ha => ⟨ha.1, ha.2.1, ha.2.2.1, trivial⟩)
  rw [if_pos hz0_y1] at hF
  refine rx_i2l C dL_turnsUntilCrossing_7 ?_
  replace hF := rx_leE hF; obtain ⟨o_L_2, e_o_L_2, hF⟩ := hF
  refine rx_aL C dL_turnsUntilCrossing_8 b_L e_o_L_2 (fun hh c_L ff => ?_)
  replace b_L := c_L
  replace b_B := b_B.keep ff ⟨s_B_L, trivial⟩
  replace b_s := b_s.keep ff ⟨s_s_L, trivial⟩
  replace b_p := b_p.keep ff ⟨s_p_L, trivial⟩
  replace b_w := b_w.keep ff ⟨s_w_L, trivial⟩
  replace b_e := b_e.keep ff ⟨s_e_L, trivial⟩
  replace b_fp := b_fp.keep ff ⟨s_fp_L, trivial⟩
  replace b_fw := b_fw.keep ff ⟨s_fw_L, trivial⟩
  replace b_fe := b_fe.keep ff ⟨s_fe_L, trivial⟩
  replace fr := rx_frt fr ff (fun a ha => ⟨ha.2.2.2.1, trivial⟩)
  refine rx_goto C dL_turnsUntilCrossing_9 15 (by decide) ?_
  refine rx_iconst C dL_turnsUntilCrossing_15 (0 : Int32) (by decide) ?_
  obtain rfl := Option.some.inj hF
  exact rx_xret (rx_iret C dL_turnsUntilCrossing_16 (Nat.le_of_ble_eq_true rfl) (Nat.le_of_ble_eq_true rfl) ⟨rfl, Nat.le_refl _, b_fp, b_fw, b_fe, b_L, fr⟩)
def F_L_tollBoxAfter (oB : ob) (os : ob) (op : ob) (ow : ob) (oe : ob) (ofp : ob) (ofw : ob) (ofe : ob) (oL : (Nat → Int64)) (x1 : Int32) : Option (Int32 × ob × ob × ob × (Nat → Int64)) := (F_X8_tollBoxAfter oB os op ow oe ofp ofw ofe x1).bind fun y1 => if y1.1 = (0 : Int32) then (rx_le (vp_updL oL 0 y1.2.1.toInt64) fun o_L_2 => some ((0 : Int32), y1.2.2.1, y1.2.2.2.1, y1.2.2.2.2, o_L_2)) else (if y1.1 = (1 : Int32) then (none) else (if y1.1 = (2 : Int32) then (some ((1 : Int32), ofp, ofw, ofe, oL)) else (none)))
set_option maxRecDepth 100000 in
set_option maxHeartbeats 4000000 in
theorem w_L_tollBoxAfter {b lo : Nat} {oB : ob} {os : ob} {op : ob} {ow : ob} {oe : ob} {ofp : ob} {ofw : ob} {ofe : ob} {oL : (Nat → Int64)} {x1 : Int32} {y : Int32 × ob × ob × ob × (Nat → Int64)} (hst : l.stackTraces = false) (hF : F_L_tollBoxAfter oB os op ow oe ofp ofw ofe oL x1 = some y) (b_B : bB k b oB h) (b_s : bS k (b + 12) os h) (b_p : bP k (b + 21) (b + 12) op h) (b_w : bQ k (b + 21 + 10) ow h) (b_e : bQ k (b + 21 + 13) oe h) (b_fp : bP k (b + 37) (b + 12) ofp h) (b_fw : bQ k (b + 37 + 10) ofw h) (b_fe : bQ k (b + 37 + 13) ofe h) (b_L : bL k lo oL h) (hd0 : b + 204 ≤ lo ∨ lo + 1 ≤ b) : vx_Met l yL_tollBoxAfter (rx_wsH yL_tollBoxAfter cL_tollBoxAfter 4 (some .int) [(0, 9, 12, 13)]) (rx_rmX 8 159 1 6) (va_Pc [.ref b, .int x1, .ref lo] (rx_GN G k h n)) (va_Qi (fun r u => y.1 = r ∧ n ≤ u.2 ∧ bP k (b + 37) (b + 12) y.2.1 u.1 ∧ bQ k (b + 37 + 10) y.2.2.1 u.1 ∧ bQ k (b + 37 + 13) y.2.2.2.1 u.1 ∧ bL k lo y.2.2.2.2 u.1 ∧ rx_fr [(b + 37, 10), (b + 37 + 10, 3), (b + 37 + 13, 3), (lo, 1)] h u.1) (rx_B G k) (rx_A k)) (rx_XC G k (fun _ _ => False)) 1 6 (rx_A k) := by
  have s_B_fp : b + 1 ≤ b + 37 ∨ b + 37 + 10 ≤ b := by omega
  have s_B_fw : b + 1 ≤ b + 37 + 10 ∨ b + 37 + 10 + 3 ≤ b := by omega
  have s_B_fe : b + 1 ≤ b + 37 + 13 ∨ b + 37 + 13 + 3 ≤ b := by omega
  have s_s_fp : b + 12 + 9 ≤ b + 37 ∨ b + 37 + 10 ≤ b + 12 := by omega
  have s_s_fw : b + 12 + 9 ≤ b + 37 + 10 ∨ b + 37 + 10 + 3 ≤ b + 12 := by omega
  have s_s_fe : b + 12 + 9 ≤ b + 37 + 13 ∨ b + 37 + 13 + 3 ≤ b + 12 := by omega
  have s_p_fp : b + 21 + 10 ≤ b + 37 ∨ b + 37 + 10 ≤ b + 21 := by omega
  have s_p_fw : b + 21 + 10 ≤ b + 37 + 10 ∨ b + 37 + 10 + 3 ≤ b + 21 := by omega
  have s_p_fe : b + 21 + 10 ≤ b + 37 + 13 ∨ b + 37 + 13 + 3 ≤ b + 21 := by omega
  have s_w_fp : b + 21 + 10 + 3 ≤ b + 37 ∨ b + 37 + 10 ≤ b + 21 + 10 := by omega
  have s_w_fw : b + 21 + 10 + 3 ≤ b + 37 + 10 ∨ b + 37 + 10 + 3 ≤ b + 21 + 10 := by omega
  have s_w_fe : b + 21 + 10 + 3 ≤ b + 37 + 13 ∨ b + 37 + 13 + 3 ≤ b + 21 + 10 := by omega
  have s_e_fp : b + 21 + 13 + 3 ≤ b + 37 ∨ b + 37 + 10 ≤ b + 21 + 13 := by omega
  have s_e_fw : b + 21 + 13 + 3 ≤ b + 37 + 10 ∨ b + 37 + 10 + 3 ≤ b + 21 + 13 := by omega
  have s_e_fe : b + 21 + 13 + 3 ≤ b + 37 + 13 ∨ b + 37 + 13 + 3 ≤ b + 21 + 13 := by omega
  have s_L_fp : lo + 1 ≤ b + 37 ∨ b + 37 + 10 ≤ lo := by omega
  have s_L_fw : lo + 1 ≤ b + 37 + 10 ∨ b + 37 + 10 + 3 ≤ lo := by omega
  have s_L_fe : lo + 1 ≤ b + 37 + 13 ∨ b + 37 + 13 + 3 ≤ lo := by omega
  have s_B_L : b + 1 ≤ lo ∨ lo + 1 ≤ b := by omega
  have s_s_L : b + 12 + 9 ≤ lo ∨ lo + 1 ≤ b + 12 := by omega
  have s_p_L : b + 21 + 10 ≤ lo ∨ lo + 1 ≤ b + 21 := by omega
  have s_w_L : b + 21 + 10 + 3 ≤ lo ∨ lo + 1 ≤ b + 21 + 10 := by omega
  have s_e_L : b + 21 + 13 + 3 ≤ lo ∨ lo + 1 ≤ b + 21 + 13 := by omega
  have s_fp_L : b + 37 + 10 ≤ lo ∨ lo + 1 ≤ b + 37 := by omega
  have s_fw_L : b + 37 + 10 + 3 ≤ lo ∨ lo + 1 ≤ b + 37 + 10 := by omega
  have s_fe_L : b + 37 + 13 + 3 ≤ lo ∨ lo + 1 ≤ b + 37 + 13 := by omega
  refine rx_startH [(0, .ref b), (1, .int x1), (2, .ref lo)] rfl (Nat.le_of_ble_eq_true rfl) (by decide) (fun P9 E9 S9 M9 A9 B9 me9 c9 C htab hN => ?_)
  unfold F_L_tollBoxAfter at hF
  have fr : rx_fr [(b + 37, 10), (b + 37 + 10, 3), (b + 37 + 13, 3), (lo, 1)] h h := rx_fr0
  refine rx_aload_n C dL_tollBoxAfter_0 2 rfl ?_
  refine rx_iconst C dL_tollBoxAfter_1 (0 : Int32) (by decide) ?_
  refine rx_aload_n C dL_tollBoxAfter_2 0 rfl ?_
  refine rx_iload_n C dL_tollBoxAfter_3 1 rfl ?_
  replace hF := rx_biE hF; obtain ⟨y1, e_y1, hF⟩ := hF
  refine rx_xci (rx_rVX C (w_X8_tollBoxAfter hst e_y1 b_B b_s b_p b_w b_e b_fp b_fw b_fe) Y_X8_tollBoxAfter V_X8_tollBoxAfter m_L_82 (Or.inl ⟨_, _, _, _, b_B, rfl⟩) ⟨⟨rfl, rfl⟩, ⟨(Nat.le_of_ble_eq_true rfl), (Nat.le_of_ble_eq_true rfl)⟩, ⟨(Nat.le_of_ble_eq_true rfl), (Nat.le_of_ble_eq_true rfl)⟩⟩ rfl rfl (Nat.le_of_ble_eq_true rfl) dL_tollBoxAfter_4) (fun E hh n1 hx => ?_) (fun r hh n1 hpp => ?_)
  · obtain ⟨hx0, hx1, hx2, hx3⟩ := hx
    rw [if_neg hx0] at hF
    subst hx1
    replace hx2 : hh = h := hx2
    subst hx2
    by_cases d1 : y1.1 = (1 : Int32)
    · rw [if_pos d1] at hF
      cases hF
    · rw [if_neg d1] at hF
      by_cases d2 : y1.1 = (2 : Int32)
      · rw [if_pos d2] at hF
        rw [show rx_ex y1.1 = rx_E2 by rw [d2]; rfl]
        refine rx_catch C htab [] 0 9 12 13 [] rfl (fun z hz => absurd hz List.not_mem_nil) (by decide) (by decide) xl_13 xc_2 (fun q9 => ?_)
        refine rx_astore_n C dL_tollBoxAfter_12 (by decide) [(3, .ref q9), (0, .ref b), (1, .int x1), (2, .ref lo)] rfl ?_
        refine rx_iconst C dL_tollBoxAfter_13 (1 : Int32) (by decide) ?_
        obtain rfl := Option.some.inj hF
        exact rx_xret (rx_iret C dL_tollBoxAfter_14 (Nat.le_of_ble_eq_true rfl) (Nat.le_of_ble_eq_true rfl) ⟨rfl, hx3, b_fp, b_fw, b_fe, b_L, fr⟩)
      · rw [if_neg d2] at hF
        cases hF
  obtain ⟨hz0_y1, rfl, hn, c_fp, c_fw, c_fe, ff⟩ := hpp
  replace hn : n = n1 := Eq.symm hn
  subst hn
  replace b_fp : bP k (b + 37) (b + 12) y1.2.2.1 hh := c_fp
  clear c_fp
  replace b_fw : bQ k (b + 37 + 10) y1.2.2.2.1 hh := c_fw
  clear c_fw
  replace b_fe : bQ k (b + 37 + 13) y1.2.2.2.2 hh := c_fe
  clear c_fe
  replace ff : rx_fr [(b + 37, 10), (b + 37 + 10, 3), (b + 37 + 13, 3)] _ hh := ff
  replace b_B := b_B.keep ff ⟨s_B_fp, s_B_fw, s_B_fe, trivial⟩
  replace b_s := b_s.keep ff ⟨s_s_fp, s_s_fw, s_s_fe, trivial⟩
  replace b_p := b_p.keep ff ⟨s_p_fp, s_p_fw, s_p_fe, trivial⟩
  replace b_w := b_w.keep ff ⟨s_w_fp, s_w_fw, s_w_fe, trivial⟩
  replace b_e := b_e.keep ff ⟨s_e_fp, s_e_fw, s_e_fe, trivial⟩
  replace b_L := b_L.keep ff ⟨s_L_fp, s_L_fw, s_L_fe, trivial⟩
  replace fr := rx_frt fr ff (fun a ha => ⟨ha.1, ha.2.1, ha.2.2.1, trivial⟩)
  rw [if_pos hz0_y1] at hF
  refine rx_i2l C dL_tollBoxAfter_7 ?_
  replace hF := rx_leE hF; obtain ⟨o_L_2, e_o_L_2, hF⟩ := hF
  refine rx_aL C dL_tollBoxAfter_8 b_L e_o_L_2 (fun hh c_L ff => ?_)
  replace b_L := c_L
  replace b_B := b_B.keep ff ⟨s_B_L, trivial⟩
  replace b_s := b_s.keep ff ⟨s_s_L, trivial⟩
  replace b_p := b_p.keep ff ⟨s_p_L, trivial⟩
  replace b_w := b_w.keep ff ⟨s_w_L, trivial⟩
  replace b_e := b_e.keep ff ⟨s_e_L, trivial⟩
  replace b_fp := b_fp.keep ff ⟨s_fp_L, trivial⟩
  replace b_fw := b_fw.keep ff ⟨s_fw_L, trivial⟩
  replace b_fe := b_fe.keep ff ⟨s_fe_L, trivial⟩
  replace fr := rx_frt fr ff (fun a ha => ⟨ha.2.2.2.1, trivial⟩)
  refine rx_goto C dL_tollBoxAfter_9 15 (by decide) ?_
  refine rx_iconst C dL_tollBoxAfter_15 (0 : Int32) (by decide) ?_
  obtain rfl := Option.some.inj hF
  exact rx_xret (rx_iret C dL_tollBoxAfter_16 (Nat.le_of_ble_eq_true rfl) (Nat.le_of_ble_eq_true rfl) ⟨rfl, Nat.le_refl _, b_fp, b_fw, b_fe, b_L, fr⟩)
def F_L_limitAngleAfter (oB : ob) (os : ob) (op : ob) (ow : ob) (oe : ob) (ofp : ob) (ofw : ob) (ofe : ob) (oL : (Nat → Int64)) (x1 : Int32) : Option (Int32 × ob × ob × ob × (Nat → Int64)) := (F_X8_limitAngleAfter oB os op ow oe ofp ofw ofe x1).bind fun y1 => if y1.1 = (0 : Int32) then (rx_le (vp_updL oL 0 y1.2.1.toInt64) fun o_L_2 => some ((0 : Int32), y1.2.2.1, y1.2.2.2.1, y1.2.2.2.2, o_L_2)) else (if y1.1 = (1 : Int32) then (none) else (if y1.1 = (2 : Int32) then (some ((1 : Int32), ofp, ofw, ofe, oL)) else (none)))
set_option maxRecDepth 100000 in
set_option maxHeartbeats 4000000 in
theorem w_L_limitAngleAfter {b lo : Nat} {oB : ob} {os : ob} {op : ob} {ow : ob} {oe : ob} {ofp : ob} {ofw : ob} {ofe : ob} {oL : (Nat → Int64)} {x1 : Int32} {y : Int32 × ob × ob × ob × (Nat → Int64)} (hst : l.stackTraces = false) (hF : F_L_limitAngleAfter oB os op ow oe ofp ofw ofe oL x1 = some y) (b_B : bB k b oB h) (b_s : bS k (b + 12) os h) (b_p : bP k (b + 21) (b + 12) op h) (b_w : bQ k (b + 21 + 10) ow h) (b_e : bQ k (b + 21 + 13) oe h) (b_fp : bP k (b + 37) (b + 12) ofp h) (b_fw : bQ k (b + 37 + 10) ofw h) (b_fe : bQ k (b + 37 + 13) ofe h) (b_L : bL k lo oL h) (hd0 : b + 204 ≤ lo ∨ lo + 1 ≤ b) : vx_Met l yL_limitAngleAfter (rx_wsH yL_limitAngleAfter cL_limitAngleAfter 4 (some .int) [(0, 9, 12, 13)]) (rx_rmX 8 159 1 6) (va_Pc [.ref b, .int x1, .ref lo] (rx_GN G k h n)) (va_Qi (fun r u => y.1 = r ∧ n ≤ u.2 ∧ bP k (b + 37) (b + 12) y.2.1 u.1 ∧ bQ k (b + 37 + 10) y.2.2.1 u.1 ∧ bQ k (b + 37 + 13) y.2.2.2.1 u.1 ∧ bL k lo y.2.2.2.2 u.1 ∧ rx_fr [(b + 37, 10), (b + 37 + 10, 3), (b + 37 + 13, 3), (lo, 1)] h u.1) (rx_B G k) (rx_A k)) (rx_XC G k (fun _ _ => False)) 1 6 (rx_A k) := by
  have s_B_fp : b + 1 ≤ b + 37 ∨ b + 37 + 10 ≤ b := by omega
  have s_B_fw : b + 1 ≤ b + 37 + 10 ∨ b + 37 + 10 + 3 ≤ b := by omega
  have s_B_fe : b + 1 ≤ b + 37 + 13 ∨ b + 37 + 13 + 3 ≤ b := by omega
  have s_s_fp : b + 12 + 9 ≤ b + 37 ∨ b + 37 + 10 ≤ b + 12 := by omega
  have s_s_fw : b + 12 + 9 ≤ b + 37 + 10 ∨ b + 37 + 10 + 3 ≤ b + 12 := by omega
  have s_s_fe : b + 12 + 9 ≤ b + 37 + 13 ∨ b + 37 + 13 + 3 ≤ b + 12 := by omega
  have s_p_fp : b + 21 + 10 ≤ b + 37 ∨ b + 37 + 10 ≤ b + 21 := by omega
  have s_p_fw : b + 21 + 10 ≤ b + 37 + 10 ∨ b + 37 + 10 + 3 ≤ b + 21 := by omega
  have s_p_fe : b + 21 + 10 ≤ b + 37 + 13 ∨ b + 37 + 13 + 3 ≤ b + 21 := by omega
  have s_w_fp : b + 21 + 10 + 3 ≤ b + 37 ∨ b + 37 + 10 ≤ b + 21 + 10 := by omega
  have s_w_fw : b + 21 + 10 + 3 ≤ b + 37 + 10 ∨ b + 37 + 10 + 3 ≤ b + 21 + 10 := by omega
  have s_w_fe : b + 21 + 10 + 3 ≤ b + 37 + 13 ∨ b + 37 + 13 + 3 ≤ b + 21 + 10 := by omega
  have s_e_fp : b + 21 + 13 + 3 ≤ b + 37 ∨ b + 37 + 10 ≤ b + 21 + 13 := by omega
  have s_e_fw : b + 21 + 13 + 3 ≤ b + 37 + 10 ∨ b + 37 + 10 + 3 ≤ b + 21 + 13 := by omega
  have s_e_fe : b + 21 + 13 + 3 ≤ b + 37 + 13 ∨ b + 37 + 13 + 3 ≤ b + 21 + 13 := by omega
  have s_L_fp : lo + 1 ≤ b + 37 ∨ b + 37 + 10 ≤ lo := by omega
  have s_L_fw : lo + 1 ≤ b + 37 + 10 ∨ b + 37 + 10 + 3 ≤ lo := by omega
  have s_L_fe : lo + 1 ≤ b + 37 + 13 ∨ b + 37 + 13 + 3 ≤ lo := by omega
  have s_B_L : b + 1 ≤ lo ∨ lo + 1 ≤ b := by omega
  have s_s_L : b + 12 + 9 ≤ lo ∨ lo + 1 ≤ b + 12 := by omega
  have s_p_L : b + 21 + 10 ≤ lo ∨ lo + 1 ≤ b + 21 := by omega
  have s_w_L : b + 21 + 10 + 3 ≤ lo ∨ lo + 1 ≤ b + 21 + 10 := by omega
  have s_e_L : b + 21 + 13 + 3 ≤ lo ∨ lo + 1 ≤ b + 21 + 13 := by omega
  have s_fp_L : b + 37 + 10 ≤ lo ∨ lo + 1 ≤ b + 37 := by omega
  have s_fw_L : b + 37 + 10 + 3 ≤ lo ∨ lo + 1 ≤ b + 37 + 10 := by omega
  have s_fe_L : b + 37 + 13 + 3 ≤ lo ∨ lo + 1 ≤ b + 37 + 13 := by omega
  refine rx_startH [(0, .ref b), (1, .int x1), (2, .ref lo)] rfl (Nat.le_of_ble_eq_true rfl) (by decide) (fun P9 E9 S9 M9 A9 B9 me9 c9 C htab hN => ?_)
  unfold F_L_limitAngleAfter at hF
  have fr : rx_fr [(b + 37, 10), (b + 37 + 10, 3), (b + 37 + 13, 3), (lo, 1)] h h := rx_fr0
  refine rx_aload_n C dL_limitAngleAfter_0 2 rfl ?_
  refine rx_iconst C dL_limitAngleAfter_1 (0 : Int32) (by decide) ?_
  refine rx_aload_n C dL_limitAngleAfter_2 0 rfl ?_
  refine rx_iload_n C dL_limitAngleAfter_3 1 rfl ?_
  replace hF := rx_biE hF; obtain ⟨y1, e_y1, hF⟩ := hF
  refine rx_xci (rx_rVX C (w_X8_limitAngleAfter hst e_y1 b_B b_s b_p b_w b_e b_fp b_fw b_fe) Y_X8_limitAngleAfter V_X8_limitAngleAfter m_L_85 (Or.inl ⟨_, _, _, _, b_B, rfl⟩) ⟨⟨rfl, rfl⟩, ⟨(Nat.le_of_ble_eq_true rfl), (Nat.le_of_ble_eq_true rfl)⟩, ⟨(Nat.le_of_ble_eq_true rfl), (Nat.le_of_ble_eq_true rfl)⟩⟩ rfl rfl (Nat.le_of_ble_eq_true rfl) dL_limitAngleAfter_4) (fun E hh n1 hx => ?_) (fun r hh n1 hpp => ?_)
  · obtain ⟨hx0, hx1, hx2, hx3⟩ := hx
    rw [if_neg hx0] at hF
    subst hx1
    replace hx2 : hh = h := hx2
    subst hx2
    by_cases d1 : y1.1 = (1 : Int32)
    · rw [if_pos d1] at hF
      cases hF
    · rw [if_neg d1] at hF
      by_cases d2 : y1.1 = (2 : Int32)
      · rw [if_pos d2] at hF
        rw [show rx_ex y1.1 = rx_E2 by rw [d2]; rfl]
        refine rx_catch C htab [] 0 9 12 13 [] rfl (fun z hz => absurd hz List.not_mem_nil) (by decide) (by decide) xl_13 xc_2 (fun q9 => ?_)
        refine rx_astore_n C dL_limitAngleAfter_12 (by decide) [(3, .ref q9), (0, .ref b), (1, .int x1), (2, .ref lo)] rfl ?_
        refine rx_iconst C dL_limitAngleAfter_13 (1 : Int32) (by decide) ?_
        obtain rfl := Option.some.inj hF
        exact rx_xret (rx_iret C dL_limitAngleAfter_14 (Nat.le_of_ble_eq_true rfl) (Nat.le_of_ble_eq_true rfl) ⟨rfl, hx3, b_fp, b_fw, b_fe, b_L, fr⟩)
      · rw [if_neg d2] at hF
        cases hF
  obtain ⟨hz0_y1, rfl, hn, c_fp, c_fw, c_fe, ff⟩ := hpp
  replace hn : n = n1 := Eq.symm hn
  subst hn
  replace b_fp : bP k (b + 37) (b + 12) y1.2.2.1 hh := c_fp
  clear c_fp
  replace b_fw : bQ k (b + 37 + 10) y1.2.2.2.1 hh := c_fw
  clear c_fw
  replace b_fe : bQ k (b + 37 + 13) y1.2.2.2.2 hh := c_fe
  clear c_fe
  replace ff : rx_fr [(b + 37, 10), (b + 37 + 10, 3), (b + 37 + 13, 3)] _ hh := ff
  replace b_B := b_B.keep ff ⟨s_B_fp, s_B_fw, s_B_fe, trivial⟩
  replace b_s := b_s.keep ff ⟨s_s_fp, s_s_fw, s_s_fe, trivial⟩
  replace b_p := b_p.keep ff ⟨s_p_fp, s_p_fw, s_p_fe, trivial⟩
  replace b_w := b_w.keep ff ⟨s_w_fp, s_w_fw, s_w_fe, trivial⟩
  replace b_e := b_e.keep ff ⟨s_e_fp, s_e_fw, s_e_fe, trivial⟩
  replace b_L := b_L.keep ff ⟨s_L_fp, s_L_fw, s_L_fe, trivial⟩
  replace fr := rx_frt fr ff (fun a ha => ⟨ha.1, ha.2.1, ha.2.2.1, trivial⟩)
  rw [if_pos hz0_y1] at hF
  refine rx_i2l C dL_limitAngleAfter_7 ?_
  replace hF := rx_leE hF; obtain ⟨o_L_2, e_o_L_2, hF⟩ := hF
  refine rx_aL C dL_limitAngleAfter_8 b_L e_o_L_2 (fun hh c_L ff => ?_)
  replace b_L := c_L
  replace b_B := b_B.keep ff ⟨s_B_L, trivial⟩
  replace b_s := b_s.keep ff ⟨s_s_L, trivial⟩
  replace b_p := b_p.keep ff ⟨s_p_L, trivial⟩
  replace b_w := b_w.keep ff ⟨s_w_L, trivial⟩
  replace b_e := b_e.keep ff ⟨s_e_L, trivial⟩
  replace b_fp := b_fp.keep ff ⟨s_fp_L, trivial⟩
  replace b_fw := b_fw.keep ff ⟨s_fw_L, trivial⟩
  replace b_fe := b_fe.keep ff ⟨s_fe_L, trivial⟩
  replace fr := rx_frt fr ff (fun a ha => ⟨ha.2.2.2.1, trivial⟩)
  refine rx_goto C dL_limitAngleAfter_9 15 (by decide) ?_
  refine rx_iconst C dL_limitAngleAfter_15 (0 : Int32) (by decide) ?_
  obtain rfl := Option.some.inj hF
  exact rx_xret (rx_iret C dL_limitAngleAfter_16 (Nat.le_of_ble_eq_true rfl) (Nat.le_of_ble_eq_true rfl) ⟨rfl, Nat.le_refl _, b_fp, b_fw, b_fe, b_L, fr⟩)
def F_L_crossingObstacle (oB : ob) (os : ob) (op : ob) (ow : ob) (oe : ob) (oL : (Nat → Int64)) (x1 : Int32) : Option (Int32 × (Nat → Int64)) := (F_X8_crossingObstacle oB os op ow oe x1).bind fun y1 => if y1.1 = (0 : Int32) then (rx_le (vp_updL oL 0 y1.2.toInt64) fun o_L_2 => some ((0 : Int32), o_L_2)) else (if y1.1 = (1 : Int32) then (some ((1 : Int32), oL)) else (if y1.1 = (2 : Int32) then (none) else (none)))
set_option maxRecDepth 100000 in
set_option maxHeartbeats 4000000 in
theorem w_L_crossingObstacle {b lo : Nat} {oB : ob} {os : ob} {op : ob} {ow : ob} {oe : ob} {oL : (Nat → Int64)} {x1 : Int32} {y : Int32 × (Nat → Int64)} (hst : l.stackTraces = false) (hF : F_L_crossingObstacle oB os op ow oe oL x1 = some y) (b_B : bB k b oB h) (b_s : bS k (b + 12) os h) (b_p : bP k (b + 21) (b + 12) op h) (b_w : bQ k (b + 21 + 10) ow h) (b_e : bQ k (b + 21 + 13) oe h) (b_L : bL k lo oL h) (hd0 : b + 204 ≤ lo ∨ lo + 1 ≤ b) : vx_Met l yL_crossingObstacle (rx_wsH yL_crossingObstacle cL_crossingObstacle 4 (some .int) [(0, 9, 12, 19)]) (rx_rmX 8 125 1 6) (va_Pc [.ref b, .int x1, .ref lo] (rx_GN G k h n)) (va_Qi (fun r u => y.1 = r ∧ n ≤ u.2 ∧ bL k lo y.2 u.1 ∧ rx_fr [(lo, 1)] h u.1) (rx_B G k) (rx_A k)) (rx_XC G k (fun _ _ => False)) 1 6 (rx_A k) := by
  have s_B_L : b + 1 ≤ lo ∨ lo + 1 ≤ b := by omega
  have s_s_L : b + 12 + 9 ≤ lo ∨ lo + 1 ≤ b + 12 := by omega
  have s_p_L : b + 21 + 10 ≤ lo ∨ lo + 1 ≤ b + 21 := by omega
  have s_w_L : b + 21 + 10 + 3 ≤ lo ∨ lo + 1 ≤ b + 21 + 10 := by omega
  have s_e_L : b + 21 + 13 + 3 ≤ lo ∨ lo + 1 ≤ b + 21 + 13 := by omega
  refine rx_startH [(0, .ref b), (1, .int x1), (2, .ref lo)] rfl (Nat.le_of_ble_eq_true rfl) (by decide) (fun P9 E9 S9 M9 A9 B9 me9 c9 C htab hN => ?_)
  unfold F_L_crossingObstacle at hF
  have fr : rx_fr [(lo, 1)] h h := rx_fr0
  refine rx_aload_n C dL_crossingObstacle_0 2 rfl ?_
  refine rx_iconst C dL_crossingObstacle_1 (0 : Int32) (by decide) ?_
  refine rx_aload_n C dL_crossingObstacle_2 0 rfl ?_
  refine rx_iload_n C dL_crossingObstacle_3 1 rfl ?_
  replace hF := rx_biE hF; obtain ⟨y1, e_y1, hF⟩ := hF
  refine rx_xci (rx_rVX C (w_X8_crossingObstacle hst e_y1 b_B b_s b_p b_w b_e) Y_X8_crossingObstacle V_X8_crossingObstacle m_L_88 (Or.inl ⟨_, _, _, _, b_B, rfl⟩) ⟨⟨rfl, rfl⟩, ⟨(Nat.le_of_ble_eq_true rfl), (Nat.le_of_ble_eq_true rfl)⟩, ⟨(Nat.le_of_ble_eq_true rfl), (Nat.le_of_ble_eq_true rfl)⟩⟩ rfl rfl (Nat.le_of_ble_eq_true rfl) dL_crossingObstacle_4) (fun E hh n1 hx => ?_) (fun r hh n1 hpp => ?_)
  · obtain ⟨hx0, hx1, hx2, hx3⟩ := hx
    rw [if_neg hx0] at hF
    subst hx1
    replace hx2 : hh = h := hx2
    subst hx2
    by_cases d1 : y1.1 = (1 : Int32)
    · rw [if_pos d1] at hF
      rw [show rx_ex y1.1 = rx_E1 by rw [d1]; rfl]
      refine rx_catch C htab [] 0 9 12 19 [] rfl (fun z hz => absurd hz List.not_mem_nil) (by decide) (by decide) xl_19 xc_1 (fun q9 => ?_)
      refine rx_astore_n C dL_crossingObstacle_12 (by decide) [(3, .ref q9), (0, .ref b), (1, .int x1), (2, .ref lo)] rfl ?_
      refine rx_iconst C dL_crossingObstacle_13 (1 : Int32) (by decide) ?_
      obtain rfl := Option.some.inj hF
      exact rx_xret (rx_iret C dL_crossingObstacle_14 (Nat.le_of_ble_eq_true rfl) (Nat.le_of_ble_eq_true rfl) ⟨rfl, hx3, b_L, fr⟩)
    · rw [if_neg d1] at hF
      by_cases d2 : y1.1 = (2 : Int32)
      · rw [if_pos d2] at hF
        cases hF
      · rw [if_neg d2] at hF
        cases hF
  obtain ⟨hz0_y1, rfl, hu⟩ := hpp
  cases hu
  rw [if_pos hz0_y1] at hF
  refine rx_i2l C dL_crossingObstacle_7 ?_
  replace hF := rx_leE hF; obtain ⟨o_L_2, e_o_L_2, hF⟩ := hF
  refine rx_aL C dL_crossingObstacle_8 b_L e_o_L_2 (fun hh c_L ff => ?_)
  replace b_L := c_L
  replace b_B := b_B.keep ff ⟨s_B_L, trivial⟩
  replace b_s := b_s.keep ff ⟨s_s_L, trivial⟩
  replace b_p := b_p.keep ff ⟨s_p_L, trivial⟩
  replace b_w := b_w.keep ff ⟨s_w_L, trivial⟩
  replace b_e := b_e.keep ff ⟨s_e_L, trivial⟩
  replace fr := rx_frt fr ff (fun a ha => ⟨ha.1, trivial⟩)
  refine rx_goto C dL_crossingObstacle_9 15 (by decide) ?_
  refine rx_iconst C dL_crossingObstacle_15 (0 : Int32) (by decide) ?_
  obtain rfl := Option.some.inj hF
  exact rx_xret (rx_iret C dL_crossingObstacle_16 (Nat.le_of_ble_eq_true rfl) (Nat.le_of_ble_eq_true rfl) ⟨rfl, Nat.le_refl _, b_L, fr⟩)
def F_L_dropCoins (oB : ob) (os : ob) (op : ob) (ow : ob) (oe : ob) (oH : hst) (oL : (Nat → Int64)) (x1 : Int32) (x2 : Int32) : Option (Int32 × ob × hst × (Nat → Int64)) := (F_X8_dropCoins oB os op ow oe oH x1 x2).bind fun y1 => if y1.1 = (0 : Int32) then (rx_le (vp_updL oL 0 y1.2.1.toInt64) fun o_L_2 => some ((0 : Int32), y1.2.2.1, y1.2.2.2, o_L_2)) else (if y1.1 = (1 : Int32) then (some ((1 : Int32), op, oH, oL)) else (if y1.1 = (2 : Int32) then (some ((2 : Int32), op, oH, oL)) else (some ((3 : Int32), op, oH, oL))))
set_option maxRecDepth 100000 in
set_option maxHeartbeats 4000000 in
theorem w_L_dropCoins {b lo : Nat} {oB : ob} {os : ob} {op : ob} {ow : ob} {oe : ob} {oH : hst} {oL : (Nat → Int64)} {x1 : Int32} {x2 : Int32} {y : Int32 × ob × hst × (Nat → Int64)} (hst : l.stackTraces = false) (hF : F_L_dropCoins oB os op ow oe oH oL x1 x2 = some y) (b_B : bB k b oB h) (b_s : bS k (b + 12) os h) (b_p : bP k (b + 21) (b + 12) op h) (b_w : bQ k (b + 21 + 10) ow h) (b_e : bQ k (b + 21 + 13) oe h) (b_H : bHH k (b + 69) (b + 12) oH h) (b_L : bL k lo oL h) (hd0 : b + 204 ≤ lo ∨ lo + 1 ≤ b) : vx_Met l yL_dropCoins (rx_wsH yL_dropCoins cL_dropCoins 5 (some .int) [(0, 10, 13, 19), (0, 10, 17, 13), (0, 10, 21, 94)]) (rx_rmX 8 171 1 6) (va_Pc [.ref b, .int x1, .int x2, .ref lo] (rx_GN G k h n)) (va_Qi (fun r u => y.1 = r ∧ n ≤ u.2 ∧ bP k (b + 21) (b + 12) y.2.1 u.1 ∧ bHH k (b + 69) (b + 12) y.2.2.1 u.1 ∧ bL k lo y.2.2.2 u.1 ∧ rx_fr [(b + 21, 10), (b + 69, 130), (lo, 1)] h u.1) (rx_B G k) (rx_A k)) (rx_XC G k (fun _ _ => False)) 1 6 (rx_A k) := by
  have s_B_p : b + 1 ≤ b + 21 ∨ b + 21 + 10 ≤ b := by omega
  have s_B_H : b + 1 ≤ b + 69 ∨ b + 69 + 130 ≤ b := by omega
  have s_s_p : b + 12 + 9 ≤ b + 21 ∨ b + 21 + 10 ≤ b + 12 := by omega
  have s_s_H : b + 12 + 9 ≤ b + 69 ∨ b + 69 + 130 ≤ b + 12 := by omega
  have s_w_p : b + 21 + 10 + 3 ≤ b + 21 ∨ b + 21 + 10 ≤ b + 21 + 10 := by omega
  have s_w_H : b + 21 + 10 + 3 ≤ b + 69 ∨ b + 69 + 130 ≤ b + 21 + 10 := by omega
  have s_e_p : b + 21 + 13 + 3 ≤ b + 21 ∨ b + 21 + 10 ≤ b + 21 + 13 := by omega
  have s_e_H : b + 21 + 13 + 3 ≤ b + 69 ∨ b + 69 + 130 ≤ b + 21 + 13 := by omega
  have s_L_p : lo + 1 ≤ b + 21 ∨ b + 21 + 10 ≤ lo := by omega
  have s_L_H : lo + 1 ≤ b + 69 ∨ b + 69 + 130 ≤ lo := by omega
  have s_B_L : b + 1 ≤ lo ∨ lo + 1 ≤ b := by omega
  have s_s_L : b + 12 + 9 ≤ lo ∨ lo + 1 ≤ b + 12 := by omega
  have s_p_L : b + 21 + 10 ≤ lo ∨ lo + 1 ≤ b + 21 := by omega
  have s_w_L : b + 21 + 10 + 3 ≤ lo ∨ lo + 1 ≤ b + 21 + 10 := by omega
  have s_e_L : b + 21 + 13 + 3 ≤ lo ∨ lo + 1 ≤ b + 21 + 13 := by omega
  have s_H_L : b + 69 + 130 ≤ lo ∨ lo + 1 ≤ b + 69 := by omega
  refine rx_startH [(0, .ref b), (1, .int x1), (2, .int x2), (3, .ref lo)] rfl (Nat.le_of_ble_eq_true rfl) (by decide) (fun P9 E9 S9 M9 A9 B9 me9 c9 C htab hN => ?_)
  unfold F_L_dropCoins at hF
  have fr : rx_fr [(b + 21, 10), (b + 69, 130), (lo, 1)] h h := rx_fr0
  refine rx_aload_n C dL_dropCoins_0 3 rfl ?_
  refine rx_iconst C dL_dropCoins_1 (0 : Int32) (by decide) ?_
  refine rx_aload_n C dL_dropCoins_2 0 rfl ?_
  refine rx_iload_n C dL_dropCoins_3 1 rfl ?_
  refine rx_iload_n C dL_dropCoins_4 2 rfl ?_
  replace hF := rx_biE hF; obtain ⟨y1, e_y1, hF⟩ := hF
  refine rx_xci (rx_rVX C (w_X8_dropCoins hst e_y1 b_B b_s b_p b_w b_e b_H) Y_X8_dropCoins V_X8_dropCoins m_L_91 (Or.inl ⟨_, _, _, _, b_B, rfl⟩) ⟨⟨rfl, rfl⟩, ⟨(Nat.le_of_ble_eq_true rfl), (Nat.le_of_ble_eq_true rfl)⟩, ⟨(Nat.le_of_ble_eq_true rfl), (Nat.le_of_ble_eq_true rfl)⟩⟩ rfl rfl (Nat.le_of_ble_eq_true rfl) dL_dropCoins_5) (fun E hh n1 hx => ?_) (fun r hh n1 hpp => ?_)
  · obtain ⟨hx0, hx1, hx2, hx3⟩ := hx
    rw [if_neg hx0] at hF
    subst hx1
    replace hx2 : hh = h := hx2
    subst hx2
    by_cases d1 : y1.1 = (1 : Int32)
    · rw [if_pos d1] at hF
      rw [show rx_ex y1.1 = rx_E1 by rw [d1]; rfl]
      refine rx_catch C htab [] 0 10 13 19 [(0, 10, 17, 13), (0, 10, 21, 94)] rfl (fun z hz => absurd hz List.not_mem_nil) (by decide) (by decide) xl_19 xc_1 (fun q9 => ?_)
      refine rx_astore C dL_dropCoins_13 (by decide) [(4, .ref q9), (0, .ref b), (1, .int x1), (2, .int x2), (3, .ref lo)] rfl ?_
      refine rx_iconst C dL_dropCoins_15 (1 : Int32) (by decide) ?_
      obtain rfl := Option.some.inj hF
      exact rx_xret (rx_iret C dL_dropCoins_16 (Nat.le_of_ble_eq_true rfl) (Nat.le_of_ble_eq_true rfl) ⟨rfl, hx3, b_p, b_H, b_L, fr⟩)
    · rw [if_neg d1] at hF
      by_cases d2 : y1.1 = (2 : Int32)
      · rw [if_pos d2] at hF
        rw [show rx_ex y1.1 = rx_E2 by rw [d2]; rfl]
        refine rx_catch C htab [(0, 10, 13, 19)] 0 10 17 13 [(0, 10, 21, 94)] rfl (fun z hz => by
          simp only [List.mem_cons, List.not_mem_nil, or_false] at hz
          rcases hz with rfl
          · exact ⟨by decide, _, xl_19, hN.2.2.1⟩) (by decide) (by decide) xl_13 xc_2 (fun q9 => ?_)
        refine rx_astore C dL_dropCoins_17 (by decide) [(4, .ref q9), (0, .ref b), (1, .int x1), (2, .int x2), (3, .ref lo)] rfl ?_
        refine rx_iconst C dL_dropCoins_19 (2 : Int32) (by decide) ?_
        obtain rfl := Option.some.inj hF
        exact rx_xret (rx_iret C dL_dropCoins_20 (Nat.le_of_ble_eq_true rfl) (Nat.le_of_ble_eq_true rfl) ⟨rfl, hx3, b_p, b_H, b_L, fr⟩)
      · rw [if_neg d2] at hF
        rw [show rx_ex y1.1 = rx_E3 by unfold rx_ex; rw [if_neg d1, if_neg d2]]
        refine rx_catch C htab [(0, 10, 13, 19), (0, 10, 17, 13)] 0 10 21 94 [] rfl (fun z hz => by
          simp only [List.mem_cons, List.not_mem_nil, or_false] at hz
          rcases hz with rfl | rfl
          · exact ⟨by decide, _, xl_19, hN.2.2.2.2.1⟩
          · exact ⟨by decide, _, xl_13, hN.2.2.2.2.2⟩) (by decide) (by decide) xl_94 xc_3 (fun q9 => ?_)
        refine rx_astore C dL_dropCoins_21 (by decide) [(4, .ref q9), (0, .ref b), (1, .int x1), (2, .int x2), (3, .ref lo)] rfl ?_
        refine rx_iconst C dL_dropCoins_23 (3 : Int32) (by decide) ?_
        obtain rfl := Option.some.inj hF
        exact rx_xret (rx_iret C dL_dropCoins_24 (Nat.le_of_ble_eq_true rfl) (Nat.le_of_ble_eq_true rfl) ⟨rfl, hx3, b_p, b_H, b_L, fr⟩)
  obtain ⟨hz0_y1, rfl, hn, c_p, c_H, ff⟩ := hpp
  replace hn : n = n1 := Eq.symm hn
  subst hn
  replace b_p : bP k (b + 21) (b + 12) y1.2.2.1 hh := c_p
  clear c_p
  replace b_H : bHH k (b + 69) (b + 12) y1.2.2.2 hh := c_H
  clear c_H
  replace ff : rx_fr [(b + 21, 10), (b + 69, 130)] _ hh := ff
  replace b_B := b_B.keep ff ⟨s_B_p, s_B_H, trivial⟩
  replace b_s := b_s.keep ff ⟨s_s_p, s_s_H, trivial⟩
  replace b_w := b_w.keep ff ⟨s_w_p, s_w_H, trivial⟩
  replace b_e := b_e.keep ff ⟨s_e_p, s_e_H, trivial⟩
  replace b_L := b_L.keep ff ⟨s_L_p, s_L_H, trivial⟩
  replace fr := rx_frt fr ff (fun a ha => ⟨ha.1, ha.2.1, trivial⟩)
  rw [if_pos hz0_y1] at hF
  refine rx_i2l C dL_dropCoins_8 ?_
  replace hF := rx_leE hF; obtain ⟨o_L_2, e_o_L_2, hF⟩ := hF
  refine rx_aL C dL_dropCoins_9 b_L e_o_L_2 (fun hh c_L ff => ?_)
  replace b_L := c_L
  replace b_B := b_B.keep ff ⟨s_B_L, trivial⟩
  replace b_s := b_s.keep ff ⟨s_s_L, trivial⟩
  replace b_p := b_p.keep ff ⟨s_p_L, trivial⟩
  replace b_w := b_w.keep ff ⟨s_w_L, trivial⟩
  replace b_e := b_e.keep ff ⟨s_e_L, trivial⟩
  replace b_H := b_H.keep ff ⟨s_H_L, trivial⟩
  replace fr := rx_frt fr ff (fun a ha => ⟨ha.2.2.1, trivial⟩)
  refine rx_goto C dL_dropCoins_10 25 (by decide) ?_
  refine rx_iconst C dL_dropCoins_25 (0 : Int32) (by decide) ?_
  obtain rfl := Option.some.inj hF
  exact rx_xret (rx_iret C dL_dropCoins_26 (Nat.le_of_ble_eq_true rfl) (Nat.le_of_ble_eq_true rfl) ⟨rfl, Nat.le_refl _, b_p, b_H, b_L, fr⟩)
def F_L_pickCoins (oB : ob) (os : ob) (op : ob) (ow : ob) (oe : ob) (oH : hst) (oL : (Nat → Int64)) (x1 : Int32) (x2 : Int32) : Option (Int32 × ob × hst × (Nat → Int64)) := (F_X8_pickCoins oB os op ow oe oH x1 x2).bind fun y1 => if y1.1 = (0 : Int32) then (rx_le (vp_updL oL 0 y1.2.1.toInt64) fun o_L_2 => some ((0 : Int32), y1.2.2.1, y1.2.2.2, o_L_2)) else (if y1.1 = (1 : Int32) then (some ((1 : Int32), op, oH, oL)) else (if y1.1 = (2 : Int32) then (some ((2 : Int32), op, oH, oL)) else (some ((3 : Int32), op, oH, oL))))
set_option maxRecDepth 100000 in
set_option maxHeartbeats 4000000 in
theorem w_L_pickCoins {b lo : Nat} {oB : ob} {os : ob} {op : ob} {ow : ob} {oe : ob} {oH : hst} {oL : (Nat → Int64)} {x1 : Int32} {x2 : Int32} {y : Int32 × ob × hst × (Nat → Int64)} (hst : l.stackTraces = false) (hF : F_L_pickCoins oB os op ow oe oH oL x1 x2 = some y) (b_B : bB k b oB h) (b_s : bS k (b + 12) os h) (b_p : bP k (b + 21) (b + 12) op h) (b_w : bQ k (b + 21 + 10) ow h) (b_e : bQ k (b + 21 + 13) oe h) (b_H : bHH k (b + 69) (b + 12) oH h) (b_L : bL k lo oL h) (hd0 : b + 204 ≤ lo ∨ lo + 1 ≤ b) : vx_Met l yL_pickCoins (rx_wsH yL_pickCoins cL_pickCoins 5 (some .int) [(0, 10, 13, 19), (0, 10, 17, 13), (0, 10, 21, 94)]) (rx_rmX 8 171 1 6) (va_Pc [.ref b, .int x1, .int x2, .ref lo] (rx_GN G k h n)) (va_Qi (fun r u => y.1 = r ∧ n ≤ u.2 ∧ bP k (b + 21) (b + 12) y.2.1 u.1 ∧ bHH k (b + 69) (b + 12) y.2.2.1 u.1 ∧ bL k lo y.2.2.2 u.1 ∧ rx_fr [(b + 21, 10), (b + 69, 130), (lo, 1)] h u.1) (rx_B G k) (rx_A k)) (rx_XC G k (fun _ _ => False)) 1 6 (rx_A k) := by
  have s_B_p : b + 1 ≤ b + 21 ∨ b + 21 + 10 ≤ b := by omega
  have s_B_H : b + 1 ≤ b + 69 ∨ b + 69 + 130 ≤ b := by omega
  have s_s_p : b + 12 + 9 ≤ b + 21 ∨ b + 21 + 10 ≤ b + 12 := by omega
  have s_s_H : b + 12 + 9 ≤ b + 69 ∨ b + 69 + 130 ≤ b + 12 := by omega
  have s_w_p : b + 21 + 10 + 3 ≤ b + 21 ∨ b + 21 + 10 ≤ b + 21 + 10 := by omega
  have s_w_H : b + 21 + 10 + 3 ≤ b + 69 ∨ b + 69 + 130 ≤ b + 21 + 10 := by omega
  have s_e_p : b + 21 + 13 + 3 ≤ b + 21 ∨ b + 21 + 10 ≤ b + 21 + 13 := by omega
  have s_e_H : b + 21 + 13 + 3 ≤ b + 69 ∨ b + 69 + 130 ≤ b + 21 + 13 := by omega
  have s_L_p : lo + 1 ≤ b + 21 ∨ b + 21 + 10 ≤ lo := by omega
  have s_L_H : lo + 1 ≤ b + 69 ∨ b + 69 + 130 ≤ lo := by omega
  have s_B_L : b + 1 ≤ lo ∨ lo + 1 ≤ b := by omega
  have s_s_L : b + 12 + 9 ≤ lo ∨ lo + 1 ≤ b + 12 := by omega
  have s_p_L : b + 21 + 10 ≤ lo ∨ lo + 1 ≤ b + 21 := by omega
  have s_w_L : b + 21 + 10 + 3 ≤ lo ∨ lo + 1 ≤ b + 21 + 10 := by omega
  have s_e_L : b + 21 + 13 + 3 ≤ lo ∨ lo + 1 ≤ b + 21 + 13 := by omega
  have s_H_L : b + 69 + 130 ≤ lo ∨ lo + 1 ≤ b + 69 := by omega
  refine rx_startH [(0, .ref b), (1, .int x1), (2, .int x2), (3, .ref lo)] rfl (Nat.le_of_ble_eq_true rfl) (by decide) (fun P9 E9 S9 M9 A9 B9 me9 c9 C htab hN => ?_)
  unfold F_L_pickCoins at hF
  have fr : rx_fr [(b + 21, 10), (b + 69, 130), (lo, 1)] h h := rx_fr0
  refine rx_aload_n C dL_pickCoins_0 3 rfl ?_
  refine rx_iconst C dL_pickCoins_1 (0 : Int32) (by decide) ?_
  refine rx_aload_n C dL_pickCoins_2 0 rfl ?_
  refine rx_iload_n C dL_pickCoins_3 1 rfl ?_
  refine rx_iload_n C dL_pickCoins_4 2 rfl ?_
  replace hF := rx_biE hF; obtain ⟨y1, e_y1, hF⟩ := hF
  refine rx_xci (rx_rVX C (w_X8_pickCoins hst e_y1 b_B b_s b_p b_w b_e b_H) Y_X8_pickCoins V_X8_pickCoins m_L_96 (Or.inl ⟨_, _, _, _, b_B, rfl⟩) ⟨⟨rfl, rfl⟩, ⟨(Nat.le_of_ble_eq_true rfl), (Nat.le_of_ble_eq_true rfl)⟩, ⟨(Nat.le_of_ble_eq_true rfl), (Nat.le_of_ble_eq_true rfl)⟩⟩ rfl rfl (Nat.le_of_ble_eq_true rfl) dL_pickCoins_5) (fun E hh n1 hx => ?_) (fun r hh n1 hpp => ?_)
  · obtain ⟨hx0, hx1, hx2, hx3⟩ := hx
    rw [if_neg hx0] at hF
    subst hx1
    replace hx2 : hh = h := hx2
    subst hx2
    by_cases d1 : y1.1 = (1 : Int32)
    · rw [if_pos d1] at hF
      rw [show rx_ex y1.1 = rx_E1 by rw [d1]; rfl]
      refine rx_catch C htab [] 0 10 13 19 [(0, 10, 17, 13), (0, 10, 21, 94)] rfl (fun z hz => absurd hz List.not_mem_nil) (by decide) (by decide) xl_19 xc_1 (fun q9 => ?_)
      refine rx_astore C dL_pickCoins_13 (by decide) [(4, .ref q9), (0, .ref b), (1, .int x1), (2, .int x2), (3, .ref lo)] rfl ?_
      refine rx_iconst C dL_pickCoins_15 (1 : Int32) (by decide) ?_
      obtain rfl := Option.some.inj hF
      exact rx_xret (rx_iret C dL_pickCoins_16 (Nat.le_of_ble_eq_true rfl) (Nat.le_of_ble_eq_true rfl) ⟨rfl, hx3, b_p, b_H, b_L, fr⟩)
    · rw [if_neg d1] at hF
      by_cases d2 : y1.1 = (2 : Int32)
      · rw [if_pos d2] at hF
        rw [show rx_ex y1.1 = rx_E2 by rw [d2]; rfl]
        refine rx_catch C htab [(0, 10, 13, 19)] 0 10 17 13 [(0, 10, 21, 94)] rfl (fun z hz => by
          simp only [List.mem_cons, List.not_mem_nil, or_false] at hz
          rcases hz with rfl
          · exact ⟨by decide, _, xl_19, hN.2.2.1⟩) (by decide) (by decide) xl_13 xc_2 (fun q9 => ?_)
        refine rx_astore C dL_pickCoins_17 (by decide) [(4, .ref q9), (0, .ref b), (1, .int x1), (2, .int x2), (3, .ref lo)] rfl ?_
        refine rx_iconst C dL_pickCoins_19 (2 : Int32) (by decide) ?_
        obtain rfl := Option.some.inj hF
        exact rx_xret (rx_iret C dL_pickCoins_20 (Nat.le_of_ble_eq_true rfl) (Nat.le_of_ble_eq_true rfl) ⟨rfl, hx3, b_p, b_H, b_L, fr⟩)
      · rw [if_neg d2] at hF
        rw [show rx_ex y1.1 = rx_E3 by unfold rx_ex; rw [if_neg d1, if_neg d2]]
        refine rx_catch C htab [(0, 10, 13, 19), (0, 10, 17, 13)] 0 10 21 94 [] rfl (fun z hz => by
          simp only [List.mem_cons, List.not_mem_nil, or_false] at hz
          rcases hz with rfl | rfl
          · exact ⟨by decide, _, xl_19, hN.2.2.2.2.1⟩
          · exact ⟨by decide, _, xl_13, hN.2.2.2.2.2⟩) (by decide) (by decide) xl_94 xc_3 (fun q9 => ?_)
        refine rx_astore C dL_pickCoins_21 (by decide) [(4, .ref q9), (0, .ref b), (1, .int x1), (2, .int x2), (3, .ref lo)] rfl ?_
        refine rx_iconst C dL_pickCoins_23 (3 : Int32) (by decide) ?_
        obtain rfl := Option.some.inj hF
        exact rx_xret (rx_iret C dL_pickCoins_24 (Nat.le_of_ble_eq_true rfl) (Nat.le_of_ble_eq_true rfl) ⟨rfl, hx3, b_p, b_H, b_L, fr⟩)
  obtain ⟨hz0_y1, rfl, hn, c_p, c_H, ff⟩ := hpp
  replace hn : n = n1 := Eq.symm hn
  subst hn
  replace b_p : bP k (b + 21) (b + 12) y1.2.2.1 hh := c_p
  clear c_p
  replace b_H : bHH k (b + 69) (b + 12) y1.2.2.2 hh := c_H
  clear c_H
  replace ff : rx_fr [(b + 21, 10), (b + 69, 130)] _ hh := ff
  replace b_B := b_B.keep ff ⟨s_B_p, s_B_H, trivial⟩
  replace b_s := b_s.keep ff ⟨s_s_p, s_s_H, trivial⟩
  replace b_w := b_w.keep ff ⟨s_w_p, s_w_H, trivial⟩
  replace b_e := b_e.keep ff ⟨s_e_p, s_e_H, trivial⟩
  replace b_L := b_L.keep ff ⟨s_L_p, s_L_H, trivial⟩
  replace fr := rx_frt fr ff (fun a ha => ⟨ha.1, ha.2.1, trivial⟩)
  rw [if_pos hz0_y1] at hF
  refine rx_i2l C dL_pickCoins_8 ?_
  replace hF := rx_leE hF; obtain ⟨o_L_2, e_o_L_2, hF⟩ := hF
  refine rx_aL C dL_pickCoins_9 b_L e_o_L_2 (fun hh c_L ff => ?_)
  replace b_L := c_L
  replace b_B := b_B.keep ff ⟨s_B_L, trivial⟩
  replace b_s := b_s.keep ff ⟨s_s_L, trivial⟩
  replace b_p := b_p.keep ff ⟨s_p_L, trivial⟩
  replace b_w := b_w.keep ff ⟨s_w_L, trivial⟩
  replace b_e := b_e.keep ff ⟨s_e_L, trivial⟩
  replace b_H := b_H.keep ff ⟨s_H_L, trivial⟩
  replace fr := rx_frt fr ff (fun a ha => ⟨ha.2.2.1, trivial⟩)
  refine rx_goto C dL_pickCoins_10 25 (by decide) ?_
  refine rx_iconst C dL_pickCoins_25 (0 : Int32) (by decide) ?_
  obtain rfl := Option.some.inj hF
  exact rx_xret (rx_iret C dL_pickCoins_26 (Nat.le_of_ble_eq_true rfl) (Nat.le_of_ble_eq_true rfl) ⟨rfl, Nat.le_refl _, b_p, b_H, b_L, fr⟩)
def F_L_layRoyalCoin (oB : ob) (os : ob) (op : ob) (ow : ob) (oe : ob) (oH : hst) (oL : (Nat → Int64)) (x1 : Int32) (x2 : Int32) : Option (Int32 × ob × hst × (Nat → Int64)) := (F_X8_layRoyalCoin oB os op ow oe oH x1 x2).bind fun y1 => if y1.1 = (0 : Int32) then (rx_le (vp_updL oL 0 y1.2.1.toInt64) fun o_L_2 => some ((0 : Int32), y1.2.2.1, y1.2.2.2, o_L_2)) else (if y1.1 = (1 : Int32) then (some ((1 : Int32), op, oH, oL)) else (if y1.1 = (2 : Int32) then (some ((2 : Int32), op, oH, oL)) else (some ((3 : Int32), op, oH, oL))))
set_option maxRecDepth 100000 in
set_option maxHeartbeats 4000000 in
theorem w_L_layRoyalCoin {b lo : Nat} {oB : ob} {os : ob} {op : ob} {ow : ob} {oe : ob} {oH : hst} {oL : (Nat → Int64)} {x1 : Int32} {x2 : Int32} {y : Int32 × ob × hst × (Nat → Int64)} (hst : l.stackTraces = false) (hF : F_L_layRoyalCoin oB os op ow oe oH oL x1 x2 = some y) (b_B : bB k b oB h) (b_s : bS k (b + 12) os h) (b_p : bP k (b + 21) (b + 12) op h) (b_w : bQ k (b + 21 + 10) ow h) (b_e : bQ k (b + 21 + 13) oe h) (b_H : bHH k (b + 69) (b + 12) oH h) (b_L : bL k lo oL h) (hd0 : b + 204 ≤ lo ∨ lo + 1 ≤ b) : vx_Met l yL_layRoyalCoin (rx_wsH yL_layRoyalCoin cL_layRoyalCoin 5 (some .int) [(0, 10, 13, 19), (0, 10, 17, 13), (0, 10, 21, 94)]) (rx_rmX 8 171 1 6) (va_Pc [.ref b, .int x1, .int x2, .ref lo] (rx_GN G k h n)) (va_Qi (fun r u => y.1 = r ∧ n ≤ u.2 ∧ bP k (b + 21) (b + 12) y.2.1 u.1 ∧ bHH k (b + 69) (b + 12) y.2.2.1 u.1 ∧ bL k lo y.2.2.2 u.1 ∧ rx_fr [(b + 21, 10), (b + 69, 130), (lo, 1)] h u.1) (rx_B G k) (rx_A k)) (rx_XC G k (fun _ _ => False)) 1 6 (rx_A k) := by
  have s_B_p : b + 1 ≤ b + 21 ∨ b + 21 + 10 ≤ b := by omega
  have s_B_H : b + 1 ≤ b + 69 ∨ b + 69 + 130 ≤ b := by omega
  have s_s_p : b + 12 + 9 ≤ b + 21 ∨ b + 21 + 10 ≤ b + 12 := by omega
  have s_s_H : b + 12 + 9 ≤ b + 69 ∨ b + 69 + 130 ≤ b + 12 := by omega
  have s_w_p : b + 21 + 10 + 3 ≤ b + 21 ∨ b + 21 + 10 ≤ b + 21 + 10 := by omega
  have s_w_H : b + 21 + 10 + 3 ≤ b + 69 ∨ b + 69 + 130 ≤ b + 21 + 10 := by omega
  have s_e_p : b + 21 + 13 + 3 ≤ b + 21 ∨ b + 21 + 10 ≤ b + 21 + 13 := by omega
  have s_e_H : b + 21 + 13 + 3 ≤ b + 69 ∨ b + 69 + 130 ≤ b + 21 + 13 := by omega
  have s_L_p : lo + 1 ≤ b + 21 ∨ b + 21 + 10 ≤ lo := by omega
  have s_L_H : lo + 1 ≤ b + 69 ∨ b + 69 + 130 ≤ lo := by omega
  have s_B_L : b + 1 ≤ lo ∨ lo + 1 ≤ b := by omega
  have s_s_L : b + 12 + 9 ≤ lo ∨ lo + 1 ≤ b + 12 := by omega
  have s_p_L : b + 21 + 10 ≤ lo ∨ lo + 1 ≤ b + 21 := by omega
  have s_w_L : b + 21 + 10 + 3 ≤ lo ∨ lo + 1 ≤ b + 21 + 10 := by omega
  have s_e_L : b + 21 + 13 + 3 ≤ lo ∨ lo + 1 ≤ b + 21 + 13 := by omega
  have s_H_L : b + 69 + 130 ≤ lo ∨ lo + 1 ≤ b + 69 := by omega
  refine rx_startH [(0, .ref b), (1, .int x1), (2, .int x2), (3, .ref lo)] rfl (Nat.le_of_ble_eq_true rfl) (by decide) (fun P9 E9 S9 M9 A9 B9 me9 c9 C htab hN => ?_)
  unfold F_L_layRoyalCoin at hF
  have fr : rx_fr [(b + 21, 10), (b + 69, 130), (lo, 1)] h h := rx_fr0
  refine rx_aload_n C dL_layRoyalCoin_0 3 rfl ?_
  refine rx_iconst C dL_layRoyalCoin_1 (0 : Int32) (by decide) ?_
  refine rx_aload_n C dL_layRoyalCoin_2 0 rfl ?_
  refine rx_iload_n C dL_layRoyalCoin_3 1 rfl ?_
  refine rx_iload_n C dL_layRoyalCoin_4 2 rfl ?_
  replace hF := rx_biE hF; obtain ⟨y1, e_y1, hF⟩ := hF
  refine rx_xci (rx_rVX C (w_X8_layRoyalCoin hst e_y1 b_B b_s b_p b_w b_e b_H) Y_X8_layRoyalCoin V_X8_layRoyalCoin m_L_99 (Or.inl ⟨_, _, _, _, b_B, rfl⟩) ⟨⟨rfl, rfl⟩, ⟨(Nat.le_of_ble_eq_true rfl), (Nat.le_of_ble_eq_true rfl)⟩, ⟨(Nat.le_of_ble_eq_true rfl), (Nat.le_of_ble_eq_true rfl)⟩⟩ rfl rfl (Nat.le_of_ble_eq_true rfl) dL_layRoyalCoin_5) (fun E hh n1 hx => ?_) (fun r hh n1 hpp => ?_)
  · obtain ⟨hx0, hx1, hx2, hx3⟩ := hx
    rw [if_neg hx0] at hF
    subst hx1
    replace hx2 : hh = h := hx2
    subst hx2
    by_cases d1 : y1.1 = (1 : Int32)
    · rw [if_pos d1] at hF
      rw [show rx_ex y1.1 = rx_E1 by rw [d1]; rfl]
      refine rx_catch C htab [] 0 10 13 19 [(0, 10, 17, 13), (0, 10, 21, 94)] rfl (fun z hz => absurd hz List.not_mem_nil) (by decide) (by decide) xl_19 xc_1 (fun q9 => ?_)
      refine rx_astore C dL_layRoyalCoin_13 (by decide) [(4, .ref q9), (0, .ref b), (1, .int x1), (2, .int x2), (3, .ref lo)] rfl ?_
      refine rx_iconst C dL_layRoyalCoin_15 (1 : Int32) (by decide) ?_
      obtain rfl := Option.some.inj hF
      exact rx_xret (rx_iret C dL_layRoyalCoin_16 (Nat.le_of_ble_eq_true rfl) (Nat.le_of_ble_eq_true rfl) ⟨rfl, hx3, b_p, b_H, b_L, fr⟩)
    · rw [if_neg d1] at hF
      by_cases d2 : y1.1 = (2 : Int32)
      · rw [if_pos d2] at hF
        rw [show rx_ex y1.1 = rx_E2 by rw [d2]; rfl]
        refine rx_catch C htab [(0, 10, 13, 19)] 0 10 17 13 [(0, 10, 21, 94)] rfl (fun z hz => by
          simp only [List.mem_cons, List.not_mem_nil, or_false] at hz
          rcases hz with rfl
          · exact ⟨by decide, _, xl_19, hN.2.2.1⟩) (by decide) (by decide) xl_13 xc_2 (fun q9 => ?_)
        refine rx_astore C dL_layRoyalCoin_17 (by decide) [(4, .ref q9), (0, .ref b), (1, .int x1), (2, .int x2), (3, .ref lo)] rfl ?_
        refine rx_iconst C dL_layRoyalCoin_19 (2 : Int32) (by decide) ?_
        obtain rfl := Option.some.inj hF
        exact rx_xret (rx_iret C dL_layRoyalCoin_20 (Nat.le_of_ble_eq_true rfl) (Nat.le_of_ble_eq_true rfl) ⟨rfl, hx3, b_p, b_H, b_L, fr⟩)
      · rw [if_neg d2] at hF
        rw [show rx_ex y1.1 = rx_E3 by unfold rx_ex; rw [if_neg d1, if_neg d2]]
        refine rx_catch C htab [(0, 10, 13, 19), (0, 10, 17, 13)] 0 10 21 94 [] rfl (fun z hz => by
          simp only [List.mem_cons, List.not_mem_nil, or_false] at hz
          rcases hz with rfl | rfl
          · exact ⟨by decide, _, xl_19, hN.2.2.2.2.1⟩
          · exact ⟨by decide, _, xl_13, hN.2.2.2.2.2⟩) (by decide) (by decide) xl_94 xc_3 (fun q9 => ?_)
        refine rx_astore C dL_layRoyalCoin_21 (by decide) [(4, .ref q9), (0, .ref b), (1, .int x1), (2, .int x2), (3, .ref lo)] rfl ?_
        refine rx_iconst C dL_layRoyalCoin_23 (3 : Int32) (by decide) ?_
        obtain rfl := Option.some.inj hF
        exact rx_xret (rx_iret C dL_layRoyalCoin_24 (Nat.le_of_ble_eq_true rfl) (Nat.le_of_ble_eq_true rfl) ⟨rfl, hx3, b_p, b_H, b_L, fr⟩)
  obtain ⟨hz0_y1, rfl, hn, c_p, c_H, ff⟩ := hpp
  replace hn : n = n1 := Eq.symm hn
  subst hn
  replace b_p : bP k (b + 21) (b + 12) y1.2.2.1 hh := c_p
  clear c_p
  replace b_H : bHH k (b + 69) (b + 12) y1.2.2.2 hh := c_H
  clear c_H
  replace ff : rx_fr [(b + 21, 10), (b + 69, 130)] _ hh := ff
  replace b_B := b_B.keep ff ⟨s_B_p, s_B_H, trivial⟩
  replace b_s := b_s.keep ff ⟨s_s_p, s_s_H, trivial⟩
  replace b_w := b_w.keep ff ⟨s_w_p, s_w_H, trivial⟩
  replace b_e := b_e.keep ff ⟨s_e_p, s_e_H, trivial⟩
  replace b_L := b_L.keep ff ⟨s_L_p, s_L_H, trivial⟩
  replace fr := rx_frt fr ff (fun a ha => ⟨ha.1, ha.2.1, trivial⟩)
  rw [if_pos hz0_y1] at hF
  refine rx_i2l C dL_layRoyalCoin_8 ?_
  replace hF := rx_leE hF; obtain ⟨o_L_2, e_o_L_2, hF⟩ := hF
  refine rx_aL C dL_layRoyalCoin_9 b_L e_o_L_2 (fun hh c_L ff => ?_)
  replace b_L := c_L
  replace b_B := b_B.keep ff ⟨s_B_L, trivial⟩
  replace b_s := b_s.keep ff ⟨s_s_L, trivial⟩
  replace b_p := b_p.keep ff ⟨s_p_L, trivial⟩
  replace b_w := b_w.keep ff ⟨s_w_L, trivial⟩
  replace b_e := b_e.keep ff ⟨s_e_L, trivial⟩
  replace b_H := b_H.keep ff ⟨s_H_L, trivial⟩
  replace fr := rx_frt fr ff (fun a ha => ⟨ha.2.2.1, trivial⟩)
  refine rx_goto C dL_layRoyalCoin_10 25 (by decide) ?_
  refine rx_iconst C dL_layRoyalCoin_25 (0 : Int32) (by decide) ?_
  obtain rfl := Option.some.inj hF
  exact rx_xret (rx_iret C dL_layRoyalCoin_26 (Nat.le_of_ble_eq_true rfl) (Nat.le_of_ble_eq_true rfl) ⟨rfl, Nat.le_refl _, b_p, b_H, b_L, fr⟩)
def F_L_liftRoyalCoin (oB : ob) (os : ob) (op : ob) (ow : ob) (oe : ob) (oH : hst) (oL : (Nat → Int64)) (x1 : Int32) (x2 : Int32) : Option (Int32 × ob × hst × (Nat → Int64)) := (F_X8_liftRoyalCoin oB os op ow oe oH x1 x2).bind fun y1 => if y1.1 = (0 : Int32) then (rx_le (vp_updL oL 0 y1.2.1.toInt64) fun o_L_2 => some ((0 : Int32), y1.2.2.1, y1.2.2.2, o_L_2)) else (if y1.1 = (1 : Int32) then (some ((1 : Int32), op, oH, oL)) else (if y1.1 = (2 : Int32) then (some ((2 : Int32), op, oH, oL)) else (some ((3 : Int32), op, oH, oL))))
set_option maxRecDepth 100000 in
set_option maxHeartbeats 4000000 in
theorem w_L_liftRoyalCoin {b lo : Nat} {oB : ob} {os : ob} {op : ob} {ow : ob} {oe : ob} {oH : hst} {oL : (Nat → Int64)} {x1 : Int32} {x2 : Int32} {y : Int32 × ob × hst × (Nat → Int64)} (hst : l.stackTraces = false) (hF : F_L_liftRoyalCoin oB os op ow oe oH oL x1 x2 = some y) (b_B : bB k b oB h) (b_s : bS k (b + 12) os h) (b_p : bP k (b + 21) (b + 12) op h) (b_w : bQ k (b + 21 + 10) ow h) (b_e : bQ k (b + 21 + 13) oe h) (b_H : bHH k (b + 69) (b + 12) oH h) (b_L : bL k lo oL h) (hd0 : b + 204 ≤ lo ∨ lo + 1 ≤ b) : vx_Met l yL_liftRoyalCoin (rx_wsH yL_liftRoyalCoin cL_liftRoyalCoin 5 (some .int) [(0, 10, 13, 19), (0, 10, 17, 13), (0, 10, 21, 94)]) (rx_rmX 8 171 1 6) (va_Pc [.ref b, .int x1, .int x2, .ref lo] (rx_GN G k h n)) (va_Qi (fun r u => y.1 = r ∧ n ≤ u.2 ∧ bP k (b + 21) (b + 12) y.2.1 u.1 ∧ bHH k (b + 69) (b + 12) y.2.2.1 u.1 ∧ bL k lo y.2.2.2 u.1 ∧ rx_fr [(b + 21, 10), (b + 69, 130), (lo, 1)] h u.1) (rx_B G k) (rx_A k)) (rx_XC G k (fun _ _ => False)) 1 6 (rx_A k) := by
  have s_B_p : b + 1 ≤ b + 21 ∨ b + 21 + 10 ≤ b := by omega
  have s_B_H : b + 1 ≤ b + 69 ∨ b + 69 + 130 ≤ b := by omega
  have s_s_p : b + 12 + 9 ≤ b + 21 ∨ b + 21 + 10 ≤ b + 12 := by omega
  have s_s_H : b + 12 + 9 ≤ b + 69 ∨ b + 69 + 130 ≤ b + 12 := by omega
  have s_w_p : b + 21 + 10 + 3 ≤ b + 21 ∨ b + 21 + 10 ≤ b + 21 + 10 := by omega
  have s_w_H : b + 21 + 10 + 3 ≤ b + 69 ∨ b + 69 + 130 ≤ b + 21 + 10 := by omega
  have s_e_p : b + 21 + 13 + 3 ≤ b + 21 ∨ b + 21 + 10 ≤ b + 21 + 13 := by omega
  have s_e_H : b + 21 + 13 + 3 ≤ b + 69 ∨ b + 69 + 130 ≤ b + 21 + 13 := by omega
  have s_L_p : lo + 1 ≤ b + 21 ∨ b + 21 + 10 ≤ lo := by omega
  have s_L_H : lo + 1 ≤ b + 69 ∨ b + 69 + 130 ≤ lo := by omega
  have s_B_L : b + 1 ≤ lo ∨ lo + 1 ≤ b := by omega
  have s_s_L : b + 12 + 9 ≤ lo ∨ lo + 1 ≤ b + 12 := by omega
  have s_p_L : b + 21 + 10 ≤ lo ∨ lo + 1 ≤ b + 21 := by omega
  have s_w_L : b + 21 + 10 + 3 ≤ lo ∨ lo + 1 ≤ b + 21 + 10 := by omega
  have s_e_L : b + 21 + 13 + 3 ≤ lo ∨ lo + 1 ≤ b + 21 + 13 := by omega
  have s_H_L : b + 69 + 130 ≤ lo ∨ lo + 1 ≤ b + 69 := by omega
  refine rx_startH [(0, .ref b), (1, .int x1), (2, .int x2), (3, .ref lo)] rfl (Nat.le_of_ble_eq_true rfl) (by decide) (fun P9 E9 S9 M9 A9 B9 me9 c9 C htab hN => ?_)
  unfold F_L_liftRoyalCoin at hF
  have fr : rx_fr [(b + 21, 10), (b + 69, 130), (lo, 1)] h h := rx_fr0
  refine rx_aload_n C dL_liftRoyalCoin_0 3 rfl ?_
  refine rx_iconst C dL_liftRoyalCoin_1 (0 : Int32) (by decide) ?_
  refine rx_aload_n C dL_liftRoyalCoin_2 0 rfl ?_
  refine rx_iload_n C dL_liftRoyalCoin_3 1 rfl ?_
  refine rx_iload_n C dL_liftRoyalCoin_4 2 rfl ?_
  replace hF := rx_biE hF; obtain ⟨y1, e_y1, hF⟩ := hF
  refine rx_xci (rx_rVX C (w_X8_liftRoyalCoin hst e_y1 b_B b_s b_p b_w b_e b_H) Y_X8_liftRoyalCoin V_X8_liftRoyalCoin m_L_102 (Or.inl ⟨_, _, _, _, b_B, rfl⟩) ⟨⟨rfl, rfl⟩, ⟨(Nat.le_of_ble_eq_true rfl), (Nat.le_of_ble_eq_true rfl)⟩, ⟨(Nat.le_of_ble_eq_true rfl), (Nat.le_of_ble_eq_true rfl)⟩⟩ rfl rfl (Nat.le_of_ble_eq_true rfl) dL_liftRoyalCoin_5) (fun E hh n1 hx => ?_) (fun r hh n1 hpp => ?_)
  · obtain ⟨hx0, hx1, hx2, hx3⟩ := hx
    rw [if_neg hx0] at hF
    subst hx1
    replace hx2 : hh = h := hx2
    subst hx2
    by_cases d1 : y1.1 = (1 : Int32)
    · rw [if_pos d1] at hF
      rw [show rx_ex y1.1 = rx_E1 by rw [d1]; rfl]
      refine rx_catch C htab [] 0 10 13 19 [(0, 10, 17, 13), (0, 10, 21, 94)] rfl (fun z hz => absurd hz List.not_mem_nil) (by decide) (by decide) xl_19 xc_1 (fun q9 => ?_)
      refine rx_astore C dL_liftRoyalCoin_13 (by decide) [(4, .ref q9), (0, .ref b), (1, .int x1), (2, .int x2), (3, .ref lo)] rfl ?_
      refine rx_iconst C dL_liftRoyalCoin_15 (1 : Int32) (by decide) ?_
      obtain rfl := Option.some.inj hF
      exact rx_xret (rx_iret C dL_liftRoyalCoin_16 (Nat.le_of_ble_eq_true rfl) (Nat.le_of_ble_eq_true rfl) ⟨rfl, hx3, b_p, b_H, b_L, fr⟩)
    · rw [if_neg d1] at hF
      by_cases d2 : y1.1 = (2 : Int32)
      · rw [if_pos d2] at hF
        rw [show rx_ex y1.1 = rx_E2 by rw [d2]; rfl]
        refine rx_catch C htab [(0, 10, 13, 19)] 0 10 17 13 [(0, 10, 21, 94)] rfl (fun z hz => by
          simp only [List.mem_cons, List.not_mem_nil, or_false] at hz
          rcases hz with rfl
          · exact ⟨by decide, _, xl_19, hN.2.2.1⟩) (by decide) (by decide) xl_13 xc_2 (fun q9 => ?_)
        refine rx_astore C dL_liftRoyalCoin_17 (by decide) [(4, .ref q9), (0, .ref b), (1, .int x1), (2, .int x2), (3, .ref lo)] rfl ?_
        refine rx_iconst C dL_liftRoyalCoin_19 (2 : Int32) (by decide) ?_
        obtain rfl := Option.some.inj hF
        exact rx_xret (rx_iret C dL_liftRoyalCoin_20 (Nat.le_of_ble_eq_true rfl) (Nat.le_of_ble_eq_true rfl) ⟨rfl, hx3, b_p, b_H, b_L, fr⟩)
      · rw [if_neg d2] at hF
        rw [show rx_ex y1.1 = rx_E3 by unfold rx_ex; rw [if_neg d1, if_neg d2]]
        refine rx_catch C htab [(0, 10, 13, 19), (0, 10, 17, 13)] 0 10 21 94 [] rfl (fun z hz => by
          simp only [List.mem_cons, List.not_mem_nil, or_false] at hz
          rcases hz with rfl | rfl
          · exact ⟨by decide, _, xl_19, hN.2.2.2.2.1⟩
          · exact ⟨by decide, _, xl_13, hN.2.2.2.2.2⟩) (by decide) (by decide) xl_94 xc_3 (fun q9 => ?_)
        refine rx_astore C dL_liftRoyalCoin_21 (by decide) [(4, .ref q9), (0, .ref b), (1, .int x1), (2, .int x2), (3, .ref lo)] rfl ?_
        refine rx_iconst C dL_liftRoyalCoin_23 (3 : Int32) (by decide) ?_
        obtain rfl := Option.some.inj hF
        exact rx_xret (rx_iret C dL_liftRoyalCoin_24 (Nat.le_of_ble_eq_true rfl) (Nat.le_of_ble_eq_true rfl) ⟨rfl, hx3, b_p, b_H, b_L, fr⟩)
  obtain ⟨hz0_y1, rfl, hn, c_p, c_H, ff⟩ := hpp
  replace hn : n = n1 := Eq.symm hn
  subst hn
  replace b_p : bP k (b + 21) (b + 12) y1.2.2.1 hh := c_p
  clear c_p
  replace b_H : bHH k (b + 69) (b + 12) y1.2.2.2 hh := c_H
  clear c_H
  replace ff : rx_fr [(b + 21, 10), (b + 69, 130)] _ hh := ff
  replace b_B := b_B.keep ff ⟨s_B_p, s_B_H, trivial⟩
  replace b_s := b_s.keep ff ⟨s_s_p, s_s_H, trivial⟩
  replace b_w := b_w.keep ff ⟨s_w_p, s_w_H, trivial⟩
  replace b_e := b_e.keep ff ⟨s_e_p, s_e_H, trivial⟩
  replace b_L := b_L.keep ff ⟨s_L_p, s_L_H, trivial⟩
  replace fr := rx_frt fr ff (fun a ha => ⟨ha.1, ha.2.1, trivial⟩)
  rw [if_pos hz0_y1] at hF
  refine rx_i2l C dL_liftRoyalCoin_8 ?_
  replace hF := rx_leE hF; obtain ⟨o_L_2, e_o_L_2, hF⟩ := hF
  refine rx_aL C dL_liftRoyalCoin_9 b_L e_o_L_2 (fun hh c_L ff => ?_)
  replace b_L := c_L
  replace b_B := b_B.keep ff ⟨s_B_L, trivial⟩
  replace b_s := b_s.keep ff ⟨s_s_L, trivial⟩
  replace b_p := b_p.keep ff ⟨s_p_L, trivial⟩
  replace b_w := b_w.keep ff ⟨s_w_L, trivial⟩
  replace b_e := b_e.keep ff ⟨s_e_L, trivial⟩
  replace b_H := b_H.keep ff ⟨s_H_L, trivial⟩
  replace fr := rx_frt fr ff (fun a ha => ⟨ha.2.2.1, trivial⟩)
  refine rx_goto C dL_liftRoyalCoin_10 25 (by decide) ?_
  refine rx_iconst C dL_liftRoyalCoin_25 (0 : Int32) (by decide) ?_
  obtain rfl := Option.some.inj hF
  exact rx_xret (rx_iret C dL_liftRoyalCoin_26 (Nat.le_of_ble_eq_true rfl) (Nat.le_of_ble_eq_true rfl) ⟨rfl, Nat.le_refl _, b_p, b_H, b_L, fr⟩)
def F_L_swapRags (oB : ob) (os : ob) (op : ob) (ow : ob) (oe : ob) (oH : hst) (oL : (Nat → Int64)) (x1 : Int32) (x2 : Int32) : Option (Int32 × ob × hst × (Nat → Int64)) := (F_X8_swapRags oB os op ow oe oH x1 x2).bind fun y1 => if y1.1 = (0 : Int32) then (rx_le (vp_updL oL 0 y1.2.1.toInt64) fun o_L_2 => some ((0 : Int32), y1.2.2.1, y1.2.2.2, o_L_2)) else (if y1.1 = (1 : Int32) then (some ((1 : Int32), op, oH, oL)) else (if y1.1 = (2 : Int32) then (some ((2 : Int32), op, oH, oL)) else (some ((3 : Int32), op, oH, oL))))
set_option maxRecDepth 100000 in
set_option maxHeartbeats 4000000 in
theorem w_L_swapRags {b lo : Nat} {oB : ob} {os : ob} {op : ob} {ow : ob} {oe : ob} {oH : hst} {oL : (Nat → Int64)} {x1 : Int32} {x2 : Int32} {y : Int32 × ob × hst × (Nat → Int64)} (hst : l.stackTraces = false) (hF : F_L_swapRags oB os op ow oe oH oL x1 x2 = some y) (b_B : bB k b oB h) (b_s : bS k (b + 12) os h) (b_p : bP k (b + 21) (b + 12) op h) (b_w : bQ k (b + 21 + 10) ow h) (b_e : bQ k (b + 21 + 13) oe h) (b_H : bHH k (b + 69) (b + 12) oH h) (b_L : bL k lo oL h) (hd0 : b + 204 ≤ lo ∨ lo + 1 ≤ b) : vx_Met l yL_swapRags (rx_wsH yL_swapRags cL_swapRags 5 (some .int) [(0, 10, 13, 19), (0, 10, 17, 13), (0, 10, 21, 94)]) (rx_rmX 8 171 1 6) (va_Pc [.ref b, .int x1, .int x2, .ref lo] (rx_GN G k h n)) (va_Qi (fun r u => y.1 = r ∧ n ≤ u.2 ∧ bP k (b + 21) (b + 12) y.2.1 u.1 ∧ bHH k (b + 69) (b + 12) y.2.2.1 u.1 ∧ bL k lo y.2.2.2 u.1 ∧ rx_fr [(b + 21, 10), (b + 69, 130), (lo, 1)] h u.1) (rx_B G k) (rx_A k)) (rx_XC G k (fun _ _ => False)) 1 6 (rx_A k) := by
  have s_B_p : b + 1 ≤ b + 21 ∨ b + 21 + 10 ≤ b := by omega
  have s_B_H : b + 1 ≤ b + 69 ∨ b + 69 + 130 ≤ b := by omega
  have s_s_p : b + 12 + 9 ≤ b + 21 ∨ b + 21 + 10 ≤ b + 12 := by omega
  have s_s_H : b + 12 + 9 ≤ b + 69 ∨ b + 69 + 130 ≤ b + 12 := by omega
  have s_w_p : b + 21 + 10 + 3 ≤ b + 21 ∨ b + 21 + 10 ≤ b + 21 + 10 := by omega
  have s_w_H : b + 21 + 10 + 3 ≤ b + 69 ∨ b + 69 + 130 ≤ b + 21 + 10 := by omega
  have s_e_p : b + 21 + 13 + 3 ≤ b + 21 ∨ b + 21 + 10 ≤ b + 21 + 13 := by omega
  have s_e_H : b + 21 + 13 + 3 ≤ b + 69 ∨ b + 69 + 130 ≤ b + 21 + 13 := by omega
  have s_L_p : lo + 1 ≤ b + 21 ∨ b + 21 + 10 ≤ lo := by omega
  have s_L_H : lo + 1 ≤ b + 69 ∨ b + 69 + 130 ≤ lo := by omega
  have s_B_L : b + 1 ≤ lo ∨ lo + 1 ≤ b := by omega
  have s_s_L : b + 12 + 9 ≤ lo ∨ lo + 1 ≤ b + 12 := by omega
  have s_p_L : b + 21 + 10 ≤ lo ∨ lo + 1 ≤ b + 21 := by omega
  have s_w_L : b + 21 + 10 + 3 ≤ lo ∨ lo + 1 ≤ b + 21 + 10 := by omega
  have s_e_L : b + 21 + 13 + 3 ≤ lo ∨ lo + 1 ≤ b + 21 + 13 := by omega
  have s_H_L : b + 69 + 130 ≤ lo ∨ lo + 1 ≤ b + 69 := by omega
  refine rx_startH [(0, .ref b), (1, .int x1), (2, .int x2), (3, .ref lo)] rfl (Nat.le_of_ble_eq_true rfl) (by decide) (fun P9 E9 S9 M9 A9 B9 me9 c9 C htab hN => ?_)
  unfold F_L_swapRags at hF
  have fr : rx_fr [(b + 21, 10), (b + 69, 130), (lo, 1)] h h := rx_fr0
  refine rx_aload_n C dL_swapRags_0 3 rfl ?_
  refine rx_iconst C dL_swapRags_1 (0 : Int32) (by decide) ?_
  refine rx_aload_n C dL_swapRags_2 0 rfl ?_
  refine rx_iload_n C dL_swapRags_3 1 rfl ?_
  refine rx_iload_n C dL_swapRags_4 2 rfl ?_
  replace hF := rx_biE hF; obtain ⟨y1, e_y1, hF⟩ := hF
  refine rx_xci (rx_rVX C (w_X8_swapRags hst e_y1 b_B b_s b_p b_w b_e b_H) Y_X8_swapRags V_X8_swapRags m_L_105 (Or.inl ⟨_, _, _, _, b_B, rfl⟩) ⟨⟨rfl, rfl⟩, ⟨(Nat.le_of_ble_eq_true rfl), (Nat.le_of_ble_eq_true rfl)⟩, ⟨(Nat.le_of_ble_eq_true rfl), (Nat.le_of_ble_eq_true rfl)⟩⟩ rfl rfl (Nat.le_of_ble_eq_true rfl) dL_swapRags_5) (fun E hh n1 hx => ?_) (fun r hh n1 hpp => ?_)
  · obtain ⟨hx0, hx1, hx2, hx3⟩ := hx
    rw [if_neg hx0] at hF
    subst hx1
    replace hx2 : hh = h := hx2
    subst hx2
    by_cases d1 : y1.1 = (1 : Int32)
    · rw [if_pos d1] at hF
      rw [show rx_ex y1.1 = rx_E1 by rw [d1]; rfl]
      refine rx_catch C htab [] 0 10 13 19 [(0, 10, 17, 13), (0, 10, 21, 94)] rfl (fun z hz => absurd hz List.not_mem_nil) (by decide) (by decide) xl_19 xc_1 (fun q9 => ?_)
      refine rx_astore C dL_swapRags_13 (by decide) [(4, .ref q9), (0, .ref b), (1, .int x1), (2, .int x2), (3, .ref lo)] rfl ?_
      refine rx_iconst C dL_swapRags_15 (1 : Int32) (by decide) ?_
      obtain rfl := Option.some.inj hF
      exact rx_xret (rx_iret C dL_swapRags_16 (Nat.le_of_ble_eq_true rfl) (Nat.le_of_ble_eq_true rfl) ⟨rfl, hx3, b_p, b_H, b_L, fr⟩)
    · rw [if_neg d1] at hF
      by_cases d2 : y1.1 = (2 : Int32)
      · rw [if_pos d2] at hF
        rw [show rx_ex y1.1 = rx_E2 by rw [d2]; rfl]
        refine rx_catch C htab [(0, 10, 13, 19)] 0 10 17 13 [(0, 10, 21, 94)] rfl (fun z hz => by
          simp only [List.mem_cons, List.not_mem_nil, or_false] at hz
          rcases hz with rfl
          · exact ⟨by decide, _, xl_19, hN.2.2.1⟩) (by decide) (by decide) xl_13 xc_2 (fun q9 => ?_)
        refine rx_astore C dL_swapRags_17 (by decide) [(4, .ref q9), (0, .ref b), (1, .int x1), (2, .int x2), (3, .ref lo)] rfl ?_
        refine rx_iconst C dL_swapRags_19 (2 : Int32) (by decide) ?_
        obtain rfl := Option.some.inj hF
        exact rx_xret (rx_iret C dL_swapRags_20 (Nat.le_of_ble_eq_true rfl) (Nat.le_of_ble_eq_true rfl) ⟨rfl, hx3, b_p, b_H, b_L, fr⟩)
      · rw [if_neg d2] at hF
        rw [show rx_ex y1.1 = rx_E3 by unfold rx_ex; rw [if_neg d1, if_neg d2]]
        refine rx_catch C htab [(0, 10, 13, 19), (0, 10, 17, 13)] 0 10 21 94 [] rfl (fun z hz => by
          simp only [List.mem_cons, List.not_mem_nil, or_false] at hz
          rcases hz with rfl | rfl
          · exact ⟨by decide, _, xl_19, hN.2.2.2.2.1⟩
          · exact ⟨by decide, _, xl_13, hN.2.2.2.2.2⟩) (by decide) (by decide) xl_94 xc_3 (fun q9 => ?_)
        refine rx_astore C dL_swapRags_21 (by decide) [(4, .ref q9), (0, .ref b), (1, .int x1), (2, .int x2), (3, .ref lo)] rfl ?_
        refine rx_iconst C dL_swapRags_23 (3 : Int32) (by decide) ?_
        obtain rfl := Option.some.inj hF
        exact rx_xret (rx_iret C dL_swapRags_24 (Nat.le_of_ble_eq_true rfl) (Nat.le_of_ble_eq_true rfl) ⟨rfl, hx3, b_p, b_H, b_L, fr⟩)
  obtain ⟨hz0_y1, rfl, hn, c_p, c_H, ff⟩ := hpp
  replace hn : n = n1 := Eq.symm hn
  subst hn
  replace b_p : bP k (b + 21) (b + 12) y1.2.2.1 hh := c_p
  clear c_p
  replace b_H : bHH k (b + 69) (b + 12) y1.2.2.2 hh := c_H
  clear c_H
  replace ff : rx_fr [(b + 21, 10), (b + 69, 130)] _ hh := ff
  replace b_B := b_B.keep ff ⟨s_B_p, s_B_H, trivial⟩
  replace b_s := b_s.keep ff ⟨s_s_p, s_s_H, trivial⟩
  replace b_w := b_w.keep ff ⟨s_w_p, s_w_H, trivial⟩
  replace b_e := b_e.keep ff ⟨s_e_p, s_e_H, trivial⟩
  replace b_L := b_L.keep ff ⟨s_L_p, s_L_H, trivial⟩
  replace fr := rx_frt fr ff (fun a ha => ⟨ha.1, ha.2.1, trivial⟩)
  rw [if_pos hz0_y1] at hF
  refine rx_i2l C dL_swapRags_8 ?_
  replace hF := rx_leE hF; obtain ⟨o_L_2, e_o_L_2, hF⟩ := hF
  refine rx_aL C dL_swapRags_9 b_L e_o_L_2 (fun hh c_L ff => ?_)
  replace b_L := c_L
  replace b_B := b_B.keep ff ⟨s_B_L, trivial⟩
  replace b_s := b_s.keep ff ⟨s_s_L, trivial⟩
  replace b_p := b_p.keep ff ⟨s_p_L, trivial⟩
  replace b_w := b_w.keep ff ⟨s_w_L, trivial⟩
  replace b_e := b_e.keep ff ⟨s_e_L, trivial⟩
  replace b_H := b_H.keep ff ⟨s_H_L, trivial⟩
  replace fr := rx_frt fr ff (fun a ha => ⟨ha.2.2.1, trivial⟩)
  refine rx_goto C dL_swapRags_10 25 (by decide) ?_
  refine rx_iconst C dL_swapRags_25 (0 : Int32) (by decide) ?_
  obtain rfl := Option.some.inj hF
  exact rx_xret (rx_iret C dL_swapRags_26 (Nat.le_of_ble_eq_true rfl) (Nat.le_of_ble_eq_true rfl) ⟨rfl, Nat.le_refl _, b_p, b_H, b_L, fr⟩)
def F_L_joinQueue (oB : ob) (os : ob) (op : ob) (ow : ob) (oe : ob) (oH : hst) (oL : (Nat → Int64)) (x1 : Int32) (x2 : Int32) : Option (Int32 × ob × ob × hst × (Nat → Int64)) := (F_X8_joinQueue oB os op ow oe oH x1 x2).bind fun y1 => if y1.1 = (0 : Int32) then (rx_le (vp_updL oL 0 y1.2.1.toInt64) fun o_L_2 => some ((0 : Int32), y1.2.2.1, y1.2.2.2.1, y1.2.2.2.2, o_L_2)) else (if y1.1 = (1 : Int32) then (some ((1 : Int32), ow, oe, oH, oL)) else (if y1.1 = (2 : Int32) then (some ((2 : Int32), ow, oe, oH, oL)) else (some ((3 : Int32), ow, oe, oH, oL))))
set_option maxRecDepth 100000 in
set_option maxHeartbeats 4000000 in
theorem w_L_joinQueue {b lo : Nat} {oB : ob} {os : ob} {op : ob} {ow : ob} {oe : ob} {oH : hst} {oL : (Nat → Int64)} {x1 : Int32} {x2 : Int32} {y : Int32 × ob × ob × hst × (Nat → Int64)} (hst : l.stackTraces = false) (hF : F_L_joinQueue oB os op ow oe oH oL x1 x2 = some y) (b_B : bB k b oB h) (b_s : bS k (b + 12) os h) (b_p : bP k (b + 21) (b + 12) op h) (b_w : bQ k (b + 21 + 10) ow h) (b_e : bQ k (b + 21 + 13) oe h) (b_H : bHH k (b + 69) (b + 12) oH h) (b_L : bL k lo oL h) (hd0 : b + 204 ≤ lo ∨ lo + 1 ≤ b) : vx_Met l yL_joinQueue (rx_wsH yL_joinQueue cL_joinQueue 5 (some .int) [(0, 10, 13, 19), (0, 10, 17, 13), (0, 10, 21, 94)]) (rx_rmX 8 171 1 6) (va_Pc [.ref b, .int x1, .int x2, .ref lo] (rx_GN G k h n)) (va_Qi (fun r u => y.1 = r ∧ n ≤ u.2 ∧ bQ k (b + 21 + 10) y.2.1 u.1 ∧ bQ k (b + 21 + 13) y.2.2.1 u.1 ∧ bHH k (b + 69) (b + 12) y.2.2.2.1 u.1 ∧ bL k lo y.2.2.2.2 u.1 ∧ rx_fr [(b + 21 + 10, 3), (b + 21 + 13, 3), (b + 69, 130), (lo, 1)] h u.1) (rx_B G k) (rx_A k)) (rx_XC G k (fun _ _ => False)) 1 6 (rx_A k) := by
  have s_B_w : b + 1 ≤ b + 21 + 10 ∨ b + 21 + 10 + 3 ≤ b := by omega
  have s_B_e : b + 1 ≤ b + 21 + 13 ∨ b + 21 + 13 + 3 ≤ b := by omega
  have s_B_H : b + 1 ≤ b + 69 ∨ b + 69 + 130 ≤ b := by omega
  have s_s_w : b + 12 + 9 ≤ b + 21 + 10 ∨ b + 21 + 10 + 3 ≤ b + 12 := by omega
  have s_s_e : b + 12 + 9 ≤ b + 21 + 13 ∨ b + 21 + 13 + 3 ≤ b + 12 := by omega
  have s_s_H : b + 12 + 9 ≤ b + 69 ∨ b + 69 + 130 ≤ b + 12 := by omega
  have s_p_w : b + 21 + 10 ≤ b + 21 + 10 ∨ b + 21 + 10 + 3 ≤ b + 21 := by omega
  have s_p_e : b + 21 + 10 ≤ b + 21 + 13 ∨ b + 21 + 13 + 3 ≤ b + 21 := by omega
  have s_p_H : b + 21 + 10 ≤ b + 69 ∨ b + 69 + 130 ≤ b + 21 := by omega
  have s_L_w : lo + 1 ≤ b + 21 + 10 ∨ b + 21 + 10 + 3 ≤ lo := by omega
  have s_L_e : lo + 1 ≤ b + 21 + 13 ∨ b + 21 + 13 + 3 ≤ lo := by omega
  have s_L_H : lo + 1 ≤ b + 69 ∨ b + 69 + 130 ≤ lo := by omega
  have s_B_L : b + 1 ≤ lo ∨ lo + 1 ≤ b := by omega
  have s_s_L : b + 12 + 9 ≤ lo ∨ lo + 1 ≤ b + 12 := by omega
  have s_p_L : b + 21 + 10 ≤ lo ∨ lo + 1 ≤ b + 21 := by omega
  have s_w_L : b + 21 + 10 + 3 ≤ lo ∨ lo + 1 ≤ b + 21 + 10 := by omega
  have s_e_L : b + 21 + 13 + 3 ≤ lo ∨ lo + 1 ≤ b + 21 + 13 := by omega
  have s_H_L : b + 69 + 130 ≤ lo ∨ lo + 1 ≤ b + 69 := by omega
  refine rx_startH [(0, .ref b), (1, .int x1), (2, .int x2), (3, .ref lo)] rfl (Nat.le_of_ble_eq_true rfl) (by decide) (fun P9 E9 S9 M9 A9 B9 me9 c9 C htab hN => ?_)
  unfold F_L_joinQueue at hF
  have fr : rx_fr [(b + 21 + 10, 3), (b + 21 + 13, 3), (b + 69, 130), (lo, 1)] h h := rx_fr0
  refine rx_aload_n C dL_joinQueue_0 3 rfl ?_
  refine rx_iconst C dL_joinQueue_1 (0 : Int32) (by decide) ?_
  refine rx_aload_n C dL_joinQueue_2 0 rfl ?_
  refine rx_iload_n C dL_joinQueue_3 1 rfl ?_
  refine rx_iload_n C dL_joinQueue_4 2 rfl ?_
  replace hF := rx_biE hF; obtain ⟨y1, e_y1, hF⟩ := hF
  refine rx_xci (rx_rVX C (w_X8_joinQueue hst e_y1 b_B b_s b_p b_w b_e b_H) Y_X8_joinQueue V_X8_joinQueue m_L_108 (Or.inl ⟨_, _, _, _, b_B, rfl⟩) ⟨⟨rfl, rfl⟩, ⟨(Nat.le_of_ble_eq_true rfl), (Nat.le_of_ble_eq_true rfl)⟩, ⟨(Nat.le_of_ble_eq_true rfl), (Nat.le_of_ble_eq_true rfl)⟩⟩ rfl rfl (Nat.le_of_ble_eq_true rfl) dL_joinQueue_5) (fun E hh n1 hx => ?_) (fun r hh n1 hpp => ?_)
  · obtain ⟨hx0, hx1, hx2, hx3⟩ := hx
    rw [if_neg hx0] at hF
    subst hx1
    replace hx2 : hh = h := hx2
    subst hx2
    by_cases d1 : y1.1 = (1 : Int32)
    · rw [if_pos d1] at hF
      rw [show rx_ex y1.1 = rx_E1 by rw [d1]; rfl]
      refine rx_catch C htab [] 0 10 13 19 [(0, 10, 17, 13), (0, 10, 21, 94)] rfl (fun z hz => absurd hz List.not_mem_nil) (by decide) (by decide) xl_19 xc_1 (fun q9 => ?_)
      refine rx_astore C dL_joinQueue_13 (by decide) [(4, .ref q9), (0, .ref b), (1, .int x1), (2, .int x2), (3, .ref lo)] rfl ?_
      refine rx_iconst C dL_joinQueue_15 (1 : Int32) (by decide) ?_
      obtain rfl := Option.some.inj hF
      exact rx_xret (rx_iret C dL_joinQueue_16 (Nat.le_of_ble_eq_true rfl) (Nat.le_of_ble_eq_true rfl) ⟨rfl, hx3, b_w, b_e, b_H, b_L, fr⟩)
    · rw [if_neg d1] at hF
      by_cases d2 : y1.1 = (2 : Int32)
      · rw [if_pos d2] at hF
        rw [show rx_ex y1.1 = rx_E2 by rw [d2]; rfl]
        refine rx_catch C htab [(0, 10, 13, 19)] 0 10 17 13 [(0, 10, 21, 94)] rfl (fun z hz => by
          simp only [List.mem_cons, List.not_mem_nil, or_false] at hz
          rcases hz with rfl
          · exact ⟨by decide, _, xl_19, hN.2.2.1⟩) (by decide) (by decide) xl_13 xc_2 (fun q9 => ?_)
        refine rx_astore C dL_joinQueue_17 (by decide) [(4, .ref q9), (0, .ref b), (1, .int x1), (2, .int x2), (3, .ref lo)] rfl ?_
        refine rx_iconst C dL_joinQueue_19 (2 : Int32) (by decide) ?_
        obtain rfl := Option.some.inj hF
        exact rx_xret (rx_iret C dL_joinQueue_20 (Nat.le_of_ble_eq_true rfl) (Nat.le_of_ble_eq_true rfl) ⟨rfl, hx3, b_w, b_e, b_H, b_L, fr⟩)
      · rw [if_neg d2] at hF
        rw [show rx_ex y1.1 = rx_E3 by unfold rx_ex; rw [if_neg d1, if_neg d2]]
        refine rx_catch C htab [(0, 10, 13, 19), (0, 10, 17, 13)] 0 10 21 94 [] rfl (fun z hz => by
          simp only [List.mem_cons, List.not_mem_nil, or_false] at hz
          rcases hz with rfl | rfl
          · exact ⟨by decide, _, xl_19, hN.2.2.2.2.1⟩
          · exact ⟨by decide, _, xl_13, hN.2.2.2.2.2⟩) (by decide) (by decide) xl_94 xc_3 (fun q9 => ?_)
        refine rx_astore C dL_joinQueue_21 (by decide) [(4, .ref q9), (0, .ref b), (1, .int x1), (2, .int x2), (3, .ref lo)] rfl ?_
        refine rx_iconst C dL_joinQueue_23 (3 : Int32) (by decide) ?_
        obtain rfl := Option.some.inj hF
        exact rx_xret (rx_iret C dL_joinQueue_24 (Nat.le_of_ble_eq_true rfl) (Nat.le_of_ble_eq_true rfl) ⟨rfl, hx3, b_w, b_e, b_H, b_L, fr⟩)
  obtain ⟨hz0_y1, rfl, hn, c_w, c_e, c_H, ff⟩ := hpp
  replace hn : n = n1 := Eq.symm hn
  subst hn
  replace b_w : bQ k (b + 21 + 10) y1.2.2.1 hh := c_w
  clear c_w
  replace b_e : bQ k (b + 21 + 13) y1.2.2.2.1 hh := c_e
  clear c_e
  replace b_H : bHH k (b + 69) (b + 12) y1.2.2.2.2 hh := c_H
  clear c_H
  replace ff : rx_fr [(b + 21 + 10, 3), (b + 21 + 13, 3), (b + 69, 130)] _ hh := ff
  replace b_B := b_B.keep ff ⟨s_B_w, s_B_e, s_B_H, trivial⟩
  replace b_s := b_s.keep ff ⟨s_s_w, s_s_e, s_s_H, trivial⟩
  replace b_p := b_p.keep ff ⟨s_p_w, s_p_e, s_p_H, trivial⟩
  replace b_L := b_L.keep ff ⟨s_L_w, s_L_e, s_L_H, trivial⟩
  replace fr := rx_frt fr ff (fun a ha => ⟨ha.1, ha.2.1, ha.2.2.1, trivial⟩)
  rw [if_pos hz0_y1] at hF
  refine rx_i2l C dL_joinQueue_8 ?_
  replace hF := rx_leE hF; obtain ⟨o_L_2, e_o_L_2, hF⟩ := hF
  refine rx_aL C dL_joinQueue_9 b_L e_o_L_2 (fun hh c_L ff => ?_)
  replace b_L := c_L
  replace b_B := b_B.keep ff ⟨s_B_L, trivial⟩
  replace b_s := b_s.keep ff ⟨s_s_L, trivial⟩
  replace b_p := b_p.keep ff ⟨s_p_L, trivial⟩
  replace b_w := b_w.keep ff ⟨s_w_L, trivial⟩
  replace b_e := b_e.keep ff ⟨s_e_L, trivial⟩
  replace b_H := b_H.keep ff ⟨s_H_L, trivial⟩
  replace fr := rx_frt fr ff (fun a ha => ⟨ha.2.2.2.1, trivial⟩)
  refine rx_goto C dL_joinQueue_10 25 (by decide) ?_
  refine rx_iconst C dL_joinQueue_25 (0 : Int32) (by decide) ?_
  obtain rfl := Option.some.inj hF
  exact rx_xret (rx_iret C dL_joinQueue_26 (Nat.le_of_ble_eq_true rfl) (Nat.le_of_ble_eq_true rfl) ⟨rfl, Nat.le_refl _, b_w, b_e, b_H, b_L, fr⟩)
def F_L_quitQueue (oB : ob) (os : ob) (op : ob) (ow : ob) (oe : ob) (oH : hst) (oL : (Nat → Int64)) (x1 : Int32) : Option (Int32 × ob × ob × hst × (Nat → Int64)) := (F_X8_quitQueue oB os op ow oe oH x1).bind fun y1 => if y1.1 = (0 : Int32) then (rx_le (vp_updL oL 0 y1.2.1.toInt64) fun o_L_2 => some ((0 : Int32), y1.2.2.1, y1.2.2.2.1, y1.2.2.2.2, o_L_2)) else (if y1.1 = (1 : Int32) then (some ((1 : Int32), ow, oe, oH, oL)) else (if y1.1 = (2 : Int32) then (none) else (some ((2 : Int32), ow, oe, oH, oL))))
set_option maxRecDepth 100000 in
set_option maxHeartbeats 4000000 in
theorem w_L_quitQueue {b lo : Nat} {oB : ob} {os : ob} {op : ob} {ow : ob} {oe : ob} {oH : hst} {oL : (Nat → Int64)} {x1 : Int32} {y : Int32 × ob × ob × hst × (Nat → Int64)} (hst : l.stackTraces = false) (hF : F_L_quitQueue oB os op ow oe oH oL x1 = some y) (b_B : bB k b oB h) (b_s : bS k (b + 12) os h) (b_p : bP k (b + 21) (b + 12) op h) (b_w : bQ k (b + 21 + 10) ow h) (b_e : bQ k (b + 21 + 13) oe h) (b_H : bHH k (b + 69) (b + 12) oH h) (b_L : bL k lo oL h) (hd0 : b + 204 ≤ lo ∨ lo + 1 ≤ b) : vx_Met l yL_quitQueue (rx_wsH yL_quitQueue cL_quitQueue 4 (some .int) [(0, 9, 12, 19), (0, 9, 15, 94)]) (rx_rmX 8 170 1 6) (va_Pc [.ref b, .int x1, .ref lo] (rx_GN G k h n)) (va_Qi (fun r u => y.1 = r ∧ n ≤ u.2 ∧ bQ k (b + 21 + 10) y.2.1 u.1 ∧ bQ k (b + 21 + 13) y.2.2.1 u.1 ∧ bHH k (b + 69) (b + 12) y.2.2.2.1 u.1 ∧ bL k lo y.2.2.2.2 u.1 ∧ rx_fr [(b + 21 + 10, 3), (b + 21 + 13, 3), (b + 69, 130), (lo, 1)] h u.1) (rx_B G k) (rx_A k)) (rx_XC G k (fun _ _ => False)) 1 6 (rx_A k) := by
  have s_B_w : b + 1 ≤ b + 21 + 10 ∨ b + 21 + 10 + 3 ≤ b := by omega
  have s_B_e : b + 1 ≤ b + 21 + 13 ∨ b + 21 + 13 + 3 ≤ b := by omega
  have s_B_H : b + 1 ≤ b + 69 ∨ b + 69 + 130 ≤ b := by omega
  have s_s_w : b + 12 + 9 ≤ b + 21 + 10 ∨ b + 21 + 10 + 3 ≤ b + 12 := by omega
  have s_s_e : b + 12 + 9 ≤ b + 21 + 13 ∨ b + 21 + 13 + 3 ≤ b + 12 := by omega
  have s_s_H : b + 12 + 9 ≤ b + 69 ∨ b + 69 + 130 ≤ b + 12 := by omega
  have s_p_w : b + 21 + 10 ≤ b + 21 + 10 ∨ b + 21 + 10 + 3 ≤ b + 21 := by omega
  have s_p_e : b + 21 + 10 ≤ b + 21 + 13 ∨ b + 21 + 13 + 3 ≤ b + 21 := by omega
  have s_p_H : b + 21 + 10 ≤ b + 69 ∨ b + 69 + 130 ≤ b + 21 := by omega
  have s_L_w : lo + 1 ≤ b + 21 + 10 ∨ b + 21 + 10 + 3 ≤ lo := by omega
  have s_L_e : lo + 1 ≤ b + 21 + 13 ∨ b + 21 + 13 + 3 ≤ lo := by omega
  have s_L_H : lo + 1 ≤ b + 69 ∨ b + 69 + 130 ≤ lo := by omega
  have s_B_L : b + 1 ≤ lo ∨ lo + 1 ≤ b := by omega
  have s_s_L : b + 12 + 9 ≤ lo ∨ lo + 1 ≤ b + 12 := by omega
  have s_p_L : b + 21 + 10 ≤ lo ∨ lo + 1 ≤ b + 21 := by omega
  have s_w_L : b + 21 + 10 + 3 ≤ lo ∨ lo + 1 ≤ b + 21 + 10 := by omega
  have s_e_L : b + 21 + 13 + 3 ≤ lo ∨ lo + 1 ≤ b + 21 + 13 := by omega
  have s_H_L : b + 69 + 130 ≤ lo ∨ lo + 1 ≤ b + 69 := by omega
  refine rx_startH [(0, .ref b), (1, .int x1), (2, .ref lo)] rfl (Nat.le_of_ble_eq_true rfl) (by decide) (fun P9 E9 S9 M9 A9 B9 me9 c9 C htab hN => ?_)
  unfold F_L_quitQueue at hF
  have fr : rx_fr [(b + 21 + 10, 3), (b + 21 + 13, 3), (b + 69, 130), (lo, 1)] h h := rx_fr0
  refine rx_aload_n C dL_quitQueue_0 2 rfl ?_
  refine rx_iconst C dL_quitQueue_1 (0 : Int32) (by decide) ?_
  refine rx_aload_n C dL_quitQueue_2 0 rfl ?_
  refine rx_iload_n C dL_quitQueue_3 1 rfl ?_
  replace hF := rx_biE hF; obtain ⟨y1, e_y1, hF⟩ := hF
  refine rx_xci (rx_rVX C (w_X8_quitQueue hst e_y1 b_B b_s b_p b_w b_e b_H) Y_X8_quitQueue V_X8_quitQueue m_L_111 (Or.inl ⟨_, _, _, _, b_B, rfl⟩) ⟨⟨rfl, rfl⟩, ⟨(Nat.le_of_ble_eq_true rfl), (Nat.le_of_ble_eq_true rfl)⟩, ⟨(Nat.le_of_ble_eq_true rfl), (Nat.le_of_ble_eq_true rfl)⟩⟩ rfl rfl (Nat.le_of_ble_eq_true rfl) dL_quitQueue_4) (fun E hh n1 hx => ?_) (fun r hh n1 hpp => ?_)
  · obtain ⟨hx0, hx1, hx2, hx3⟩ := hx
    rw [if_neg hx0] at hF
    subst hx1
    replace hx2 : hh = h := hx2
    subst hx2
    by_cases d1 : y1.1 = (1 : Int32)
    · rw [if_pos d1] at hF
      rw [show rx_ex y1.1 = rx_E1 by rw [d1]; rfl]
      refine rx_catch C htab [] 0 9 12 19 [(0, 9, 15, 94)] rfl (fun z hz => absurd hz List.not_mem_nil) (by decide) (by decide) xl_19 xc_1 (fun q9 => ?_)
      refine rx_astore_n C dL_quitQueue_12 (by decide) [(3, .ref q9), (0, .ref b), (1, .int x1), (2, .ref lo)] rfl ?_
      refine rx_iconst C dL_quitQueue_13 (1 : Int32) (by decide) ?_
      obtain rfl := Option.some.inj hF
      exact rx_xret (rx_iret C dL_quitQueue_14 (Nat.le_of_ble_eq_true rfl) (Nat.le_of_ble_eq_true rfl) ⟨rfl, hx3, b_w, b_e, b_H, b_L, fr⟩)
    · rw [if_neg d1] at hF
      by_cases d2 : y1.1 = (2 : Int32)
      · rw [if_pos d2] at hF
        cases hF
      · rw [if_neg d2] at hF
        rw [show rx_ex y1.1 = rx_E3 by unfold rx_ex; rw [if_neg d1, if_neg d2]]
        refine rx_catch C htab [(0, 9, 12, 19)] 0 9 15 94 [] rfl (fun z hz => by
          simp only [List.mem_cons, List.not_mem_nil, or_false] at hz
          rcases hz with rfl
          · exact ⟨by decide, _, xl_19, hN.2.2.2.2.1⟩) (by decide) (by decide) xl_94 xc_3 (fun q9 => ?_)
        refine rx_astore_n C dL_quitQueue_15 (by decide) [(3, .ref q9), (0, .ref b), (1, .int x1), (2, .ref lo)] rfl ?_
        refine rx_iconst C dL_quitQueue_16 (2 : Int32) (by decide) ?_
        obtain rfl := Option.some.inj hF
        exact rx_xret (rx_iret C dL_quitQueue_17 (Nat.le_of_ble_eq_true rfl) (Nat.le_of_ble_eq_true rfl) ⟨rfl, hx3, b_w, b_e, b_H, b_L, fr⟩)
  obtain ⟨hz0_y1, rfl, hn, c_w, c_e, c_H, ff⟩ := hpp
  replace hn : n = n1 := Eq.symm hn
  subst hn
  replace b_w : bQ k (b + 21 + 10) y1.2.2.1 hh := c_w
  clear c_w
  replace b_e : bQ k (b + 21 + 13) y1.2.2.2.1 hh := c_e
  clear c_e
  replace b_H : bHH k (b + 69) (b + 12) y1.2.2.2.2 hh := c_H
  clear c_H
  replace ff : rx_fr [(b + 21 + 10, 3), (b + 21 + 13, 3), (b + 69, 130)] _ hh := ff
  replace b_B := b_B.keep ff ⟨s_B_w, s_B_e, s_B_H, trivial⟩
  replace b_s := b_s.keep ff ⟨s_s_w, s_s_e, s_s_H, trivial⟩
  replace b_p := b_p.keep ff ⟨s_p_w, s_p_e, s_p_H, trivial⟩
  replace b_L := b_L.keep ff ⟨s_L_w, s_L_e, s_L_H, trivial⟩
  replace fr := rx_frt fr ff (fun a ha => ⟨ha.1, ha.2.1, ha.2.2.1, trivial⟩)
  rw [if_pos hz0_y1] at hF
  refine rx_i2l C dL_quitQueue_7 ?_
  replace hF := rx_leE hF; obtain ⟨o_L_2, e_o_L_2, hF⟩ := hF
  refine rx_aL C dL_quitQueue_8 b_L e_o_L_2 (fun hh c_L ff => ?_)
  replace b_L := c_L
  replace b_B := b_B.keep ff ⟨s_B_L, trivial⟩
  replace b_s := b_s.keep ff ⟨s_s_L, trivial⟩
  replace b_p := b_p.keep ff ⟨s_p_L, trivial⟩
  replace b_w := b_w.keep ff ⟨s_w_L, trivial⟩
  replace b_e := b_e.keep ff ⟨s_e_L, trivial⟩
  replace b_H := b_H.keep ff ⟨s_H_L, trivial⟩
  replace fr := rx_frt fr ff (fun a ha => ⟨ha.2.2.2.1, trivial⟩)
  refine rx_goto C dL_quitQueue_9 18 (by decide) ?_
  refine rx_iconst C dL_quitQueue_18 (0 : Int32) (by decide) ?_
  obtain rfl := Option.some.inj hF
  exact rx_xret (rx_iret C dL_quitQueue_19 (Nat.le_of_ble_eq_true rfl) (Nat.le_of_ble_eq_true rfl) ⟨rfl, Nat.le_refl _, b_w, b_e, b_H, b_L, fr⟩)
def F_L_setPride (oB : ob) (os : ob) (op : ob) (ow : ob) (oe : ob) (oH : hst) (oL : (Nat → Int64)) (x1 : Int32) (x2 : Int32) : Option (Int32 × ob × hst × (Nat → Int64)) := (F_X8_setPride oB os op ow oe oH x1 x2).bind fun y1 => if y1.1 = (0 : Int32) then (rx_le (vp_updL oL 0 y1.2.1.toInt64) fun o_L_2 => some ((0 : Int32), y1.2.2.1, y1.2.2.2, o_L_2)) else (if y1.1 = (1 : Int32) then (some ((1 : Int32), op, oH, oL)) else (if y1.1 = (2 : Int32) then (some ((2 : Int32), op, oH, oL)) else (none)))
set_option maxRecDepth 100000 in
set_option maxHeartbeats 4000000 in
theorem w_L_setPride {b lo : Nat} {oB : ob} {os : ob} {op : ob} {ow : ob} {oe : ob} {oH : hst} {oL : (Nat → Int64)} {x1 : Int32} {x2 : Int32} {y : Int32 × ob × hst × (Nat → Int64)} (hst : l.stackTraces = false) (hF : F_L_setPride oB os op ow oe oH oL x1 x2 = some y) (b_B : bB k b oB h) (b_s : bS k (b + 12) os h) (b_p : bP k (b + 21) (b + 12) op h) (b_w : bQ k (b + 21 + 10) ow h) (b_e : bQ k (b + 21 + 13) oe h) (b_H : bHH k (b + 69) (b + 12) oH h) (b_L : bL k lo oL h) (hd0 : b + 204 ≤ lo ∨ lo + 1 ≤ b) : vx_Met l yL_setPride (rx_wsH yL_setPride cL_setPride 5 (some .int) [(0, 10, 13, 19), (0, 10, 17, 13)]) (rx_rmX 8 171 1 6) (va_Pc [.ref b, .int x1, .int x2, .ref lo] (rx_GN G k h n)) (va_Qi (fun r u => y.1 = r ∧ n ≤ u.2 ∧ bP k (b + 21) (b + 12) y.2.1 u.1 ∧ bHH k (b + 69) (b + 12) y.2.2.1 u.1 ∧ bL k lo y.2.2.2 u.1 ∧ rx_fr [(b + 21, 10), (b + 69, 130), (lo, 1)] h u.1) (rx_B G k) (rx_A k)) (rx_XC G k (fun _ _ => False)) 1 6 (rx_A k) := by
  have s_B_p : b + 1 ≤ b + 21 ∨ b + 21 + 10 ≤ b := by omega
  have s_B_H : b + 1 ≤ b + 69 ∨ b + 69 + 130 ≤ b := by omega
  have s_s_p : b + 12 + 9 ≤ b + 21 ∨ b + 21 + 10 ≤ b + 12 := by omega
  have s_s_H : b + 12 + 9 ≤ b + 69 ∨ b + 69 + 130 ≤ b + 12 := by omega
  have s_w_p : b + 21 + 10 + 3 ≤ b + 21 ∨ b + 21 + 10 ≤ b + 21 + 10 := by omega
  have s_w_H : b + 21 + 10 + 3 ≤ b + 69 ∨ b + 69 + 130 ≤ b + 21 + 10 := by omega
  have s_e_p : b + 21 + 13 + 3 ≤ b + 21 ∨ b + 21 + 10 ≤ b + 21 + 13 := by omega
  have s_e_H : b + 21 + 13 + 3 ≤ b + 69 ∨ b + 69 + 130 ≤ b + 21 + 13 := by omega
  have s_L_p : lo + 1 ≤ b + 21 ∨ b + 21 + 10 ≤ lo := by omega
  have s_L_H : lo + 1 ≤ b + 69 ∨ b + 69 + 130 ≤ lo := by omega
  have s_B_L : b + 1 ≤ lo ∨ lo + 1 ≤ b := by omega
  have s_s_L : b + 12 + 9 ≤ lo ∨ lo + 1 ≤ b + 12 := by omega
  have s_p_L : b + 21 + 10 ≤ lo ∨ lo + 1 ≤ b + 21 := by omega
  have s_w_L : b + 21 + 10 + 3 ≤ lo ∨ lo + 1 ≤ b + 21 + 10 := by omega
  have s_e_L : b + 21 + 13 + 3 ≤ lo ∨ lo + 1 ≤ b + 21 + 13 := by omega
  have s_H_L : b + 69 + 130 ≤ lo ∨ lo + 1 ≤ b + 69 := by omega
  refine rx_startH [(0, .ref b), (1, .int x1), (2, .int x2), (3, .ref lo)] rfl (Nat.le_of_ble_eq_true rfl) (by decide) (fun P9 E9 S9 M9 A9 B9 me9 c9 C htab hN => ?_)
  unfold F_L_setPride at hF
  have fr : rx_fr [(b + 21, 10), (b + 69, 130), (lo, 1)] h h := rx_fr0
  refine rx_aload_n C dL_setPride_0 3 rfl ?_
  refine rx_iconst C dL_setPride_1 (0 : Int32) (by decide) ?_
  refine rx_aload_n C dL_setPride_2 0 rfl ?_
  refine rx_iload_n C dL_setPride_3 1 rfl ?_
  refine rx_iload_n C dL_setPride_4 2 rfl ?_
  replace hF := rx_biE hF; obtain ⟨y1, e_y1, hF⟩ := hF
  refine rx_xci (rx_rVX C (w_X8_setPride hst e_y1 b_B b_s b_p b_w b_e b_H) Y_X8_setPride V_X8_setPride m_L_114 (Or.inl ⟨_, _, _, _, b_B, rfl⟩) ⟨⟨rfl, rfl⟩, ⟨(Nat.le_of_ble_eq_true rfl), (Nat.le_of_ble_eq_true rfl)⟩, ⟨(Nat.le_of_ble_eq_true rfl), (Nat.le_of_ble_eq_true rfl)⟩⟩ rfl rfl (Nat.le_of_ble_eq_true rfl) dL_setPride_5) (fun E hh n1 hx => ?_) (fun r hh n1 hpp => ?_)
  · obtain ⟨hx0, hx1, hx2, hx3⟩ := hx
    rw [if_neg hx0] at hF
    subst hx1
    replace hx2 : hh = h := hx2
    subst hx2
    by_cases d1 : y1.1 = (1 : Int32)
    · rw [if_pos d1] at hF
      rw [show rx_ex y1.1 = rx_E1 by rw [d1]; rfl]
      refine rx_catch C htab [] 0 10 13 19 [(0, 10, 17, 13)] rfl (fun z hz => absurd hz List.not_mem_nil) (by decide) (by decide) xl_19 xc_1 (fun q9 => ?_)
      refine rx_astore C dL_setPride_13 (by decide) [(4, .ref q9), (0, .ref b), (1, .int x1), (2, .int x2), (3, .ref lo)] rfl ?_
      refine rx_iconst C dL_setPride_15 (1 : Int32) (by decide) ?_
      obtain rfl := Option.some.inj hF
      exact rx_xret (rx_iret C dL_setPride_16 (Nat.le_of_ble_eq_true rfl) (Nat.le_of_ble_eq_true rfl) ⟨rfl, hx3, b_p, b_H, b_L, fr⟩)
    · rw [if_neg d1] at hF
      by_cases d2 : y1.1 = (2 : Int32)
      · rw [if_pos d2] at hF
        rw [show rx_ex y1.1 = rx_E2 by rw [d2]; rfl]
        refine rx_catch C htab [(0, 10, 13, 19)] 0 10 17 13 [] rfl (fun z hz => by
          simp only [List.mem_cons, List.not_mem_nil, or_false] at hz
          rcases hz with rfl
          · exact ⟨by decide, _, xl_19, hN.2.2.1⟩) (by decide) (by decide) xl_13 xc_2 (fun q9 => ?_)
        refine rx_astore C dL_setPride_17 (by decide) [(4, .ref q9), (0, .ref b), (1, .int x1), (2, .int x2), (3, .ref lo)] rfl ?_
        refine rx_iconst C dL_setPride_19 (2 : Int32) (by decide) ?_
        obtain rfl := Option.some.inj hF
        exact rx_xret (rx_iret C dL_setPride_20 (Nat.le_of_ble_eq_true rfl) (Nat.le_of_ble_eq_true rfl) ⟨rfl, hx3, b_p, b_H, b_L, fr⟩)
      · rw [if_neg d2] at hF
        cases hF
  obtain ⟨hz0_y1, rfl, hn, c_p, c_H, ff⟩ := hpp
  replace hn : n = n1 := Eq.symm hn
  subst hn
  replace b_p : bP k (b + 21) (b + 12) y1.2.2.1 hh := c_p
  clear c_p
  replace b_H : bHH k (b + 69) (b + 12) y1.2.2.2 hh := c_H
  clear c_H
  replace ff : rx_fr [(b + 21, 10), (b + 69, 130)] _ hh := ff
  replace b_B := b_B.keep ff ⟨s_B_p, s_B_H, trivial⟩
  replace b_s := b_s.keep ff ⟨s_s_p, s_s_H, trivial⟩
  replace b_w := b_w.keep ff ⟨s_w_p, s_w_H, trivial⟩
  replace b_e := b_e.keep ff ⟨s_e_p, s_e_H, trivial⟩
  replace b_L := b_L.keep ff ⟨s_L_p, s_L_H, trivial⟩
  replace fr := rx_frt fr ff (fun a ha => ⟨ha.1, ha.2.1, trivial⟩)
  rw [if_pos hz0_y1] at hF
  refine rx_i2l C dL_setPride_8 ?_
  replace hF := rx_leE hF; obtain ⟨o_L_2, e_o_L_2, hF⟩ := hF
  refine rx_aL C dL_setPride_9 b_L e_o_L_2 (fun hh c_L ff => ?_)
  replace b_L := c_L
  replace b_B := b_B.keep ff ⟨s_B_L, trivial⟩
  replace b_s := b_s.keep ff ⟨s_s_L, trivial⟩
  replace b_p := b_p.keep ff ⟨s_p_L, trivial⟩
  replace b_w := b_w.keep ff ⟨s_w_L, trivial⟩
  replace b_e := b_e.keep ff ⟨s_e_L, trivial⟩
  replace b_H := b_H.keep ff ⟨s_H_L, trivial⟩
  replace fr := rx_frt fr ff (fun a ha => ⟨ha.2.2.1, trivial⟩)
  refine rx_goto C dL_setPride_10 21 (by decide) ?_
  refine rx_iconst C dL_setPride_21 (0 : Int32) (by decide) ?_
  obtain rfl := Option.some.inj hF
  exact rx_xret (rx_iret C dL_setPride_22 (Nat.le_of_ble_eq_true rfl) (Nat.le_of_ble_eq_true rfl) ⟨rfl, Nat.le_refl _, b_p, b_H, b_L, fr⟩)
def F_L_passTurns (oB : ob) (os : ob) (op : ob) (ow : ob) (oe : ob) (oH : hst) (oL : (Nat → Int64)) (x1 : Int32) : Option (Int32 × ob × ob × ob × hst × (Nat → Int64)) := (F_X8_passTurns oB os op ow oe oH x1).bind fun y1 => if y1.1 = (0 : Int32) then (rx_le (vp_updL oL 0 y1.2.1.toInt64) fun o_L_2 => some ((0 : Int32), y1.2.2.1, y1.2.2.2.1, y1.2.2.2.2.1, y1.2.2.2.2.2, o_L_2)) else (if y1.1 = (1 : Int32) then (none) else (if y1.1 = (2 : Int32) then (some ((1 : Int32), op, ow, oe, oH, oL)) else (some ((2 : Int32), op, ow, oe, oH, oL))))
set_option maxRecDepth 100000 in
set_option maxHeartbeats 4000000 in
theorem w_L_passTurns {b lo : Nat} {oB : ob} {os : ob} {op : ob} {ow : ob} {oe : ob} {oH : hst} {oL : (Nat → Int64)} {x1 : Int32} {y : Int32 × ob × ob × ob × hst × (Nat → Int64)} (hst : l.stackTraces = false) (hF : F_L_passTurns oB os op ow oe oH oL x1 = some y) (b_B : bB k b oB h) (b_s : bS k (b + 12) os h) (b_p : bP k (b + 21) (b + 12) op h) (b_w : bQ k (b + 21 + 10) ow h) (b_e : bQ k (b + 21 + 13) oe h) (b_H : bHH k (b + 69) (b + 12) oH h) (b_L : bL k lo oL h) (hd0 : b + 204 ≤ lo ∨ lo + 1 ≤ b) : vx_Met l yL_passTurns (rx_wsH yL_passTurns cL_passTurns 4 (some .int) [(0, 9, 12, 13), (0, 9, 15, 94)]) (rx_rmX 8 170 1 6) (va_Pc [.ref b, .int x1, .ref lo] (rx_GN G k h n)) (va_Qi (fun r u => y.1 = r ∧ n ≤ u.2 ∧ bP k (b + 21) (b + 12) y.2.1 u.1 ∧ bQ k (b + 21 + 10) y.2.2.1 u.1 ∧ bQ k (b + 21 + 13) y.2.2.2.1 u.1 ∧ bHH k (b + 69) (b + 12) y.2.2.2.2.1 u.1 ∧ bL k lo y.2.2.2.2.2 u.1 ∧ rx_fr [(b + 21, 10), (b + 21 + 10, 3), (b + 21 + 13, 3), (b + 69, 130), (lo, 1)] h u.1) (rx_B G k) (rx_A k)) (rx_XC G k (fun _ _ => False)) 1 6 (rx_A k) := by
  have s_B_p : b + 1 ≤ b + 21 ∨ b + 21 + 10 ≤ b := by omega
  have s_B_w : b + 1 ≤ b + 21 + 10 ∨ b + 21 + 10 + 3 ≤ b := by omega
  have s_B_e : b + 1 ≤ b + 21 + 13 ∨ b + 21 + 13 + 3 ≤ b := by omega
  have s_B_H : b + 1 ≤ b + 69 ∨ b + 69 + 130 ≤ b := by omega
  have s_s_p : b + 12 + 9 ≤ b + 21 ∨ b + 21 + 10 ≤ b + 12 := by omega
  have s_s_w : b + 12 + 9 ≤ b + 21 + 10 ∨ b + 21 + 10 + 3 ≤ b + 12 := by omega
  have s_s_e : b + 12 + 9 ≤ b + 21 + 13 ∨ b + 21 + 13 + 3 ≤ b + 12 := by omega
  have s_s_H : b + 12 + 9 ≤ b + 69 ∨ b + 69 + 130 ≤ b + 12 := by omega
  have s_L_p : lo + 1 ≤ b + 21 ∨ b + 21 + 10 ≤ lo := by omega
  have s_L_w : lo + 1 ≤ b + 21 + 10 ∨ b + 21 + 10 + 3 ≤ lo := by omega
  have s_L_e : lo + 1 ≤ b + 21 + 13 ∨ b + 21 + 13 + 3 ≤ lo := by omega
  have s_L_H : lo + 1 ≤ b + 69 ∨ b + 69 + 130 ≤ lo := by omega
  have s_B_L : b + 1 ≤ lo ∨ lo + 1 ≤ b := by omega
  have s_s_L : b + 12 + 9 ≤ lo ∨ lo + 1 ≤ b + 12 := by omega
  have s_p_L : b + 21 + 10 ≤ lo ∨ lo + 1 ≤ b + 21 := by omega
  have s_w_L : b + 21 + 10 + 3 ≤ lo ∨ lo + 1 ≤ b + 21 + 10 := by omega
  have s_e_L : b + 21 + 13 + 3 ≤ lo ∨ lo + 1 ≤ b + 21 + 13 := by omega
  have s_H_L : b + 69 + 130 ≤ lo ∨ lo + 1 ≤ b + 69 := by omega
  refine rx_startH [(0, .ref b), (1, .int x1), (2, .ref lo)] rfl (Nat.le_of_ble_eq_true rfl) (by decide) (fun P9 E9 S9 M9 A9 B9 me9 c9 C htab hN => ?_)
  unfold F_L_passTurns at hF
  have fr : rx_fr [(b + 21, 10), (b + 21 + 10, 3), (b + 21 + 13, 3), (b + 69, 130), (lo, 1)] h h := rx_fr0
  refine rx_aload_n C dL_passTurns_0 2 rfl ?_
  refine rx_iconst C dL_passTurns_1 (0 : Int32) (by decide) ?_
  refine rx_aload_n C dL_passTurns_2 0 rfl ?_
  refine rx_iload_n C dL_passTurns_3 1 rfl ?_
  replace hF := rx_biE hF; obtain ⟨y1, e_y1, hF⟩ := hF
  refine rx_xci (rx_rVX C (w_X8_passTurns hst e_y1 b_B b_s b_p b_w b_e b_H) Y_X8_passTurns V_X8_passTurns m_L_117 (Or.inl ⟨_, _, _, _, b_B, rfl⟩) ⟨⟨rfl, rfl⟩, ⟨(Nat.le_of_ble_eq_true rfl), (Nat.le_of_ble_eq_true rfl)⟩, ⟨(Nat.le_of_ble_eq_true rfl), (Nat.le_of_ble_eq_true rfl)⟩⟩ rfl rfl (Nat.le_of_ble_eq_true rfl) dL_passTurns_4) (fun E hh n1 hx => ?_) (fun r hh n1 hpp => ?_)
  · obtain ⟨hx0, hx1, hx2, hx3⟩ := hx
    rw [if_neg hx0] at hF
    subst hx1
    replace hx2 : hh = h := hx2
    subst hx2
    by_cases d1 : y1.1 = (1 : Int32)
    · rw [if_pos d1] at hF
      cases hF
    · rw [if_neg d1] at hF
      by_cases d2 : y1.1 = (2 : Int32)
      · rw [if_pos d2] at hF
        rw [show rx_ex y1.1 = rx_E2 by rw [d2]; rfl]
        refine rx_catch C htab [] 0 9 12 13 [(0, 9, 15, 94)] rfl (fun z hz => absurd hz List.not_mem_nil) (by decide) (by decide) xl_13 xc_2 (fun q9 => ?_)
        refine rx_astore_n C dL_passTurns_12 (by decide) [(3, .ref q9), (0, .ref b), (1, .int x1), (2, .ref lo)] rfl ?_
        refine rx_iconst C dL_passTurns_13 (1 : Int32) (by decide) ?_
        obtain rfl := Option.some.inj hF
        exact rx_xret (rx_iret C dL_passTurns_14 (Nat.le_of_ble_eq_true rfl) (Nat.le_of_ble_eq_true rfl) ⟨rfl, hx3, b_p, b_w, b_e, b_H, b_L, fr⟩)
      · rw [if_neg d2] at hF
        rw [show rx_ex y1.1 = rx_E3 by unfold rx_ex; rw [if_neg d1, if_neg d2]]
        refine rx_catch C htab [(0, 9, 12, 13)] 0 9 15 94 [] rfl (fun z hz => by
          simp only [List.mem_cons, List.not_mem_nil, or_false] at hz
          rcases hz with rfl
          · exact ⟨by decide, _, xl_13, hN.2.2.2.2.2⟩) (by decide) (by decide) xl_94 xc_3 (fun q9 => ?_)
        refine rx_astore_n C dL_passTurns_15 (by decide) [(3, .ref q9), (0, .ref b), (1, .int x1), (2, .ref lo)] rfl ?_
        refine rx_iconst C dL_passTurns_16 (2 : Int32) (by decide) ?_
        obtain rfl := Option.some.inj hF
        exact rx_xret (rx_iret C dL_passTurns_17 (Nat.le_of_ble_eq_true rfl) (Nat.le_of_ble_eq_true rfl) ⟨rfl, hx3, b_p, b_w, b_e, b_H, b_L, fr⟩)
  obtain ⟨hz0_y1, rfl, hn, c_p, c_w, c_e, c_H, ff⟩ := hpp
  replace hn : n = n1 := Eq.symm hn
  subst hn
  replace b_p : bP k (b + 21) (b + 12) y1.2.2.1 hh := c_p
  clear c_p
  replace b_w : bQ k (b + 21 + 10) y1.2.2.2.1 hh := c_w
  clear c_w
  replace b_e : bQ k (b + 21 + 13) y1.2.2.2.2.1 hh := c_e
  clear c_e
  replace b_H : bHH k (b + 69) (b + 12) y1.2.2.2.2.2 hh := c_H
  clear c_H
  replace ff : rx_fr [(b + 21, 10), (b + 21 + 10, 3), (b + 21 + 13, 3), (b + 69, 130)] _ hh := ff
  replace b_B := b_B.keep ff ⟨s_B_p, s_B_w, s_B_e, s_B_H, trivial⟩
  replace b_s := b_s.keep ff ⟨s_s_p, s_s_w, s_s_e, s_s_H, trivial⟩
  replace b_L := b_L.keep ff ⟨s_L_p, s_L_w, s_L_e, s_L_H, trivial⟩
  replace fr := rx_frt fr ff (fun a ha => ⟨ha.1, ha.2.1, ha.2.2.1, ha.2.2.2.1, trivial⟩)
  rw [if_pos hz0_y1] at hF
  refine rx_i2l C dL_passTurns_7 ?_
  replace hF := rx_leE hF; obtain ⟨o_L_2, e_o_L_2, hF⟩ := hF
  refine rx_aL C dL_passTurns_8 b_L e_o_L_2 (fun hh c_L ff => ?_)
  replace b_L := c_L
  replace b_B := b_B.keep ff ⟨s_B_L, trivial⟩
  replace b_s := b_s.keep ff ⟨s_s_L, trivial⟩
  replace b_p := b_p.keep ff ⟨s_p_L, trivial⟩
  replace b_w := b_w.keep ff ⟨s_w_L, trivial⟩
  replace b_e := b_e.keep ff ⟨s_e_L, trivial⟩
  replace b_H := b_H.keep ff ⟨s_H_L, trivial⟩
  replace fr := rx_frt fr ff (fun a ha => ⟨ha.2.2.2.2.1, trivial⟩)
  refine rx_goto C dL_passTurns_9 18 (by decide) ?_
  refine rx_iconst C dL_passTurns_18 (0 : Int32) (by decide) ?_
  obtain rfl := Option.some.inj hF
  exact rx_xret (rx_iret C dL_passTurns_19 (Nat.le_of_ble_eq_true rfl) (Nat.le_of_ble_eq_true rfl) ⟨rfl, Nat.le_refl _, b_p, b_w, b_e, b_H, b_L, fr⟩)
def F_L_runScript (oB : ob) (ot : ob) (os : ob) (op : ob) (ow : ob) (oe : ob) (oH : hst) (oc : obv) (oL : (Nat → Int64)) (x1 : Int32) : Option (Int32 × ob × ob × ob × ob × hst × obv × (Nat → Int64)) := (F_X8_runScript oB ot os op ow oe oH oc x1).bind fun y1 => if y1.1 = (0 : Int32) then (rx_le (vp_updL oL 0 y1.2.1.toInt64) fun o_L_2 => some ((0 : Int32), y1.2.2.1, y1.2.2.2.1, y1.2.2.2.2.1, y1.2.2.2.2.2.1, y1.2.2.2.2.2.2.1, y1.2.2.2.2.2.2.2, o_L_2)) else (if y1.1 = (1 : Int32) then (none) else (if y1.1 = (2 : Int32) then (some ((1 : Int32), ot, op, ow, oe, oH, oc, oL)) else (none)))
set_option maxRecDepth 100000 in
set_option maxHeartbeats 4000000 in
theorem w_L_runScript {b lo : Nat} {oB : ob} {ot : ob} {os : ob} {op : ob} {ow : ob} {oe : ob} {oH : hst} {oc : obv} {oL : (Nat → Int64)} {x1 : Int32} {y : Int32 × ob × ob × ob × ob × hst × obv × (Nat → Int64)} (hst : l.stackTraces = false) (hF : F_L_runScript oB ot os op ow oe oH oc oL x1 = some y) (b_B : bB k b oB h) (b_t : bT k (b + 1) ot h) (b_s : bS k (b + 12) os h) (b_p : bP k (b + 21) (b + 12) op h) (b_w : bQ k (b + 21 + 10) ow h) (b_e : bQ k (b + 21 + 13) oe h) (b_H : bHH k (b + 69) (b + 12) oH h) (b_c : bC k (b + 199) oc h) (b_L : bL k lo oL h) (hd0 : b + 204 ≤ lo ∨ lo + 1 ≤ b) : vx_Met l yL_runScript (rx_wsH yL_runScript cL_runScript 4 (some .int) [(0, 9, 12, 13)]) (rx_rmX 9 194 1 6) (va_Pc [.ref b, .int x1, .ref lo] (rx_GN G k h n)) (va_Qi (fun r u => y.1 = r ∧ n ≤ u.2 ∧ bT k (b + 1) y.2.1 u.1 ∧ bP k (b + 21) (b + 12) y.2.2.1 u.1 ∧ bQ k (b + 21 + 10) y.2.2.2.1 u.1 ∧ bQ k (b + 21 + 13) y.2.2.2.2.1 u.1 ∧ bHH k (b + 69) (b + 12) y.2.2.2.2.2.1 u.1 ∧ bC k (b + 199) y.2.2.2.2.2.2.1 u.1 ∧ bL k lo y.2.2.2.2.2.2.2 u.1 ∧ rx_fr [(b + 1, 2), (b + 21, 10), (b + 21 + 10, 3), (b + 21 + 13, 3), (b + 69, 130), (b + 199, 4), (lo, 1)] h u.1) (rx_B G k) (rx_A k)) (rx_XC G k (fun _ _ => False)) 1 6 (rx_A k) := by
  have s_B_t : b + 1 ≤ b + 1 ∨ b + 1 + 2 ≤ b := by omega
  have s_B_p : b + 1 ≤ b + 21 ∨ b + 21 + 10 ≤ b := by omega
  have s_B_w : b + 1 ≤ b + 21 + 10 ∨ b + 21 + 10 + 3 ≤ b := by omega
  have s_B_e : b + 1 ≤ b + 21 + 13 ∨ b + 21 + 13 + 3 ≤ b := by omega
  have s_B_H : b + 1 ≤ b + 69 ∨ b + 69 + 130 ≤ b := by omega
  have s_B_c : b + 1 ≤ b + 199 ∨ b + 199 + 4 ≤ b := by omega
  have s_s_t : b + 12 + 9 ≤ b + 1 ∨ b + 1 + 2 ≤ b + 12 := by omega
  have s_s_p : b + 12 + 9 ≤ b + 21 ∨ b + 21 + 10 ≤ b + 12 := by omega
  have s_s_w : b + 12 + 9 ≤ b + 21 + 10 ∨ b + 21 + 10 + 3 ≤ b + 12 := by omega
  have s_s_e : b + 12 + 9 ≤ b + 21 + 13 ∨ b + 21 + 13 + 3 ≤ b + 12 := by omega
  have s_s_H : b + 12 + 9 ≤ b + 69 ∨ b + 69 + 130 ≤ b + 12 := by omega
  have s_s_c : b + 12 + 9 ≤ b + 199 ∨ b + 199 + 4 ≤ b + 12 := by omega
  have s_L_t : lo + 1 ≤ b + 1 ∨ b + 1 + 2 ≤ lo := by omega
  have s_L_p : lo + 1 ≤ b + 21 ∨ b + 21 + 10 ≤ lo := by omega
  have s_L_w : lo + 1 ≤ b + 21 + 10 ∨ b + 21 + 10 + 3 ≤ lo := by omega
  have s_L_e : lo + 1 ≤ b + 21 + 13 ∨ b + 21 + 13 + 3 ≤ lo := by omega
  have s_L_H : lo + 1 ≤ b + 69 ∨ b + 69 + 130 ≤ lo := by omega
  have s_L_c : lo + 1 ≤ b + 199 ∨ b + 199 + 4 ≤ lo := by omega
  have s_B_L : b + 1 ≤ lo ∨ lo + 1 ≤ b := by omega
  have s_t_L : b + 1 + 2 ≤ lo ∨ lo + 1 ≤ b + 1 := by omega
  have s_s_L : b + 12 + 9 ≤ lo ∨ lo + 1 ≤ b + 12 := by omega
  have s_p_L : b + 21 + 10 ≤ lo ∨ lo + 1 ≤ b + 21 := by omega
  have s_w_L : b + 21 + 10 + 3 ≤ lo ∨ lo + 1 ≤ b + 21 + 10 := by omega
  have s_e_L : b + 21 + 13 + 3 ≤ lo ∨ lo + 1 ≤ b + 21 + 13 := by omega
  have s_H_L : b + 69 + 130 ≤ lo ∨ lo + 1 ≤ b + 69 := by omega
  have s_c_L : b + 199 + 4 ≤ lo ∨ lo + 1 ≤ b + 199 := by omega
  refine rx_startH [(0, .ref b), (1, .int x1), (2, .ref lo)] rfl (Nat.le_of_ble_eq_true rfl) (by decide) (fun P9 E9 S9 M9 A9 B9 me9 c9 C htab hN => ?_)
  unfold F_L_runScript at hF
  have fr : rx_fr [(b + 1, 2), (b + 21, 10), (b + 21 + 10, 3), (b + 21 + 13, 3), (b + 69, 130), (b + 199, 4), (lo, 1)] h h := rx_fr0
  refine rx_aload_n C dL_runScript_0 2 rfl ?_
  refine rx_iconst C dL_runScript_1 (0 : Int32) (by decide) ?_
  refine rx_aload_n C dL_runScript_2 0 rfl ?_
  refine rx_iload_n C dL_runScript_3 1 rfl ?_
  replace hF := rx_biE hF; obtain ⟨y1, e_y1, hF⟩ := hF
  refine rx_xci (rx_rVX C (w_X8_runScript hst e_y1 b_B b_t b_s b_p b_w b_e b_H b_c) Y_X8_runScript V_X8_runScript m_L_120 (Or.inl ⟨_, _, _, _, b_B, rfl⟩) ⟨⟨rfl, rfl⟩, ⟨(Nat.le_of_ble_eq_true rfl), (Nat.le_of_ble_eq_true rfl)⟩, ⟨(Nat.le_of_ble_eq_true rfl), (Nat.le_of_ble_eq_true rfl)⟩⟩ rfl rfl (Nat.le_of_ble_eq_true rfl) dL_runScript_4) (fun E hh n1 hx => ?_) (fun r hh n1 hpp => ?_)
  · obtain ⟨hx0, hx1, hx2, hx3⟩ := hx
    rw [if_neg hx0] at hF
    subst hx1
    replace hx2 : hh = h := hx2
    subst hx2
    by_cases d1 : y1.1 = (1 : Int32)
    · rw [if_pos d1] at hF
      cases hF
    · rw [if_neg d1] at hF
      by_cases d2 : y1.1 = (2 : Int32)
      · rw [if_pos d2] at hF
        rw [show rx_ex y1.1 = rx_E2 by rw [d2]; rfl]
        refine rx_catch C htab [] 0 9 12 13 [] rfl (fun z hz => absurd hz List.not_mem_nil) (by decide) (by decide) xl_13 xc_2 (fun q9 => ?_)
        refine rx_astore_n C dL_runScript_12 (by decide) [(3, .ref q9), (0, .ref b), (1, .int x1), (2, .ref lo)] rfl ?_
        refine rx_iconst C dL_runScript_13 (1 : Int32) (by decide) ?_
        obtain rfl := Option.some.inj hF
        exact rx_xret (rx_iret C dL_runScript_14 (Nat.le_of_ble_eq_true rfl) (Nat.le_of_ble_eq_true rfl) ⟨rfl, hx3, b_t, b_p, b_w, b_e, b_H, b_c, b_L, fr⟩)
      · rw [if_neg d2] at hF
        cases hF
  obtain ⟨hz0_y1, rfl, hn, c_t, c_p, c_w, c_e, c_H, c_c, ff⟩ := hpp
  replace hn : n = n1 := Eq.symm hn
  subst hn
  replace b_t : bT k (b + 1) y1.2.2.1 hh := c_t
  clear c_t
  replace b_p : bP k (b + 21) (b + 12) y1.2.2.2.1 hh := c_p
  clear c_p
  replace b_w : bQ k (b + 21 + 10) y1.2.2.2.2.1 hh := c_w
  clear c_w
  replace b_e : bQ k (b + 21 + 13) y1.2.2.2.2.2.1 hh := c_e
  clear c_e
  replace b_H : bHH k (b + 69) (b + 12) y1.2.2.2.2.2.2.1 hh := c_H
  clear c_H
  replace b_c : bC k (b + 199) y1.2.2.2.2.2.2.2 hh := c_c
  clear c_c
  replace ff : rx_fr [(b + 1, 2), (b + 21, 10), (b + 21 + 10, 3), (b + 21 + 13, 3), (b + 69, 130), (b + 199, 4)] _ hh := ff
  replace b_B := b_B.keep ff ⟨s_B_t, s_B_p, s_B_w, s_B_e, s_B_H, s_B_c, trivial⟩
  replace b_s := b_s.keep ff ⟨s_s_t, s_s_p, s_s_w, s_s_e, s_s_H, s_s_c, trivial⟩
  replace b_L := b_L.keep ff ⟨s_L_t, s_L_p, s_L_w, s_L_e, s_L_H, s_L_c, trivial⟩
  replace fr := rx_frt fr ff (fun a ha => ⟨ha.1, ha.2.1, ha.2.2.1, ha.2.2.2.1, ha.2.2.2.2.1, ha.2.2.2.2.2.1, trivial⟩)
  rw [if_pos hz0_y1] at hF
  refine rx_i2l C dL_runScript_7 ?_
  replace hF := rx_leE hF; obtain ⟨o_L_2, e_o_L_2, hF⟩ := hF
  refine rx_aL C dL_runScript_8 b_L e_o_L_2 (fun hh c_L ff => ?_)
  replace b_L := c_L
  replace b_B := b_B.keep ff ⟨s_B_L, trivial⟩
  replace b_t := b_t.keep ff ⟨s_t_L, trivial⟩
  replace b_s := b_s.keep ff ⟨s_s_L, trivial⟩
  replace b_p := b_p.keep ff ⟨s_p_L, trivial⟩
  replace b_w := b_w.keep ff ⟨s_w_L, trivial⟩
  replace b_e := b_e.keep ff ⟨s_e_L, trivial⟩
  replace b_H := b_H.keep ff ⟨s_H_L, trivial⟩
  replace b_c := b_c.keep ff ⟨s_c_L, trivial⟩
  replace fr := rx_frt fr ff (fun a ha => ⟨ha.2.2.2.2.2.2.1, trivial⟩)
  refine rx_goto C dL_runScript_9 15 (by decide) ?_
  refine rx_iconst C dL_runScript_15 (0 : Int32) (by decide) ?_
  obtain rfl := Option.some.inj hF
  exact rx_xret (rx_iret C dL_runScript_16 (Nat.le_of_ble_eq_true rfl) (Nat.le_of_ble_eq_true rfl) ⟨rfl, Nat.le_refl _, b_t, b_p, b_w, b_e, b_H, b_c, b_L, fr⟩)
def F_L_outputByte (oB : ob) (oO : ob) (oL : (Nat → Int64)) (x1 : Int32) : Option (Int32 × (Nat → Int64)) := (F_X8_outputByte oB oO x1).bind fun y1 => if y1.1 = (0 : Int32) then (rx_le (vp_updL oL 0 y1.2.toInt64) fun o_L_2 => some ((0 : Int32), o_L_2)) else (if y1.1 = (1 : Int32) then (some ((1 : Int32), oL)) else (if y1.1 = (2 : Int32) then (none) else (none)))
set_option maxRecDepth 100000 in
set_option maxHeartbeats 4000000 in
theorem w_L_outputByte {b lo : Nat} {oB : ob} {oO : ob} {oL : (Nat → Int64)} {x1 : Int32} {y : Int32 × (Nat → Int64)} (hst : l.stackTraces = false) (hF : F_L_outputByte oB oO oL x1 = some y) (b_B : bB k b oB h) (b_O : bO k (b + 203) oO h) (b_L : bL k lo oL h) (hd0 : b + 204 ≤ lo ∨ lo + 1 ≤ b) : vx_Met l yL_outputByte (rx_wsH yL_outputByte cL_outputByte 4 (some .int) [(0, 9, 12, 19)]) (rx_rmX 7 103 1 6) (va_Pc [.ref b, .int x1, .ref lo] (rx_GN G k h n)) (va_Qi (fun r u => y.1 = r ∧ n ≤ u.2 ∧ bL k lo y.2 u.1 ∧ rx_fr [(lo, 1)] h u.1) (rx_B G k) (rx_A k)) (rx_XC G k (fun _ _ => False)) 1 6 (rx_A k) := by
  have s_B_L : b + 1 ≤ lo ∨ lo + 1 ≤ b := by omega
  have s_O_L : b + 203 + 1 ≤ lo ∨ lo + 1 ≤ b + 203 := by omega
  refine rx_startH [(0, .ref b), (1, .int x1), (2, .ref lo)] rfl (Nat.le_of_ble_eq_true rfl) (by decide) (fun P9 E9 S9 M9 A9 B9 me9 c9 C htab hN => ?_)
  unfold F_L_outputByte at hF
  have fr : rx_fr [(lo, 1)] h h := rx_fr0
  refine rx_aload_n C dL_outputByte_0 2 rfl ?_
  refine rx_iconst C dL_outputByte_1 (0 : Int32) (by decide) ?_
  refine rx_aload_n C dL_outputByte_2 0 rfl ?_
  refine rx_iload_n C dL_outputByte_3 1 rfl ?_
  replace hF := rx_biE hF; obtain ⟨y1, e_y1, hF⟩ := hF
  refine rx_xci (rx_rVX C (w_X8_outputByte hst e_y1 b_B b_O) Y_X8_outputByte V_X8_outputByte m_L_123 (Or.inl ⟨_, _, _, _, b_B, rfl⟩) ⟨⟨rfl, rfl⟩, ⟨(Nat.le_of_ble_eq_true rfl), (Nat.le_of_ble_eq_true rfl)⟩, ⟨(Nat.le_of_ble_eq_true rfl), (Nat.le_of_ble_eq_true rfl)⟩⟩ rfl rfl (Nat.le_of_ble_eq_true rfl) dL_outputByte_4) (fun E hh n1 hx => ?_) (fun r hh n1 hpp => ?_)
  · obtain ⟨hx0, hx1, hx2, hx3⟩ := hx
    rw [if_neg hx0] at hF
    subst hx1
    replace hx2 : hh = h := hx2
    subst hx2
    by_cases d1 : y1.1 = (1 : Int32)
    · rw [if_pos d1] at hF
      rw [show rx_ex y1.1 = rx_E1 by rw [d1]; rfl]
      refine rx_catch C htab [] 0 9 12 19 [] rfl (fun z hz => absurd hz List.not_mem_nil) (by decide) (by decide) xl_19 xc_1 (fun q9 => ?_)
      refine rx_astore_n C dL_outputByte_12 (by decide) [(3, .ref q9), (0, .ref b), (1, .int x1), (2, .ref lo)] rfl ?_
      refine rx_iconst C dL_outputByte_13 (1 : Int32) (by decide) ?_
      obtain rfl := Option.some.inj hF
      exact rx_xret (rx_iret C dL_outputByte_14 (Nat.le_of_ble_eq_true rfl) (Nat.le_of_ble_eq_true rfl) ⟨rfl, hx3, b_L, fr⟩)
    · rw [if_neg d1] at hF
      by_cases d2 : y1.1 = (2 : Int32)
      · rw [if_pos d2] at hF
        cases hF
      · rw [if_neg d2] at hF
        cases hF
  obtain ⟨hz0_y1, rfl, hu⟩ := hpp
  cases hu
  rw [if_pos hz0_y1] at hF
  refine rx_i2l C dL_outputByte_7 ?_
  replace hF := rx_leE hF; obtain ⟨o_L_2, e_o_L_2, hF⟩ := hF
  refine rx_aL C dL_outputByte_8 b_L e_o_L_2 (fun hh c_L ff => ?_)
  replace b_L := c_L
  replace b_B := b_B.keep ff ⟨s_B_L, trivial⟩
  replace b_O := b_O.keep ff ⟨s_O_L, trivial⟩
  replace fr := rx_frt fr ff (fun a ha => ⟨ha.1, trivial⟩)
  refine rx_goto C dL_outputByte_9 15 (by decide) ?_
  refine rx_iconst C dL_outputByte_15 (0 : Int32) (by decide) ?_
  obtain rfl := Option.some.inj hF
  exact rx_xret (rx_iret C dL_outputByte_16 (Nat.le_of_ble_eq_true rfl) (Nat.le_of_ble_eq_true rfl) ⟨rfl, Nat.le_refl _, b_L, fr⟩)
def F_L_undo (oB : ob) (op : ob) (ow : ob) (oe : ob) (oH : hst) (oL : (Nat → Int64)) : Option (Int32 × ob × ob × ob × hst × (Nat → Int64)) := (F_X8_undo oB op ow oe oH).bind fun y1 => if y1.1 = (0 : Int32) then (rx_le (vp_updL oL 0 y1.2.1.toInt64) fun o_L_2 => some ((0 : Int32), y1.2.2.1, y1.2.2.2.1, y1.2.2.2.2.1, y1.2.2.2.2.2, o_L_2)) else (if y1.1 = (1 : Int32) then (none) else (if y1.1 = (2 : Int32) then (none) else (some ((1 : Int32), op, ow, oe, oH, oL))))
set_option maxRecDepth 100000 in
set_option maxHeartbeats 4000000 in
theorem w_L_undo {b lo : Nat} {oB : ob} {op : ob} {ow : ob} {oe : ob} {oH : hst} {oL : (Nat → Int64)} {y : Int32 × ob × ob × ob × hst × (Nat → Int64)} (hst : l.stackTraces = false) (hF : F_L_undo oB op ow oe oH oL = some y) (b_B : bB k b oB h) (b_p : bP k (b + 21) (b + 12) op h) (b_w : bQ k (b + 21 + 10) ow h) (b_e : bQ k (b + 21 + 13) oe h) (b_H : bHH k (b + 69) (b + 12) oH h) (b_L : bL k lo oL h) (hd0 : b + 204 ≤ lo ∨ lo + 1 ≤ b) : vx_Met l yL_undo (rx_wsH yL_undo cL_undo 3 (some .int) [(0, 8, 11, 94)]) (rx_rmX 7 146 1 6) (va_Pc [.ref b, .ref lo] (rx_GN G k h n)) (va_Qi (fun r u => y.1 = r ∧ n ≤ u.2 ∧ bP k (b + 21) (b + 12) y.2.1 u.1 ∧ bQ k (b + 21 + 10) y.2.2.1 u.1 ∧ bQ k (b + 21 + 13) y.2.2.2.1 u.1 ∧ bHH k (b + 69) (b + 12) y.2.2.2.2.1 u.1 ∧ bL k lo y.2.2.2.2.2 u.1 ∧ rx_fr [(b + 21, 10), (b + 21 + 10, 3), (b + 21 + 13, 3), (b + 69, 130), (lo, 1)] h u.1) (rx_B G k) (rx_A k)) (rx_XC G k (fun _ _ => False)) 1 6 (rx_A k) := by
  have s_B_p : b + 1 ≤ b + 21 ∨ b + 21 + 10 ≤ b := by omega
  have s_B_w : b + 1 ≤ b + 21 + 10 ∨ b + 21 + 10 + 3 ≤ b := by omega
  have s_B_e : b + 1 ≤ b + 21 + 13 ∨ b + 21 + 13 + 3 ≤ b := by omega
  have s_B_H : b + 1 ≤ b + 69 ∨ b + 69 + 130 ≤ b := by omega
  have s_L_p : lo + 1 ≤ b + 21 ∨ b + 21 + 10 ≤ lo := by omega
  have s_L_w : lo + 1 ≤ b + 21 + 10 ∨ b + 21 + 10 + 3 ≤ lo := by omega
  have s_L_e : lo + 1 ≤ b + 21 + 13 ∨ b + 21 + 13 + 3 ≤ lo := by omega
  have s_L_H : lo + 1 ≤ b + 69 ∨ b + 69 + 130 ≤ lo := by omega
  have s_B_L : b + 1 ≤ lo ∨ lo + 1 ≤ b := by omega
  have s_p_L : b + 21 + 10 ≤ lo ∨ lo + 1 ≤ b + 21 := by omega
  have s_w_L : b + 21 + 10 + 3 ≤ lo ∨ lo + 1 ≤ b + 21 + 10 := by omega
  have s_e_L : b + 21 + 13 + 3 ≤ lo ∨ lo + 1 ≤ b + 21 + 13 := by omega
  have s_H_L : b + 69 + 130 ≤ lo ∨ lo + 1 ≤ b + 69 := by omega
  refine rx_startH [(0, .ref b), (1, .ref lo)] rfl (Nat.le_of_ble_eq_true rfl) (by decide) (fun P9 E9 S9 M9 A9 B9 me9 c9 C htab hN => ?_)
  unfold F_L_undo at hF
  have fr : rx_fr [(b + 21, 10), (b + 21 + 10, 3), (b + 21 + 13, 3), (b + 69, 130), (lo, 1)] h h := rx_fr0
  refine rx_aload_n C dL_undo_0 1 rfl ?_
  refine rx_iconst C dL_undo_1 (0 : Int32) (by decide) ?_
  refine rx_aload_n C dL_undo_2 0 rfl ?_
  replace hF := rx_biE hF; obtain ⟨y1, e_y1, hF⟩ := hF
  refine rx_xci (rx_rVX C (w_X8_undo hst e_y1 b_B b_p b_w b_e b_H) Y_X8_undo V_X8_undo m_L_126 (Or.inl ⟨_, _, _, _, b_B, rfl⟩) ⟨⟨rfl, rfl⟩, ⟨(Nat.le_of_ble_eq_true rfl), (Nat.le_of_ble_eq_true rfl)⟩, ⟨(Nat.le_of_ble_eq_true rfl), (Nat.le_of_ble_eq_true rfl)⟩⟩ rfl rfl (Nat.le_of_ble_eq_true rfl) dL_undo_3) (fun E hh n1 hx => ?_) (fun r hh n1 hpp => ?_)
  · obtain ⟨hx0, hx1, hx2, hx3⟩ := hx
    rw [if_neg hx0] at hF
    subst hx1
    replace hx2 : hh = h := hx2
    subst hx2
    by_cases d1 : y1.1 = (1 : Int32)
    · rw [if_pos d1] at hF
      cases hF
    · rw [if_neg d1] at hF
      by_cases d2 : y1.1 = (2 : Int32)
      · rw [if_pos d2] at hF
        cases hF
      · rw [if_neg d2] at hF
        rw [show rx_ex y1.1 = rx_E3 by unfold rx_ex; rw [if_neg d1, if_neg d2]]
        refine rx_catch C htab [] 0 8 11 94 [] rfl (fun z hz => absurd hz List.not_mem_nil) (by decide) (by decide) xl_94 xc_3 (fun q9 => ?_)
        refine rx_astore_n C dL_undo_11 (by decide) [(2, .ref q9), (0, .ref b), (1, .ref lo)] rfl ?_
        refine rx_iconst C dL_undo_12 (1 : Int32) (by decide) ?_
        obtain rfl := Option.some.inj hF
        exact rx_xret (rx_iret C dL_undo_13 (Nat.le_of_ble_eq_true rfl) (Nat.le_of_ble_eq_true rfl) ⟨rfl, hx3, b_p, b_w, b_e, b_H, b_L, fr⟩)
  obtain ⟨hz0_y1, rfl, hn, c_p, c_w, c_e, c_H, ff⟩ := hpp
  replace hn : n = n1 := Eq.symm hn
  subst hn
  replace b_p : bP k (b + 21) (b + 12) y1.2.2.1 hh := c_p
  clear c_p
  replace b_w : bQ k (b + 21 + 10) y1.2.2.2.1 hh := c_w
  clear c_w
  replace b_e : bQ k (b + 21 + 13) y1.2.2.2.2.1 hh := c_e
  clear c_e
  replace b_H : bHH k (b + 69) (b + 12) y1.2.2.2.2.2 hh := c_H
  clear c_H
  replace ff : rx_fr [(b + 21, 10), (b + 21 + 10, 3), (b + 21 + 13, 3), (b + 69, 130)] _ hh := ff
  replace b_B := b_B.keep ff ⟨s_B_p, s_B_w, s_B_e, s_B_H, trivial⟩
  replace b_L := b_L.keep ff ⟨s_L_p, s_L_w, s_L_e, s_L_H, trivial⟩
  replace fr := rx_frt fr ff (fun a ha => ⟨ha.1, ha.2.1, ha.2.2.1, ha.2.2.2.1, trivial⟩)
  rw [if_pos hz0_y1] at hF
  refine rx_i2l C dL_undo_6 ?_
  replace hF := rx_leE hF; obtain ⟨o_L_2, e_o_L_2, hF⟩ := hF
  refine rx_aL C dL_undo_7 b_L e_o_L_2 (fun hh c_L ff => ?_)
  replace b_L := c_L
  replace b_B := b_B.keep ff ⟨s_B_L, trivial⟩
  replace b_p := b_p.keep ff ⟨s_p_L, trivial⟩
  replace b_w := b_w.keep ff ⟨s_w_L, trivial⟩
  replace b_e := b_e.keep ff ⟨s_e_L, trivial⟩
  replace b_H := b_H.keep ff ⟨s_H_L, trivial⟩
  replace fr := rx_frt fr ff (fun a ha => ⟨ha.2.2.2.2.1, trivial⟩)
  refine rx_goto C dL_undo_8 14 (by decide) ?_
  refine rx_iconst C dL_undo_14 (0 : Int32) (by decide) ?_
  obtain rfl := Option.some.inj hF
  exact rx_xret (rx_iret C dL_undo_15 (Nat.le_of_ble_eq_true rfl) (Nat.le_of_ble_eq_true rfl) ⟨rfl, Nat.le_refl _, b_p, b_w, b_e, b_H, b_L, fr⟩)
def F_L_restoreSnapshot (oB : ob) (op : ob) (ow : ob) (oe : ob) (onp : ob) (onw : ob) (one : ob) (oH : hst) (oL : (Nat → Int64)) : Option (Int32 × ob × ob × ob × hst × (Nat → Int64)) := (F_X8_restoreSnapshot oB op ow oe onp onw one oH).bind fun y1 => if y1.1 = (0 : Int32) then (rx_le (vp_updL oL 0 y1.2.1.toInt64) fun o_L_2 => some ((0 : Int32), y1.2.2.1, y1.2.2.2.1, y1.2.2.2.2.1, y1.2.2.2.2.2, o_L_2)) else (if y1.1 = (1 : Int32) then (none) else (if y1.1 = (2 : Int32) then (none) else (some ((1 : Int32), op, ow, oe, oH, oL))))
set_option maxRecDepth 100000 in
set_option maxHeartbeats 4000000 in
theorem w_L_restoreSnapshot {b lo : Nat} {oB : ob} {op : ob} {ow : ob} {oe : ob} {onp : ob} {onw : ob} {one : ob} {oH : hst} {oL : (Nat → Int64)} {y : Int32 × ob × ob × ob × hst × (Nat → Int64)} (hst : l.stackTraces = false) (hF : F_L_restoreSnapshot oB op ow oe onp onw one oH oL = some y) (b_B : bB k b oB h) (b_p : bP k (b + 21) (b + 12) op h) (b_w : bQ k (b + 21 + 10) ow h) (b_e : bQ k (b + 21 + 13) oe h) (b_np : bP k (b + 53) (b + 12) onp h) (b_nw : bQ k (b + 53 + 10) onw h) (b_ne : bQ k (b + 53 + 13) one h) (b_H : bHH k (b + 69) (b + 12) oH h) (b_L : bL k lo oL h) (hd0 : b + 204 ≤ lo ∨ lo + 1 ≤ b) : vx_Met l yL_restoreSnapshot (rx_wsH yL_restoreSnapshot cL_restoreSnapshot 3 (some .int) [(0, 8, 11, 94)]) (rx_rmX 7 123 1 6) (va_Pc [.ref b, .ref lo] (rx_GN G k h n)) (va_Qi (fun r u => y.1 = r ∧ n ≤ u.2 ∧ bP k (b + 21) (b + 12) y.2.1 u.1 ∧ bQ k (b + 21 + 10) y.2.2.1 u.1 ∧ bQ k (b + 21 + 13) y.2.2.2.1 u.1 ∧ bHH k (b + 69) (b + 12) y.2.2.2.2.1 u.1 ∧ bL k lo y.2.2.2.2.2 u.1 ∧ rx_fr [(b + 21, 10), (b + 21 + 10, 3), (b + 21 + 13, 3), (b + 69, 130), (lo, 1)] h u.1) (rx_B G k) (rx_A k)) (rx_XC G k (fun _ _ => False)) 1 6 (rx_A k) := by
  have s_B_p : b + 1 ≤ b + 21 ∨ b + 21 + 10 ≤ b := by omega
  have s_B_w : b + 1 ≤ b + 21 + 10 ∨ b + 21 + 10 + 3 ≤ b := by omega
  have s_B_e : b + 1 ≤ b + 21 + 13 ∨ b + 21 + 13 + 3 ≤ b := by omega
  have s_B_H : b + 1 ≤ b + 69 ∨ b + 69 + 130 ≤ b := by omega
  have s_np_p : b + 53 + 10 ≤ b + 21 ∨ b + 21 + 10 ≤ b + 53 := by omega
  have s_np_w : b + 53 + 10 ≤ b + 21 + 10 ∨ b + 21 + 10 + 3 ≤ b + 53 := by omega
  have s_np_e : b + 53 + 10 ≤ b + 21 + 13 ∨ b + 21 + 13 + 3 ≤ b + 53 := by omega
  have s_np_H : b + 53 + 10 ≤ b + 69 ∨ b + 69 + 130 ≤ b + 53 := by omega
  have s_nw_p : b + 53 + 10 + 3 ≤ b + 21 ∨ b + 21 + 10 ≤ b + 53 + 10 := by omega
  have s_nw_w : b + 53 + 10 + 3 ≤ b + 21 + 10 ∨ b + 21 + 10 + 3 ≤ b + 53 + 10 := by omega
  have s_nw_e : b + 53 + 10 + 3 ≤ b + 21 + 13 ∨ b + 21 + 13 + 3 ≤ b + 53 + 10 := by omega
  have s_nw_H : b + 53 + 10 + 3 ≤ b + 69 ∨ b + 69 + 130 ≤ b + 53 + 10 := by omega
  have s_ne_p : b + 53 + 13 + 3 ≤ b + 21 ∨ b + 21 + 10 ≤ b + 53 + 13 := by omega
  have s_ne_w : b + 53 + 13 + 3 ≤ b + 21 + 10 ∨ b + 21 + 10 + 3 ≤ b + 53 + 13 := by omega
  have s_ne_e : b + 53 + 13 + 3 ≤ b + 21 + 13 ∨ b + 21 + 13 + 3 ≤ b + 53 + 13 := by omega
  have s_ne_H : b + 53 + 13 + 3 ≤ b + 69 ∨ b + 69 + 130 ≤ b + 53 + 13 := by omega
  have s_L_p : lo + 1 ≤ b + 21 ∨ b + 21 + 10 ≤ lo := by omega
  have s_L_w : lo + 1 ≤ b + 21 + 10 ∨ b + 21 + 10 + 3 ≤ lo := by omega
  have s_L_e : lo + 1 ≤ b + 21 + 13 ∨ b + 21 + 13 + 3 ≤ lo := by omega
  have s_L_H : lo + 1 ≤ b + 69 ∨ b + 69 + 130 ≤ lo := by omega
  have s_B_L : b + 1 ≤ lo ∨ lo + 1 ≤ b := by omega
  have s_p_L : b + 21 + 10 ≤ lo ∨ lo + 1 ≤ b + 21 := by omega
  have s_w_L : b + 21 + 10 + 3 ≤ lo ∨ lo + 1 ≤ b + 21 + 10 := by omega
  have s_e_L : b + 21 + 13 + 3 ≤ lo ∨ lo + 1 ≤ b + 21 + 13 := by omega
  have s_np_L : b + 53 + 10 ≤ lo ∨ lo + 1 ≤ b + 53 := by omega
  have s_nw_L : b + 53 + 10 + 3 ≤ lo ∨ lo + 1 ≤ b + 53 + 10 := by omega
  have s_ne_L : b + 53 + 13 + 3 ≤ lo ∨ lo + 1 ≤ b + 53 + 13 := by omega
  have s_H_L : b + 69 + 130 ≤ lo ∨ lo + 1 ≤ b + 69 := by omega
  refine rx_startH [(0, .ref b), (1, .ref lo)] rfl (Nat.le_of_ble_eq_true rfl) (by decide) (fun P9 E9 S9 M9 A9 B9 me9 c9 C htab hN => ?_)
  unfold F_L_restoreSnapshot at hF
  have fr : rx_fr [(b + 21, 10), (b + 21 + 10, 3), (b + 21 + 13, 3), (b + 69, 130), (lo, 1)] h h := rx_fr0
  refine rx_aload_n C dL_restoreSnapshot_0 1 rfl ?_
  refine rx_iconst C dL_restoreSnapshot_1 (0 : Int32) (by decide) ?_
  refine rx_aload_n C dL_restoreSnapshot_2 0 rfl ?_
  replace hF := rx_biE hF; obtain ⟨y1, e_y1, hF⟩ := hF
  refine rx_xci (rx_rVX C (w_X8_restoreSnapshot hst e_y1 b_B b_p b_w b_e b_np b_nw b_ne b_H) Y_X8_restoreSnapshot V_X8_restoreSnapshot m_L_130 (Or.inl ⟨_, _, _, _, b_B, rfl⟩) ⟨⟨rfl, rfl⟩, ⟨(Nat.le_of_ble_eq_true rfl), (Nat.le_of_ble_eq_true rfl)⟩, ⟨(Nat.le_of_ble_eq_true rfl), (Nat.le_of_ble_eq_true rfl)⟩⟩ rfl rfl (Nat.le_of_ble_eq_true rfl) dL_restoreSnapshot_3) (fun E hh n1 hx => ?_) (fun r hh n1 hpp => ?_)
  · obtain ⟨hx0, hx1, hx2, hx3⟩ := hx
    rw [if_neg hx0] at hF
    subst hx1
    replace hx2 : hh = h := hx2
    subst hx2
    by_cases d1 : y1.1 = (1 : Int32)
    · rw [if_pos d1] at hF
      cases hF
    · rw [if_neg d1] at hF
      by_cases d2 : y1.1 = (2 : Int32)
      · rw [if_pos d2] at hF
        cases hF
      · rw [if_neg d2] at hF
        rw [show rx_ex y1.1 = rx_E3 by unfold rx_ex; rw [if_neg d1, if_neg d2]]
        refine rx_catch C htab [] 0 8 11 94 [] rfl (fun z hz => absurd hz List.not_mem_nil) (by decide) (by decide) xl_94 xc_3 (fun q9 => ?_)
        refine rx_astore_n C dL_restoreSnapshot_11 (by decide) [(2, .ref q9), (0, .ref b), (1, .ref lo)] rfl ?_
        refine rx_iconst C dL_restoreSnapshot_12 (1 : Int32) (by decide) ?_
        obtain rfl := Option.some.inj hF
        exact rx_xret (rx_iret C dL_restoreSnapshot_13 (Nat.le_of_ble_eq_true rfl) (Nat.le_of_ble_eq_true rfl) ⟨rfl, hx3, b_p, b_w, b_e, b_H, b_L, fr⟩)
  obtain ⟨hz0_y1, rfl, hn, c_p, c_w, c_e, c_H, ff⟩ := hpp
  replace hn : n = n1 := Eq.symm hn
  subst hn
  replace b_p : bP k (b + 21) (b + 12) y1.2.2.1 hh := c_p
  clear c_p
  replace b_w : bQ k (b + 21 + 10) y1.2.2.2.1 hh := c_w
  clear c_w
  replace b_e : bQ k (b + 21 + 13) y1.2.2.2.2.1 hh := c_e
  clear c_e
  replace b_H : bHH k (b + 69) (b + 12) y1.2.2.2.2.2 hh := c_H
  clear c_H
  replace ff : rx_fr [(b + 21, 10), (b + 21 + 10, 3), (b + 21 + 13, 3), (b + 69, 130)] _ hh := ff
  replace b_B := b_B.keep ff ⟨s_B_p, s_B_w, s_B_e, s_B_H, trivial⟩
  replace b_np := b_np.keep ff ⟨s_np_p, s_np_w, s_np_e, s_np_H, trivial⟩
  replace b_nw := b_nw.keep ff ⟨s_nw_p, s_nw_w, s_nw_e, s_nw_H, trivial⟩
  replace b_ne := b_ne.keep ff ⟨s_ne_p, s_ne_w, s_ne_e, s_ne_H, trivial⟩
  replace b_L := b_L.keep ff ⟨s_L_p, s_L_w, s_L_e, s_L_H, trivial⟩
  replace fr := rx_frt fr ff (fun a ha => ⟨ha.1, ha.2.1, ha.2.2.1, ha.2.2.2.1, trivial⟩)
  rw [if_pos hz0_y1] at hF
  refine rx_i2l C dL_restoreSnapshot_6 ?_
  replace hF := rx_leE hF; obtain ⟨o_L_2, e_o_L_2, hF⟩ := hF
  refine rx_aL C dL_restoreSnapshot_7 b_L e_o_L_2 (fun hh c_L ff => ?_)
  replace b_L := c_L
  replace b_B := b_B.keep ff ⟨s_B_L, trivial⟩
  replace b_p := b_p.keep ff ⟨s_p_L, trivial⟩
  replace b_w := b_w.keep ff ⟨s_w_L, trivial⟩
  replace b_e := b_e.keep ff ⟨s_e_L, trivial⟩
  replace b_np := b_np.keep ff ⟨s_np_L, trivial⟩
  replace b_nw := b_nw.keep ff ⟨s_nw_L, trivial⟩
  replace b_ne := b_ne.keep ff ⟨s_ne_L, trivial⟩
  replace b_H := b_H.keep ff ⟨s_H_L, trivial⟩
  replace fr := rx_frt fr ff (fun a ha => ⟨ha.2.2.2.2.1, trivial⟩)
  refine rx_goto C dL_restoreSnapshot_8 14 (by decide) ?_
  refine rx_iconst C dL_restoreSnapshot_14 (0 : Int32) (by decide) ?_
  obtain rfl := Option.some.inj hF
  exact rx_xret (rx_iret C dL_restoreSnapshot_15 (Nat.le_of_ble_eq_true rfl) (Nat.le_of_ble_eq_true rfl) ⟨rfl, Nat.le_refl _, b_p, b_w, b_e, b_H, b_L, fr⟩)
end LAWH
