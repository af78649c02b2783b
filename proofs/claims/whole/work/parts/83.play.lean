/-! An order is carried out, or the script stops. -/
def PL (P B J : Nat) (os op ow oe om : ob) (z : Nat) (a b : Int32) : Prop :=
  (∃ c : Int32, c ≠ 0 ∧ F_X2_faultOf op ow oe os z a b = some c ∧ ((F_X9_areThere om (nI z) a b).bind fun y4 => if y4 = (0 : Int32) then (some ((0 : Int32), om)) else ((F_X9_can om (nI z) a b).bind fun y6 => if y6 = (0 : Int32) then (some ((0 : Int32), om)) else ((F_X9_does om (nI z) a b).bind fun y8 => some ((1 : Int32), y8.2)))) = some (0, om)) ∨
  (F_X2_faultOf op ow oe os z a b = some 0 ∧ ∃ (op2 ow2 oe2 : ob) (g2 : Nat → Int32) (qw2 qe2 : List Nat), F_X2_carryOut op ow oe os z a b = some (op2, ow2, oe2) ∧ ((F_X9_areThere om (nI z) a b).bind fun y4 => if y4 = (0 : Int32) then (some ((0 : Int32), om)) else ((F_X9_can om (nI z) a b).bind fun y6 => if y6 = (0 : Int32) then (some ((0 : Int32), om)) else ((F_X9_does om (nI z) a b).bind fun y8 => some ((1 : Int32), y8.2)))) = some (1, (om.1, va_up om.2 1 g2)) ∧ RPos P B (J + 2000) os op2 ow2 oe2 g2 qw2 qe2)
section PLAY
variable {P B J : Nat} {os op ow oe om : ob} {qw qe : List Nat} {a b : Int32}
theorem PL_no {z : Nat} {c : Int32} (hc : c ≠ 0) (h1 : F_X2_faultOf op ow oe os z a b = some c) (h2 : F_X9_areThere om (nI z) a b = some 0) : PL P B J os op ow oe om z a b := by
  refine Or.inl ⟨c, hc, h1, ?_⟩
  rw [h2, z_bsN, if_pos rfl]
theorem PL_gen {z : Nat} {ps : Prop} [Decidable ps] (h1 : F_X2_faultOf op ow oe os z a b = some (if ps then 0 else 3)) (h2 : F_X9_areThere om (nI z) a b = some 1) (h3 : F_X9_can om (nI z) a b = some (if ps then 1 else 0)) (h4 : ps → ∃ (v : Int32) (op2 ow2 oe2 : ob) (g2 : Nat → Int32) (qw2 qe2 : List Nat), F_X2_carryOut op ow oe os z a b = some (op2, ow2, oe2) ∧ F_X9_does om (nI z) a b = some (v, (om.1, va_up om.2 1 g2)) ∧ RPos P B (J + 2000) os op2 ow2 oe2 g2 qw2 qe2) : PL P B J os op ow oe om z a b := by
  by_cases q : ps
  · rw [if_pos q] at h1 h3
    obtain ⟨v, op2, ow2, oe2, g2, qw2, qe2, d1, d2, d3⟩ := h4 q
    refine Or.inr ⟨h1, op2, ow2, oe2, g2, qw2, qe2, d1, ?_, d3⟩
    rw [h2, z_bsN, if_neg (by decide), h3, z_bsN, if_neg (by decide), d2, z_bsN]
  · rw [if_neg q] at h1 h3
    refine Or.inl ⟨3, by decide, h1, ?_⟩
    rw [h2, z_bsN, if_neg (by decide), h3, z_bsN, if_pos rfl]
theorem M_thX {z : Nat} (hz : z < 8) (h8 : om.2 1 8 = nI P) (hx : ¬ a < nI P) : F_X9_areThere om (nI z) a b = some 0 := by
  simp only [F_X9_areThere, z_al8, z_bsN, h8]
  rw [if_neg (show ¬ nI z = (8 : Int32) from fun e => by have := (nI_eq (a := z) (b := 8) (by omega) (by omega)).mp e; omega), if_neg hx]
theorem PL_0 (h : RPos P B J os op ow oe (om.2 1) qw qe) (hJ : J + 2000 < 2 ^ 31) (ha : 0 ≤ a) (hb : 1 ≤ b ∧ b ≤ 999) : PL P B J os op ow oe om 0 a b := by
  have hP := h.hP
  rcases z_dec a P with hx | ⟨p, hp, -, rfl⟩
  · exact PL_no (c := 1) (by decide) (C_fx (Or.inl (by decide)) (C_hp0 h hx)) (M_thX (by omega) h.h8 (Int32.not_lt.mpr (hx.resolve_left (Int32.not_lt.mpr ha))))
  · refine PL_gen (ps := ¬ om.2 1 (12 + 8 * p + 2) < b) (by rw [FT_0 h hp, if_pos hb, ite_not]) (by
      have hlt : nI p < nI P := nI_lt hp (by omega)
      simp (decide := true) only [F_X9_areThere, if_false, if_true, z_al8, z_bsN, h.h8, hlt]) (by rw [show F_X9_can om (nI 0) (nI p) b = _ from M_can0 (show p < 10 by omega) b, ite_not]) (fun hps => ?_)
    obtain ⟨v, op2, g2, d1, d2, d3⟩ := DO_0 h hp b
    exact ⟨v, op2, ow, oe, g2, qw, qe, by simp (decide := true) only [F_X2_carryOut, z_sw, if_true, if_false, d1, z_bsN], d2, d3.mono (by omega)⟩
theorem PL_1 (h : RPos P B J os op ow oe (om.2 1) qw qe) (hJ : J + 2000 < 2 ^ 31) (ha : 0 ≤ a) (hb : 1 ≤ b ∧ b ≤ 999) : PL P B J os op ow oe om 1 a b := by
  have hP := h.hP
  rcases z_dec a P with hx | ⟨p, hp, -, rfl⟩
  · exact PL_no (c := 1) (by decide) (C_fx (Or.inl (by decide)) (C_hp0 h hx)) (M_thX (by omega) h.h8 (Int32.not_lt.mpr (hx.resolve_left (Int32.not_lt.mpr ha))))
  · refine PL_gen (ps := ¬ z_gr (om.2 1) p < b) (by rw [FT_1 h hp, if_pos hb, ite_not]) (by
      have hlt : nI p < nI P := nI_lt hp (by omega)
      simp (decide := true) only [F_X9_areThere, if_false, if_true, z_al8, z_bsN, h.h8, hlt]) (by rw [show F_X9_can om (nI 1) (nI p) b = _ from M_can1 (show p < 10 by omega) (h.b01 hp) b, ite_not]) (fun hps => ?_)
    obtain ⟨v, op2, g2, d1, d2, d3⟩ := DO_1 h hp b
    exact ⟨v, op2, ow, oe, g2, qw, qe, by simp (decide := true) only [F_X2_carryOut, z_sw, if_true, if_false, d1, z_bsN], d2, d3.mono (by omega)⟩
theorem PL_7 (h : RPos P B J os op ow oe (om.2 1) qw qe) (hJ : J + 2000 < 2 ^ 31) (ha : 0 ≤ a) (hb : 0 ≤ b ∧ b ≤ 40) : PL P B J os op ow oe om 7 a b := by
  have hP := h.hP
  rcases z_dec a P with hx | ⟨p, hp, -, rfl⟩
  · exact PL_no (c := 1) (by decide) (C_fx (Or.inl (by decide)) (C_hp0 h hx)) (M_thX (by omega) h.h8 (Int32.not_lt.mpr (hx.resolve_left (Int32.not_lt.mpr ha))))
  · refine PL_gen (ps := True) (by rw [FT_7 h hp, if_pos hb, if_pos trivial]) (by
      have hlt : nI p < nI P := nI_lt hp (by omega)
      simp (decide := true) only [F_X9_areThere, if_false, if_true, z_al8, z_bsN, h.h8, hlt]) (by rw [show F_X9_can om (nI 7) (nI p) b = _ from M_can7 _ _, if_pos trivial]) (fun hps => ?_)
    obtain ⟨v, op2, g2, d1, d2, d3⟩ := DO_7 h hp b
    exact ⟨v, op2, ow, oe, g2, qw, qe, by simp (decide := true) only [F_X2_carryOut, z_sw, if_true, if_false, d1, z_bsN], d2, d3.mono (by omega)⟩
theorem PL_5 (h : RPos P B J os op ow oe (om.2 1) qw qe) (hJ : J + 2000 < 2 ^ 31) (ha : 0 ≤ a) (hb : 0 ≤ b ∧ b ≤ 99) : PL P B J os op ow oe om 5 a b := by
  have hP := h.hP
  rcases z_dec a P with hx | ⟨p, hp, -, rfl⟩
  · exact PL_no (c := 1) (by decide) (C_fx (Or.inl (by decide)) (C_hp0 h hx)) (M_thX (by omega) h.h8 (Int32.not_lt.mpr (hx.resolve_left (Int32.not_lt.mpr ha))))
  · refine PL_gen (ps := ¬ 0 < om.2 1 (12 + 8 * p + 6)) (by rw [FT_5 h hp, if_pos hb, ite_not]) (by
      have hlt : nI p < nI P := nI_lt hp (by omega)
      simp (decide := true) only [F_X9_areThere, if_false, if_true, z_al8, z_bsN, h.h8, hlt]) (by rw [show F_X9_can om (nI 5) (nI p) b = _ from M_can5 (show p < 10 by omega) b, ite_not]) (fun hps => ?_)
    obtain ⟨v, ow2, oe2, g2, qw2, qe2, d1, d2, d3⟩ := DO_5 h (by omega) hp hps hb
    exact ⟨v, op, ow2, oe2, g2, qw2, qe2, by simp (decide := true) only [F_X2_carryOut, z_sw, if_true, if_false, d1, z_bsN], d2, d3.mono (by omega)⟩
theorem PL_6 (h : RPos P B J os op ow oe (om.2 1) qw qe) (hJ : J + 2000 < 2 ^ 31) (ha : 0 ≤ a) : PL P B J os op ow oe om 6 a b := by
  have hP := h.hP
  rcases z_dec a P with hx | ⟨p, hp, -, rfl⟩
  · exact PL_no (c := 1) (by decide) (C_fx (Or.inl (by decide)) (C_hp0 h hx)) (M_thX (by omega) h.h8 (Int32.not_lt.mpr (hx.resolve_left (Int32.not_lt.mpr ha))))
  · refine PL_gen (ps := 0 < om.2 1 (12 + 8 * p + 6)) (by rw [FT_6 h hp]) (by
      have hlt : nI p < nI P := nI_lt hp (by omega)
      simp (decide := true) only [F_X9_areThere, if_false, if_true, z_al8, z_bsN, h.h8, hlt]) (by rw [show F_X9_can om (nI 6) (nI p) b = _ from M_can6 (show p < 10 by omega) b]) (fun hps => ?_)
    obtain ⟨v, ow2, oe2, g2, qw2, qe2, d1, d2, d3⟩ := DO_6 h hp hps b
    exact ⟨v, op, ow2, oe2, g2, qw2, qe2, by simp (decide := true) only [F_X2_carryOut, z_sw, if_true, if_false, d1, z_bsN], d2, d3.mono (by omega)⟩
theorem PL_2 (h : RPos P B J os op ow oe (om.2 1) qw qe) (hJ : J + 2000 < 2 ^ 31) (ha : 0 ≤ a) (hb : 0 ≤ b) : PL P B J os op ow oe om 2 a b := by
  have hP := h.hP
  rcases z_dec a P with hx | ⟨p, hp, -, rfl⟩
  · exact PL_no (c := 1) (by decide) (C_fx (Or.inr (by decide)) (C_hp0 h hx)) (M_thX (by omega) h.h8 (Int32.not_lt.mpr (hx.resolve_left (Int32.not_lt.mpr ha))))
  · have hlt : nI p < nI P := nI_lt hp (by omega)
    rcases z_dec b P with hy | ⟨q, hq, -, rfl⟩
    · have hy2 := hy.resolve_left (Int32.not_lt.mpr hb)
      exact PL_no (c := 1) (by decide) (C_fy (by decide) (C_hp h hp) (C_hp0 h hy)) (by simp (decide := true) only [F_X9_areThere, if_false, if_true, z_al8, z_bsN, h.h8, hlt, hy2])
    · have hge : ¬ nI P ≤ nI q := nI_ge hq (by omega)
      by_cases hk : om.2 1 (12 + 8 * q) = 1
      · refine PL_gen (ps := om.2 1 (102 + 3 * q) = nI p) (by rw [FT_2 h hp hq, if_pos hk]) (by simp (decide := true) only [F_X9_areThere, if_false, if_true, z_al8, z_bsN, h.h8, hlt, hge, M_king (show q < 10 by omega), hk]) (by rw [show F_X9_can om (nI 2) (nI p) (nI q) = _ from M_can2 (show q < 10 by omega) (nI p)]) (fun hps => ?_)
        obtain ⟨v, op2, g2, d1, d2, d3⟩ := DO_2 h hp hq hk
        exact ⟨v, op2, ow, oe, g2, qw, qe, by simp (decide := true) only [F_X2_carryOut, z_sw, if_true, if_false, d1, z_bsN], d2, d3.mono (by omega)⟩
      · exact PL_no (c := 2) (by decide) (by rw [FT_2 h hp hq, if_neg hk]) (by simp (decide := true) only [F_X9_areThere, if_false, if_true, z_al8, z_bsN, h.h8, hlt, hge, M_king (show q < 10 by omega), hk])
theorem PL_3 (h : RPos P B J os op ow oe (om.2 1) qw qe) (hJ : J + 2000 < 2 ^ 31) (ha : 0 ≤ a) (hb : 0 ≤ b) : PL P B J os op ow oe om 3 a b := by
  have hP := h.hP
  rcases z_dec a P with hx | ⟨p, hp, -, rfl⟩
  · exact PL_no (c := 1) (by decide) (C_fx (Or.inr (by decide)) (C_hp0 h hx)) (M_thX (by omega) h.h8 (Int32.not_lt.mpr (hx.resolve_left (Int32.not_lt.mpr ha))))
  · have hlt : nI p < nI P := nI_lt hp (by omega)
    rcases z_dec b P with hy | ⟨q, hq, -, rfl⟩
    · have hy2 := hy.resolve_left (Int32.not_lt.mpr hb)
      exact PL_no (c := 1) (by decide) (C_fy (by decide) (C_hp h hp) (C_hp0 h hy)) (by simp (decide := true) only [F_X9_areThere, if_false, if_true, z_al8, z_bsN, h.h8, hlt, hy2])
    · have hge : ¬ nI P ≤ nI q := nI_ge hq (by omega)
      by_cases hk : om.2 1 (12 + 8 * q) = 1
      · refine PL_gen (ps := om.2 1 (102 + 3 * q) = -1 ∧ om.2 1 (102 + 3 * q + 1) = om.2 1 (12 + 8 * p + 1)) (by rw [FT_3 h hp hq, if_pos hk]) (by simp (decide := true) only [F_X9_areThere, if_false, if_true, z_al8, z_bsN, h.h8, hlt, hge, M_king (show q < 10 by omega), hk]) (by rw [show F_X9_can om (nI 3) (nI p) (nI q) = _ from M_can3 (show p < 10 by omega) (show q < 10 by omega)]) (fun hps => ?_)
        obtain ⟨v, op2, g2, d1, d2, d3⟩ := DO_3 h hp hq hk
        exact ⟨v, op2, ow, oe, g2, qw, qe, by simp (decide := true) only [F_X2_carryOut, z_sw, if_true, if_false, d1, z_bsN], d2, d3.mono (by omega)⟩
      · exact PL_no (c := 2) (by decide) (by rw [FT_3 h hp hq, if_neg hk]) (by simp (decide := true) only [F_X9_areThere, if_false, if_true, z_al8, z_bsN, h.h8, hlt, hge, M_king (show q < 10 by omega), hk])
theorem PL_4 (h : RPos P B J os op ow oe (om.2 1) qw qe) (hJ : J + 2000 < 2 ^ 31) (ha : 0 ≤ a) (hb : 0 ≤ b) : PL P B J os op ow oe om 4 a b := by
  have hP := h.hP
  rcases z_dec a P with hx | ⟨p, hp, -, rfl⟩
  · exact PL_no (c := 1) (by decide) (C_fx (Or.inr (by decide)) (C_hp0 h hx)) (M_thX (by omega) h.h8 (Int32.not_lt.mpr (hx.resolve_left (Int32.not_lt.mpr ha))))
  · have hlt : nI p < nI P := nI_lt hp (by omega)
    rcases z_dec b P with hy | ⟨q, hq, -, rfl⟩
    · have hy2 := hy.resolve_left (Int32.not_lt.mpr hb)
      exact PL_no (c := 1) (by decide) (C_fy (by decide) (C_hp h hp) (C_hp0 h hy)) (by simp (decide := true) only [F_X9_areThere, if_false, if_true, z_al8, z_bsN, h.h8, hlt, hy2])
    · have hge : ¬ nI P ≤ nI q := nI_ge hq (by omega)
      by_cases hk : p ≠ q
      · have hne : ¬ nI p = nI q := fun e => hk ((nI_eq (by omega) (by omega)).mp e)
        refine PL_gen (ps := om.2 1 (12 + 8 * p + 1) = om.2 1 (12 + 8 * q + 1)) (by rw [FT_4 h hp hq, if_pos hk]) (by simp (decide := true) only [F_X9_areThere, if_false, if_true, z_al8, z_bsN, h.h8, hlt, hge, hne]) (by rw [show F_X9_can om (nI 4) (nI p) (nI q) = _ from M_can4 (show p < 10 by omega) (show q < 10 by omega)]) (fun hps => ?_)
        obtain ⟨v, op2, g2, d1, d2, d3⟩ := DO_4 h hp hq hk
        exact ⟨v, op2, ow, oe, g2, qw, qe, by simp (decide := true) only [F_X2_carryOut, z_sw, if_true, if_false, d1, z_bsN], d2, d3.mono (by omega)⟩
      · have e : p = q := Decidable.not_not.mp hk
        subst e
        exact PL_no (c := 2) (by decide) (by rw [FT_4 h hp hq, if_neg hk]) (by simp (decide := true) only [F_X9_areThere, if_false, if_true, z_al8, z_bsN, h.h8, hlt, hge])
theorem PL_8 (h : RPos P B J os op ow oe (om.2 1) qw qe) (hJ : J + 2000 < 2 ^ 31) (ha : 1 ≤ a ∧ a ≤ 50) : PL P B J os op ow oe om 8 a b := by
  refine PL_gen (ps := ¬ 10000 < om.2 1 0 + a) (by rw [FT_8 h, if_pos ha, ite_not]) (by unfold F_X9_areThere; rw [if_pos (by decide)]) (by rw [show F_X9_can om (nI 8) a b = _ from M_can8 a b, ite_not]) (fun hps => ?_)
  obtain ⟨v, op3, ow3, oe3, g3, qw3, qe3, d1, d2, d3⟩ := DO_8 h hJ ha hps b
  exact ⟨v, op3, ow3, oe3, g3, qw3, qe3, by simp (decide := true) only [F_X2_carryOut, z_sw, if_true, if_false, d1, z_bsN], d2, d3⟩
theorem PL_all (h : RPos P B J os op ow oe (om.2 1) qw qe) (hJ : J + 2000 < 2 ^ 31) {z : Nat} (hz : z < 9) (hok : z_ok2 z a b) : PL P B J os op ow oe om z a b := by
  obtain ⟨h1, h2⟩ := hok
  have : z = 0 ∨ z = 1 ∨ z = 2 ∨ z = 3 ∨ z = 4 ∨ z = 5 ∨ z = 6 ∨ z = 7 ∨ z = 8 := by omega
  rcases this with rfl | rfl | rfl | rfl | rfl | rfl | rfl | rfl | rfl
  · exact PL_0 h hJ h1.1 h2
  · exact PL_1 h hJ h1.1 h2
  · exact PL_2 h hJ h1.1 h2.1
  · exact PL_3 h hJ h1.1 h2.1
  · exact PL_4 h hJ h1.1 h2.1
  · exact PL_5 h hJ h1.1 h2
  · exact PL_6 h hJ h1.1
  · exact PL_7 h hJ h1.1 h2
  · exact PL_8 h hJ h1
end PLAY
