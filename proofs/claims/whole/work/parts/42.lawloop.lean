theorem ll_out {j len : Nat} (hl : len ≤ 3072) (h : len < 6 * j + 6) (hj : j ≤ 513 := by omega) : (Int32.ofNat len - 6 : Int32) < nI (6 * j) := by
  have e1 : (Int32.ofNat len).toInt = len := nI_toInt (by omega)
  have e2 : (nI (6 * j)).toInt = (6 * j : Nat) := nI_toInt (by omega)
  rw [Int32.lt_iff_toInt_lt, Int32.toInt_sub, e1, e2, show (6 : Int32).toInt = 6 from rfl, Int.bmod_def]
  split <;> omega
def F_step (st : lst) (a0 a1 a2 a3 a4 a5 : Int32) : Option lst :=
  if a0 &&& 63 = (0 : Int32) then F_step_0 st a1 a2 a3 a4 a5 else
  if a0 &&& 63 = (1 : Int32) then F_step_1 st a1 else
  if a0 &&& 63 = (2 : Int32) then F_step_2 st else
  if a0 &&& 63 = (3 : Int32) then F_step_3 st else
  if a0 &&& 63 = (4 : Int32) then F_step_4 st else
  if a0 &&& 63 = (5 : Int32) then F_step_5 st else
  if a0 &&& 63 = (6 : Int32) then F_step_6 st else
  if a0 &&& 63 = (7 : Int32) then F_step_7 st a1 else
  if a0 &&& 63 = (8 : Int32) then F_step_8 st else
  if a0 &&& 63 = (9 : Int32) then F_step_9 st else
  if a0 &&& 63 = (10 : Int32) then F_step_10 st a1 else
  if a0 &&& 63 = (11 : Int32) then F_step_11 st a1 else
  if a0 &&& 63 = (12 : Int32) then F_step_12 st a1 else
  if a0 &&& 63 = (13 : Int32) then F_step_13 st a1 else
  if a0 &&& 63 = (14 : Int32) then F_step_14 st a1 else
  if a0 &&& 63 = (15 : Int32) then F_step_15 st a1 else
  if a0 &&& 63 = (16 : Int32) then F_step_16 st a1 else
  if a0 &&& 63 = (17 : Int32) then F_step_17 st a1 else
  if a0 &&& 63 = (18 : Int32) then F_step_18 st a1 else
  if a0 &&& 63 = (19 : Int32) then F_step_19 st else
  if a0 &&& 63 = (20 : Int32) then F_step_20 st a1 a2 else
  if a0 &&& 63 = (21 : Int32) then F_step_21 st a1 else
  if a0 &&& 63 = (22 : Int32) then F_step_22 st a1 else
  if a0 &&& 63 = (23 : Int32) then F_step_23 st a1 else
  if a0 &&& 63 = (24 : Int32) then F_step_24 st else
  if a0 &&& 63 = (25 : Int32) then F_step_25 st else
  if a0 &&& 63 = (26 : Int32) then F_step_26 st a1 else
  if a0 &&& 63 = (27 : Int32) then F_step_27 st else
  if a0 &&& 63 = (28 : Int32) then F_step_28 st a1 else
  if a0 &&& 63 = (29 : Int32) then F_step_29 st a1 else
  if a0 &&& 63 = (30 : Int32) then F_step_30 st a1 else
  if a0 &&& 63 = (31 : Int32) then F_step_31 st a1 else
  if a0 &&& 63 = (32 : Int32) then F_step_32 st else
  if a0 &&& 63 = (33 : Int32) then F_step_33 st else
  if a0 &&& 63 = (34 : Int32) then F_step_34 st a1 else
  if a0 &&& 63 = (35 : Int32) then F_step_35 st a1 a2 else
  if a0 &&& 63 = (36 : Int32) then F_step_36 st a1 else
  if a0 &&& 63 = (37 : Int32) then F_step_37 st else
  if a0 &&& 63 = (38 : Int32) then F_step_38 st a1 else
  if a0 &&& 63 = (39 : Int32) then F_step_39 st else
  if a0 &&& 63 = (40 : Int32) then F_step_40 st a1 else
  if a0 &&& 63 = (41 : Int32) then F_step_41 st a1 else
  if a0 &&& 63 = (42 : Int32) then F_step_42 st a1 else
  if a0 &&& 63 = (43 : Int32) then F_step_43 st a1 else
  if a0 &&& 63 = (44 : Int32) then F_step_44 st a1 else
  if a0 &&& 63 = (45 : Int32) then F_step_45 st else
  if a0 &&& 63 = (46 : Int32) then F_step_46 st a1 a2 else
  if a0 &&& 63 = (47 : Int32) then F_step_47 st a1 a2 else
  if a0 &&& 63 = (48 : Int32) then F_step_48 st a1 a2 else
  if a0 &&& 63 = (49 : Int32) then F_step_49 st a1 a2 else
  if a0 &&& 63 = (50 : Int32) then F_step_50 st a1 a2 else
  if a0 &&& 63 = (51 : Int32) then F_step_51 st a1 a2 else
  if a0 &&& 63 = (52 : Int32) then F_step_52 st a1 else
  if a0 &&& 63 = (53 : Int32) then F_step_53 st a1 a2 else
  if a0 &&& 63 = (54 : Int32) then F_step_54 st a1 else
  if a0 &&& 63 = (55 : Int32) then F_step_55 st a1 else
  if a0 &&& 63 = (56 : Int32) then F_step_56 st a1 else
  if a0 &&& 63 = (57 : Int32) then F_step_57 st a1 else
  if a0 &&& 63 = (58 : Int32) then F_step_58 st else
  if a0 &&& 63 = (59 : Int32) then F_step_59 st else
  if a0 &&& 63 = (60 : Int32) then F_step_60 st else
  if a0 &&& 63 = (61 : Int32) then F_step_61 st else
  some st
section LAWC
variable {l : Launch} {G : va_G} {k : Nat → Nat} {h : hp} {n : Nat} {P9 : Program} {E9 : Env} {S9 : State} {M9 : MethodId} {A9 : Array Value} {B9 : List Frame} {me9 : Method} {c9 : Code} {Q9 : State → Prop} {ret9 : Option FieldType} {sc len : Nat} {xs : Nat → Int32} {x4 : Int32} {cells slots : Nat}
theorem ll_in {j len d : Nat} {xs : Nat → Int32} (hl : len ≤ 3072) (h : 6 * j + 6 ≤ len) (hd : d < 6) : vp_in (nI (6 * j) + nI d) len ∧ xs (nI (6 * j) + nI d).toNatClampNeg = xs (6 * j + d) := by
  rw [nI_add]
  exact ⟨nI_in (by omega) (by omega), by rw [nI_clamp (by omega)]⟩
set_option maxRecDepth 100000 in
set_option maxHeartbeats 8000000 in
theorem ll_switch {b j : Nat} {st st2 : lst} (hst : l.stackTraces = false) (C : rx_C G k P9 M9 c9 cL_law RL 9 ret9 S9 A9 me9) (hN : rx_NC S9) (hX : va_X sc len xs S9 S9.heap) (hbl : sc < S9.heap.size) (hbA : ¬ k 0 ≤ sc) (hl : len ≤ 3072) (hj : 6 * j + 6 ≤ len) (hcl : cells + 3 ≤ 601024) (hsl : slots + 18 ≤ 7293034)
    (hF : F_step st (xs (6 * j)) (xs (6 * j + 1)) (xs (6 * j + 2)) (xs (6 * j + 3)) (xs (6 * j + 4)) (xs (6 * j + 5)) = some st2) (bl : bLaw k b st h)
    (KK : ∀ (hh : hp) (n1 : Nat), n ≤ n1 → bLaw k b st2 hh → rx_W P9 l E9 room_1 S9 M9 A9 B9 me9 c9 Q9 G k 9 (cells + 3) (slots + 18) hh n1 3126 [(0, .ref sc), (1, .ref b), (2, .ref (b + 204)), (3, .ref (b + 213)), (4, .int (nI (6 * j)))] []) : rx_W P9 l E9 room_1 S9 M9 A9 B9 me9 c9 Q9 G k 9 cells slots h n 40 [(0, .ref sc), (1, .ref b), (2, .ref (b + 204)), (3, .ref (b + 213)), (4, .int (nI (6 * j)))] [.int (xs (6 * j) &&& 63)] := by
  have q1 : vp_in (nI (6 * j) + (1 : Int32)) len ∧ xs (nI (6 * j) + (1 : Int32)).toNatClampNeg = xs (6 * j + 1) := ll_in hl hj (d := 1) (by omega)
  have q2 : vp_in (nI (6 * j) + (2 : Int32)) len ∧ xs (nI (6 * j) + (2 : Int32)).toNatClampNeg = xs (6 * j + 2) := ll_in hl hj (d := 2) (by omega)
  have q3 : vp_in (nI (6 * j) + (3 : Int32)) len ∧ xs (nI (6 * j) + (3 : Int32)).toNatClampNeg = xs (6 * j + 3) := ll_in hl hj (d := 3) (by omega)
  have q4 : vp_in (nI (6 * j) + (4 : Int32)) len ∧ xs (nI (6 * j) + (4 : Int32)).toNatClampNeg = xs (6 * j + 4) := ll_in hl hj (d := 4) (by omega)
  have q5 : vp_in (nI (6 * j) + (5 : Int32)) len ∧ xs (nI (6 * j) + (5 : Int32)).toNatClampNeg = xs (6 * j + 5) := ll_in hl hj (d := 5) (by omega)
  unfold F_step at hF
  generalize xs (6 * j) &&& 63 = x at hF ⊢
  by_cases c0 : x = (0 : Int32)
  · rw [if_pos c0] at hF
    refine rx_tableIn C dL_law_40 (by rw [c0]; decide) (by rw [c0]; decide) (by rw [c0]; rfl) 304 (by decide) ?_
    exact ls_0 hst hF C hN hX hbl hbA q1 q2 q3 q4 q5 hcl hsl bl KK
  rw [if_neg c0] at hF
  by_cases c1 : x = (1 : Int32)
  · rw [if_pos c1] at hF
    refine rx_tableIn C dL_law_40 (by rw [c1]; decide) (by rw [c1]; decide) (by rw [c1]; rfl) 377 (by decide) ?_
    exact ls_1 hst hF C hN hX hbl hbA q1 hcl hsl bl KK
  rw [if_neg c1] at hF
  by_cases c2 : x = (2 : Int32)
  · rw [if_pos c2] at hF
    refine rx_tableIn C dL_law_40 (by rw [c2]; decide) (by rw [c2]; decide) (by rw [c2]; rfl) 433 (by decide) ?_
    exact ls_2 hst hF C hN hX hbl hbA hcl hsl bl KK
  rw [if_neg c2] at hF
  by_cases c3 : x = (3 : Int32)
  · rw [if_pos c3] at hF
    refine rx_tableIn C dL_law_40 (by rw [c3]; decide) (by rw [c3]; decide) (by rw [c3]; rfl) 446 (by decide) ?_
    exact ls_3 hst hF C hN hX hbl hbA hcl hsl bl KK
  rw [if_neg c3] at hF
  by_cases c4 : x = (4 : Int32)
  · rw [if_pos c4] at hF
    refine rx_tableIn C dL_law_40 (by rw [c4]; decide) (by rw [c4]; decide) (by rw [c4]; rfl) 459 (by decide) ?_
    exact ls_4 hst hF C hN hX hbl hbA hcl hsl bl KK
  rw [if_neg c4] at hF
  by_cases c5 : x = (5 : Int32)
  · rw [if_pos c5] at hF
    refine rx_tableIn C dL_law_40 (by rw [c5]; decide) (by rw [c5]; decide) (by rw [c5]; rfl) 472 (by decide) ?_
    exact ls_5 hst hF C hN hX hbl hbA hcl hsl bl KK
  rw [if_neg c5] at hF
  by_cases c6 : x = (6 : Int32)
  · rw [if_pos c6] at hF
    refine rx_tableIn C dL_law_40 (by rw [c6]; decide) (by rw [c6]; decide) (by rw [c6]; rfl) 485 (by decide) ?_
    exact ls_6 hst hF C hN hX hbl hbA hcl hsl bl KK
  rw [if_neg c6] at hF
  by_cases c7 : x = (7 : Int32)
  · rw [if_pos c7] at hF
    refine rx_tableIn C dL_law_40 (by rw [c7]; decide) (by rw [c7]; decide) (by rw [c7]; rfl) 498 (by decide) ?_
    exact ls_7 hst hF C hN hX hbl hbA q1 hcl hsl bl KK
  rw [if_neg c7] at hF
  by_cases c8 : x = (8 : Int32)
  · rw [if_pos c8] at hF
    refine rx_tableIn C dL_law_40 (by rw [c8]; decide) (by rw [c8]; decide) (by rw [c8]; rfl) 539 (by decide) ?_
    exact ls_8 hst hF C hN hX hbl hbA hcl hsl bl KK
  rw [if_neg c8] at hF
  by_cases c9 : x = (9 : Int32)
  · rw [if_pos c9] at hF
    refine rx_tableIn C dL_law_40 (by rw [c9]; decide) (by rw [c9]; decide) (by rw [c9]; rfl) 552 (by decide) ?_
    exact ls_9 hst hF C hN hX hbl hbA hcl hsl bl KK
  rw [if_neg c9] at hF
  by_cases c10 : x = (10 : Int32)
  · rw [if_pos c10] at hF
    refine rx_tableIn C dL_law_40 (by rw [c10]; decide) (by rw [c10]; decide) (by rw [c10]; rfl) 565 (by decide) ?_
    exact ls_10 hst hF C hN hX hbl hbA q1 hcl hsl bl KK
  rw [if_neg c10] at hF
  by_cases c11 : x = (11 : Int32)
  · rw [if_pos c11] at hF
    refine rx_tableIn C dL_law_40 (by rw [c11]; decide) (by rw [c11]; decide) (by rw [c11]; rfl) 606 (by decide) ?_
    exact ls_11 hst hF C hN hX hbl hbA q1 hcl hsl bl KK
  rw [if_neg c11] at hF
  by_cases c12 : x = (12 : Int32)
  · rw [if_pos c12] at hF
    refine rx_tableIn C dL_law_40 (by rw [c12]; decide) (by rw [c12]; decide) (by rw [c12]; rfl) 669 (by decide) ?_
    exact ls_12 hst hF C hN hX hbl hbA q1 hcl hsl bl KK
  rw [if_neg c12] at hF
  by_cases c13 : x = (13 : Int32)
  · rw [if_pos c13] at hF
    refine rx_tableIn C dL_law_40 (by rw [c13]; decide) (by rw [c13]; decide) (by rw [c13]; rfl) 732 (by decide) ?_
    exact ls_13 hst hF C hN hX hbl hbA q1 hcl hsl bl KK
  rw [if_neg c13] at hF
  by_cases c14 : x = (14 : Int32)
  · rw [if_pos c14] at hF
    refine rx_tableIn C dL_law_40 (by rw [c14]; decide) (by rw [c14]; decide) (by rw [c14]; rfl) 788 (by decide) ?_
    exact ls_14 hst hF C hN hX hbl hbA q1 hcl hsl bl KK
  rw [if_neg c14] at hF
  by_cases c15 : x = (15 : Int32)
  · rw [if_pos c15] at hF
    refine rx_tableIn C dL_law_40 (by rw [c15]; decide) (by rw [c15]; decide) (by rw [c15]; rfl) 844 (by decide) ?_
    exact ls_15 hst hF C hN hX hbl hbA q1 hcl hsl bl KK
  rw [if_neg c15] at hF
  by_cases c16 : x = (16 : Int32)
  · rw [if_pos c16] at hF
    refine rx_tableIn C dL_law_40 (by rw [c16]; decide) (by rw [c16]; decide) (by rw [c16]; rfl) 900 (by decide) ?_
    exact ls_16 hst hF C hN hX hbl hbA q1 hcl hsl bl KK
  rw [if_neg c16] at hF
  by_cases c17 : x = (17 : Int32)
  · rw [if_pos c17] at hF
    refine rx_tableIn C dL_law_40 (by rw [c17]; decide) (by rw [c17]; decide) (by rw [c17]; rfl) 956 (by decide) ?_
    exact ls_17 hst hF C hN hX hbl hbA q1 hcl hsl bl KK
  rw [if_neg c17] at hF
  by_cases c18 : x = (18 : Int32)
  · rw [if_pos c18] at hF
    refine rx_tableIn C dL_law_40 (by rw [c18]; decide) (by rw [c18]; decide) (by rw [c18]; rfl) 1012 (by decide) ?_
    exact ls_18 hst hF C hN hX hbl hbA q1 hcl hsl bl KK
  rw [if_neg c18] at hF
  by_cases c19 : x = (19 : Int32)
  · rw [if_pos c19] at hF
    refine rx_tableIn C dL_law_40 (by rw [c19]; decide) (by rw [c19]; decide) (by rw [c19]; rfl) 1068 (by decide) ?_
    exact ls_19 hst hF C hN hX hbl hbA hcl hsl bl KK
  rw [if_neg c19] at hF
  by_cases c20 : x = (20 : Int32)
  · rw [if_pos c20] at hF
    refine rx_tableIn C dL_law_40 (by rw [c20]; decide) (by rw [c20]; decide) (by rw [c20]; rfl) 1081 (by decide) ?_
    exact ls_20 hst hF C hN hX hbl hbA q1 q2 hcl hsl bl KK
  rw [if_neg c20] at hF
  by_cases c21 : x = (21 : Int32)
  · rw [if_pos c21] at hF
    refine rx_tableIn C dL_law_40 (by rw [c21]; decide) (by rw [c21]; decide) (by rw [c21]; rfl) 1149 (by decide) ?_
    exact ls_21 hst hF C hN hX hbl hbA q1 hcl hsl bl KK
  rw [if_neg c21] at hF
  by_cases c22 : x = (22 : Int32)
  · rw [if_pos c22] at hF
    refine rx_tableIn C dL_law_40 (by rw [c22]; decide) (by rw [c22]; decide) (by rw [c22]; rfl) 1205 (by decide) ?_
    exact ls_22 hst hF C hN hX hbl hbA q1 hcl hsl bl KK
  rw [if_neg c22] at hF
  by_cases c23 : x = (23 : Int32)
  · rw [if_pos c23] at hF
    refine rx_tableIn C dL_law_40 (by rw [c23]; decide) (by rw [c23]; decide) (by rw [c23]; rfl) 1268 (by decide) ?_
    exact ls_23 hst hF C hN hX hbl hbA q1 hcl hsl bl KK
  rw [if_neg c23] at hF
  by_cases c24 : x = (24 : Int32)
  · rw [if_pos c24] at hF
    refine rx_tableIn C dL_law_40 (by rw [c24]; decide) (by rw [c24]; decide) (by rw [c24]; rfl) 1324 (by decide) ?_
    exact ls_24 hst hF C hN hX hbl hbA hcl hsl bl KK
  rw [if_neg c24] at hF
  by_cases c25 : x = (25 : Int32)
  · rw [if_pos c25] at hF
    refine rx_tableIn C dL_law_40 (by rw [c25]; decide) (by rw [c25]; decide) (by rw [c25]; rfl) 1337 (by decide) ?_
    exact ls_25 hst hF C hN hX hbl hbA hcl hsl bl KK
  rw [if_neg c25] at hF
  by_cases c26 : x = (26 : Int32)
  · rw [if_pos c26] at hF
    refine rx_tableIn C dL_law_40 (by rw [c26]; decide) (by rw [c26]; decide) (by rw [c26]; rfl) 1350 (by decide) ?_
    exact ls_26 hst hF C hN hX hbl hbA q1 hcl hsl bl KK
  rw [if_neg c26] at hF
  by_cases c27 : x = (27 : Int32)
  · rw [if_pos c27] at hF
    refine rx_tableIn C dL_law_40 (by rw [c27]; decide) (by rw [c27]; decide) (by rw [c27]; rfl) 1406 (by decide) ?_
    exact ls_27 hst hF C hN hX hbl hbA hcl hsl bl KK
  rw [if_neg c27] at hF
  by_cases c28 : x = (28 : Int32)
  · rw [if_pos c28] at hF
    refine rx_tableIn C dL_law_40 (by rw [c28]; decide) (by rw [c28]; decide) (by rw [c28]; rfl) 1447 (by decide) ?_
    exact ls_28 hst hF C hN hX hbl hbA q1 hcl hsl bl KK
  rw [if_neg c28] at hF
  by_cases c29 : x = (29 : Int32)
  · rw [if_pos c29] at hF
    refine rx_tableIn C dL_law_40 (by rw [c29]; decide) (by rw [c29]; decide) (by rw [c29]; rfl) 1503 (by decide) ?_
    exact ls_29 hst hF C hN hX hbl hbA q1 hcl hsl bl KK
  rw [if_neg c29] at hF
  by_cases c30 : x = (30 : Int32)
  · rw [if_pos c30] at hF
    refine rx_tableIn C dL_law_40 (by rw [c30]; decide) (by rw [c30]; decide) (by rw [c30]; rfl) 1566 (by decide) ?_
    exact ls_30 hst hF C hN hX hbl hbA q1 hcl hsl bl KK
  rw [if_neg c30] at hF
  by_cases c31 : x = (31 : Int32)
  · rw [if_pos c31] at hF
    refine rx_tableIn C dL_law_40 (by rw [c31]; decide) (by rw [c31]; decide) (by rw [c31]; rfl) 1629 (by decide) ?_
    exact ls_31 hst hF C hN hX hbl hbA q1 hcl hsl bl KK
  rw [if_neg c31] at hF
  by_cases c32 : x = (32 : Int32)
  · rw [if_pos c32] at hF
    refine rx_tableIn C dL_law_40 (by rw [c32]; decide) (by rw [c32]; decide) (by rw [c32]; rfl) 1685 (by decide) ?_
    exact ls_32 hst hF C hN hX hbl hbA hcl hsl bl KK
  rw [if_neg c32] at hF
  by_cases c33 : x = (33 : Int32)
  · rw [if_pos c33] at hF
    refine rx_tableIn C dL_law_40 (by rw [c33]; decide) (by rw [c33]; decide) (by rw [c33]; rfl) 1698 (by decide) ?_
    exact ls_33 hst hF C hN hX hbl hbA hcl hsl bl KK
  rw [if_neg c33] at hF
  by_cases c34 : x = (34 : Int32)
  · rw [if_pos c34] at hF
    refine rx_tableIn C dL_law_40 (by rw [c34]; decide) (by rw [c34]; decide) (by rw [c34]; rfl) 1741 (by decide) ?_
    exact ls_34 hst hF C hN hX hbl hbA q1 hcl hsl bl KK
  rw [if_neg c34] at hF
  by_cases c35 : x = (35 : Int32)
  · rw [if_pos c35] at hF
    refine rx_tableIn C dL_law_40 (by rw [c35]; decide) (by rw [c35]; decide) (by rw [c35]; rfl) 1782 (by decide) ?_
    exact ls_35 hst hF C hN hX hbl hbA q1 q2 hcl hsl bl KK
  rw [if_neg c35] at hF
  by_cases c36 : x = (36 : Int32)
  · rw [if_pos c36] at hF
    refine rx_tableIn C dL_law_40 (by rw [c36]; decide) (by rw [c36]; decide) (by rw [c36]; rfl) 1835 (by decide) ?_
    exact ls_36 hst hF C hN hX hbl hbA q1 hcl hsl bl KK
  rw [if_neg c36] at hF
  by_cases c37 : x = (37 : Int32)
  · rw [if_pos c37] at hF
    refine rx_tableIn C dL_law_40 (by rw [c37]; decide) (by rw [c37]; decide) (by rw [c37]; rfl) 1891 (by decide) ?_
    exact ls_37 hst hF C hN hX hbl hbA hcl hsl bl KK
  rw [if_neg c37] at hF
  by_cases c38 : x = (38 : Int32)
  · rw [if_pos c38] at hF
    refine rx_tableIn C dL_law_40 (by rw [c38]; decide) (by rw [c38]; decide) (by rw [c38]; rfl) 1904 (by decide) ?_
    exact ls_38 hst hF C hN hX hbl hbA q1 hcl hsl bl KK
  rw [if_neg c38] at hF
  by_cases c39 : x = (39 : Int32)
  · rw [if_pos c39] at hF
    refine rx_tableIn C dL_law_40 (by rw [c39]; decide) (by rw [c39]; decide) (by rw [c39]; rfl) 1967 (by decide) ?_
    exact ls_39 hst hF C hN hX hbl hbA hcl hsl bl KK
  rw [if_neg c39] at hF
  by_cases c40 : x = (40 : Int32)
  · rw [if_pos c40] at hF
    refine rx_tableIn C dL_law_40 (by rw [c40]; decide) (by rw [c40]; decide) (by rw [c40]; rfl) 1980 (by decide) ?_
    exact ls_40 hst hF C hN hX hbl hbA q1 hcl hsl bl KK
  rw [if_neg c40] at hF
  by_cases c41 : x = (41 : Int32)
  · rw [if_pos c41] at hF
    refine rx_tableIn C dL_law_40 (by rw [c41]; decide) (by rw [c41]; decide) (by rw [c41]; rfl) 2036 (by decide) ?_
    exact ls_41 hst hF C hN hX hbl hbA q1 hcl hsl bl KK
  rw [if_neg c41] at hF
  by_cases c42 : x = (42 : Int32)
  · rw [if_pos c42] at hF
    refine rx_tableIn C dL_law_40 (by rw [c42]; decide) (by rw [c42]; decide) (by rw [c42]; rfl) 2092 (by decide) ?_
    exact ls_42 hst hF C hN hX hbl hbA q1 hcl hsl bl KK
  rw [if_neg c42] at hF
  by_cases c43 : x = (43 : Int32)
  · rw [if_pos c43] at hF
    refine rx_tableIn C dL_law_40 (by rw [c43]; decide) (by rw [c43]; decide) (by rw [c43]; rfl) 2148 (by decide) ?_
    exact ls_43 hst hF C hN hX hbl hbA q1 hcl hsl bl KK
  rw [if_neg c43] at hF
  by_cases c44 : x = (44 : Int32)
  · rw [if_pos c44] at hF
    refine rx_tableIn C dL_law_40 (by rw [c44]; decide) (by rw [c44]; decide) (by rw [c44]; rfl) 2204 (by decide) ?_
    exact ls_44 hst hF C hN hX hbl hbA q1 hcl hsl bl KK
  rw [if_neg c44] at hF
  by_cases c45 : x = (45 : Int32)
  · rw [if_pos c45] at hF
    refine rx_tableIn C dL_law_40 (by rw [c45]; decide) (by rw [c45]; decide) (by rw [c45]; rfl) 2260 (by decide) ?_
    exact ls_45 hst hF C hN hX hbl hbA hcl hsl bl KK
  rw [if_neg c45] at hF
  by_cases c46 : x = (46 : Int32)
  · rw [if_pos c46] at hF
    refine rx_tableIn C dL_law_40 (by rw [c46]; decide) (by rw [c46]; decide) (by rw [c46]; rfl) 2273 (by decide) ?_
    exact ls_46 hst hF C hN hX hbl hbA q1 q2 hcl hsl bl KK
  rw [if_neg c46] at hF
  by_cases c47 : x = (47 : Int32)
  · rw [if_pos c47] at hF
    refine rx_tableIn C dL_law_40 (by rw [c47]; decide) (by rw [c47]; decide) (by rw [c47]; rfl) 2341 (by decide) ?_
    exact ls_47 hst hF C hN hX hbl hbA q1 q2 hcl hsl bl KK
  rw [if_neg c47] at hF
  by_cases c48 : x = (48 : Int32)
  · rw [if_pos c48] at hF
    refine rx_tableIn C dL_law_40 (by rw [c48]; decide) (by rw [c48]; decide) (by rw [c48]; rfl) 2409 (by decide) ?_
    exact ls_48 hst hF C hN hX hbl hbA q1 q2 hcl hsl bl KK
  rw [if_neg c48] at hF
  by_cases c49 : x = (49 : Int32)
  · rw [if_pos c49] at hF
    refine rx_tableIn C dL_law_40 (by rw [c49]; decide) (by rw [c49]; decide) (by rw [c49]; rfl) 2477 (by decide) ?_
    exact ls_49 hst hF C hN hX hbl hbA q1 q2 hcl hsl bl KK
  rw [if_neg c49] at hF
  by_cases c50 : x = (50 : Int32)
  · rw [if_pos c50] at hF
    refine rx_tableIn C dL_law_40 (by rw [c50]; decide) (by rw [c50]; decide) (by rw [c50]; rfl) 2545 (by decide) ?_
    exact ls_50 hst hF C hN hX hbl hbA q1 q2 hcl hsl bl KK
  rw [if_neg c50] at hF
  by_cases c51 : x = (51 : Int32)
  · rw [if_pos c51] at hF
    refine rx_tableIn C dL_law_40 (by rw [c51]; decide) (by rw [c51]; decide) (by rw [c51]; rfl) 2613 (by decide) ?_
    exact ls_51 hst hF C hN hX hbl hbA q1 q2 hcl hsl bl KK
  rw [if_neg c51] at hF
  by_cases c52 : x = (52 : Int32)
  · rw [if_pos c52] at hF
    refine rx_tableIn C dL_law_40 (by rw [c52]; decide) (by rw [c52]; decide) (by rw [c52]; rfl) 2681 (by decide) ?_
    exact ls_52 hst hF C hN hX hbl hbA q1 hcl hsl bl KK
  rw [if_neg c52] at hF
  by_cases c53 : x = (53 : Int32)
  · rw [if_pos c53] at hF
    refine rx_tableIn C dL_law_40 (by rw [c53]; decide) (by rw [c53]; decide) (by rw [c53]; rfl) 2737 (by decide) ?_
    exact ls_53 hst hF C hN hX hbl hbA q1 q2 hcl hsl bl KK
  rw [if_neg c53] at hF
  by_cases c54 : x = (54 : Int32)
  · rw [if_pos c54] at hF
    refine rx_tableIn C dL_law_40 (by rw [c54]; decide) (by rw [c54]; decide) (by rw [c54]; rfl) 2805 (by decide) ?_
    exact ls_54 hst hF C hN hX hbl hbA q1 hcl hsl bl KK
  rw [if_neg c54] at hF
  by_cases c55 : x = (55 : Int32)
  · rw [if_pos c55] at hF
    refine rx_tableIn C dL_law_40 (by rw [c55]; decide) (by rw [c55]; decide) (by rw [c55]; rfl) 2861 (by decide) ?_
    exact ls_55 hst hF C hN hX hbl hbA q1 hcl hsl bl KK
  rw [if_neg c55] at hF
  by_cases c56 : x = (56 : Int32)
  · rw [if_pos c56] at hF
    refine rx_tableIn C dL_law_40 (by rw [c56]; decide) (by rw [c56]; decide) (by rw [c56]; rfl) 2917 (by decide) ?_
    exact ls_56 hst hF C hN hX hbl hbA q1 hcl hsl bl KK
  rw [if_neg c56] at hF
  by_cases c57 : x = (57 : Int32)
  · rw [if_pos c57] at hF
    refine rx_tableIn C dL_law_40 (by rw [c57]; decide) (by rw [c57]; decide) (by rw [c57]; rfl) 2958 (by decide) ?_
    exact ls_57 hst hF C hN hX hbl hbA q1 hcl hsl bl KK
  rw [if_neg c57] at hF
  by_cases c58 : x = (58 : Int32)
  · rw [if_pos c58] at hF
    refine rx_tableIn C dL_law_40 (by rw [c58]; decide) (by rw [c58]; decide) (by rw [c58]; rfl) 3014 (by decide) ?_
    exact ls_58 hst hF C hN hX hbl hbA hcl hsl bl KK
  rw [if_neg c58] at hF
  by_cases c59 : x = (59 : Int32)
  · rw [if_pos c59] at hF
    refine rx_tableIn C dL_law_40 (by rw [c59]; decide) (by rw [c59]; decide) (by rw [c59]; rfl) 3027 (by decide) ?_
    exact ls_59 hst hF C hN hX hbl hbA hcl hsl bl KK
  rw [if_neg c59] at hF
  by_cases c60 : x = (60 : Int32)
  · rw [if_pos c60] at hF
    refine rx_tableIn C dL_law_40 (by rw [c60]; decide) (by rw [c60]; decide) (by rw [c60]; rfl) 3071 (by decide) ?_
    exact ls_60 hst hF C hN hX hbl hbA hcl hsl bl KK
  rw [if_neg c60] at hF
  by_cases c61 : x = (61 : Int32)
  · rw [if_pos c61] at hF
    refine rx_tableIn C dL_law_40 (by rw [c61]; decide) (by rw [c61]; decide) (by rw [c61]; rfl) 3082 (by decide) ?_
    exact ls_61 hst hF C hN hX hbl hbA hcl hsl bl KK
  rw [if_neg c61] at hF
  obtain rfl := Option.some.inj hF
  refine rx_tableOut C dL_law_40 (by have z0 := rx_neI c0; have r0 : (0 : Int32).toInt = 0 := rfl; have z1 := rx_neI c1; have r1 : (1 : Int32).toInt = 1 := rfl; have z2 := rx_neI c2; have r2 : (2 : Int32).toInt = 2 := rfl; have z3 := rx_neI c3; have r3 : (3 : Int32).toInt = 3 := rfl; have z4 := rx_neI c4; have r4 : (4 : Int32).toInt = 4 := rfl; have z5 := rx_neI c5; have r5 : (5 : Int32).toInt = 5 := rfl; have z6 := rx_neI c6; have r6 : (6 : Int32).toInt = 6 := rfl; have z7 := rx_neI c7; have r7 : (7 : Int32).toInt = 7 := rfl; have z8 := rx_neI c8; have r8 : (8 : Int32).toInt = 8 := rfl; have z9 := rx_neI c9; have r9 : (9 : Int32).toInt = 9 := rfl; have z10 := rx_neI c10; have r10 : (10 : Int32).toInt = 10 := rfl; have z11 := rx_neI c11; have r11 : (11 : Int32).toInt = 11 := rfl; have z12 := rx_neI c12; have r12 : (12 : Int32).toInt = 12 := rfl; have z13 := rx_neI c13; have r13 : (13 : Int32).toInt = 13 := rfl; have z14 := rx_neI c14; have r14 : (14 : Int32).toInt = 14 := rfl; have z15 := rx_neI c15; have r15 : (15 : Int32).toInt = 15 := rfl; have z16 := rx_neI c16; have r16 : (16 : Int32).toInt = 16 := rfl; have z17 := rx_neI c17; have r17 : (17 : Int32).toInt = 17 := rfl; have z18 := rx_neI c18; have r18 : (18 : Int32).toInt = 18 := rfl; have z19 := rx_neI c19; have r19 : (19 : Int32).toInt = 19 := rfl; have z20 := rx_neI c20; have r20 : (20 : Int32).toInt = 20 := rfl; have z21 := rx_neI c21; have r21 : (21 : Int32).toInt = 21 := rfl; have z22 := rx_neI c22; have r22 : (22 : Int32).toInt = 22 := rfl; have z23 := rx_neI c23; have r23 : (23 : Int32).toInt = 23 := rfl; have z24 := rx_neI c24; have r24 : (24 : Int32).toInt = 24 := rfl; have z25 := rx_neI c25; have r25 : (25 : Int32).toInt = 25 := rfl; have z26 := rx_neI c26; have r26 : (26 : Int32).toInt = 26 := rfl; have z27 := rx_neI c27; have r27 : (27 : Int32).toInt = 27 := rfl; have z28 := rx_neI c28; have r28 : (28 : Int32).toInt = 28 := rfl; have z29 := rx_neI c29; have r29 : (29 : Int32).toInt = 29 := rfl; have z30 := rx_neI c30; have r30 : (30 : Int32).toInt = 30 := rfl; have z31 := rx_neI c31; have r31 : (31 : Int32).toInt = 31 := rfl; have z32 := rx_neI c32; have r32 : (32 : Int32).toInt = 32 := rfl; have z33 := rx_neI c33; have r33 : (33 : Int32).toInt = 33 := rfl; have z34 := rx_neI c34; have r34 : (34 : Int32).toInt = 34 := rfl; have z35 := rx_neI c35; have r35 : (35 : Int32).toInt = 35 := rfl; have z36 := rx_neI c36; have r36 : (36 : Int32).toInt = 36 := rfl; have z37 := rx_neI c37; have r37 : (37 : Int32).toInt = 37 := rfl; have z38 := rx_neI c38; have r38 : (38 : Int32).toInt = 38 := rfl; have z39 := rx_neI c39; have r39 : (39 : Int32).toInt = 39 := rfl; have z40 := rx_neI c40; have r40 : (40 : Int32).toInt = 40 := rfl; have z41 := rx_neI c41; have r41 : (41 : Int32).toInt = 41 := rfl; have z42 := rx_neI c42; have r42 : (42 : Int32).toInt = 42 := rfl; have z43 := rx_neI c43; have r43 : (43 : Int32).toInt = 43 := rfl; have z44 := rx_neI c44; have r44 : (44 : Int32).toInt = 44 := rfl; have z45 := rx_neI c45; have r45 : (45 : Int32).toInt = 45 := rfl; have z46 := rx_neI c46; have r46 : (46 : Int32).toInt = 46 := rfl; have z47 := rx_neI c47; have r47 : (47 : Int32).toInt = 47 := rfl; have z48 := rx_neI c48; have r48 : (48 : Int32).toInt = 48 := rfl; have z49 := rx_neI c49; have r49 : (49 : Int32).toInt = 49 := rfl; have z50 := rx_neI c50; have r50 : (50 : Int32).toInt = 50 := rfl; have z51 := rx_neI c51; have r51 : (51 : Int32).toInt = 51 := rfl; have z52 := rx_neI c52; have r52 : (52 : Int32).toInt = 52 := rfl; have z53 := rx_neI c53; have r53 : (53 : Int32).toInt = 53 := rfl; have z54 := rx_neI c54; have r54 : (54 : Int32).toInt = 54 := rfl; have z55 := rx_neI c55; have r55 : (55 : Int32).toInt = 55 := rfl; have z56 := rx_neI c56; have r56 : (56 : Int32).toInt = 56 := rfl; have z57 := rx_neI c57; have r57 : (57 : Int32).toInt = 57 := rfl; have z58 := rx_neI c58; have r58 : (58 : Int32).toInt = 58 := rfl; have z59 := rx_neI c59; have r59 : (59 : Int32).toInt = 59 := rfl; have z60 := rx_neI c60; have r60 : (60 : Int32).toInt = 60 := rfl; have z61 := rx_neI c61; have r61 : (61 : Int32).toInt = 61 := rfl; omega) 3126 (by decide) ?_

  exact rx_wide (cells + 3) (slots + 18) (by omega) (by omega) (KK h n (Nat.le_refl _) bl)
set_option maxRecDepth 100000 in
set_option maxHeartbeats 8000000 in
theorem law_loop {Inv : Nat → lst → Prop} (hstep : ∀ (j : Nat) (st : lst) (a0 a1 a2 a3 a4 a5 : Int32), j < 512 → Inv j st → ∃ st2, F_step st a0 a1 a2 a3 a4 a5 = some st2 ∧ Inv (j + 1) st2)
    {b : Nat} (hst : l.stackTraces = false) (C : rx_C G k P9 M9 c9 cL_law RL 9 ret9 S9 A9 me9) (hN : rx_NC S9) (hX : va_X sc len xs S9 S9.heap) (hbl : sc < S9.heap.size) (hbA : ¬ k 0 ≤ sc) (hl : len ≤ 3072)
    (KE : ∀ (hh : hp) (n1 : Nat) (L : List (Nat × Value)), rx_W P9 l E9 room_1 S9 M9 A9 B9 me9 c9 Q9 G k 9 601024 7293034 hh n1 3132 L []) :
    ∀ (r j : Nat) (st : lst) (h : hp) (n : Nat), j + r = 513 → Inv j st → bLaw k b st h → rx_W P9 l E9 room_1 S9 M9 A9 B9 me9 c9 Q9 G k 9 (300 + 3 * j) (6000 + 18 * j) h n 23 [(0, .ref sc), (1, .ref b), (2, .ref (b + 204)), (3, .ref (b + 213)), (4, .int (nI (6 * j)))] [] := by
  intro r
  induction r with
  | zero =>
    intro j st h n hj hI bl
    obtain rfl : j = 513 := by omega
    refine rx_iload C dL_law_23 4 rfl ?_
    refine rx_aload_n C dL_law_25 0 rfl ?_
    refine rx_slen C hX hbl hbA dL_law_26 ?_
    refine rx_bipush C dL_law_27 (6 : Int32) (by decide) ?_
    refine rx_isub C dL_law_29 ?_
    refine rx_icmp_gt C dL_law_30 3132 (by decide) (fun c1 => ?_) (fun c1 => ?_)
    · exact rx_wide _ _ (by omega) (by omega) (KE h n _)
    · exact absurd (ll_out hl (by omega)) c1
  | succ r ih =>
    intro j st h n hj hI bl
    refine rx_iload C dL_law_23 4 rfl ?_
    refine rx_aload_n C dL_law_25 0 rfl ?_
    refine rx_slen C hX hbl hbA dL_law_26 ?_
    refine rx_bipush C dL_law_27 (6 : Int32) (by decide) ?_
    refine rx_isub C dL_law_29 ?_
    refine rx_icmp_gt C dL_law_30 3132 (by decide) (fun c1 => ?_) (fun c1 => ?_)
    · exact rx_wide _ _ (by omega) (by omega) (KE h n _)
    · have hj6 : 6 * j + 6 ≤ len := Nat.not_lt.mp fun q => c1 (ll_out hl (by omega))
      refine rx_aload_n C dL_law_33 0 rfl ?_
      refine rx_iload C dL_law_34 4 rfl ?_
      refine rx_sld C hX hbl hbA (v := xs (6 * j)) ⟨nI_in (by omega) (by omega), by rw [nI_clamp (by omega)]⟩ dL_law_36 ?_
      refine rx_bipush C dL_law_37 (63 : Int32) (by decide) ?_
      refine rx_iand C dL_law_39 ?_
      obtain ⟨st2, hF, hI2⟩ := hstep j st (xs (6 * j)) (xs (6 * j + 1)) (xs (6 * j + 2)) (xs (6 * j + 3)) (xs (6 * j + 4)) (xs (6 * j + 5)) (by omega) hI
      refine ll_switch hst C hN hX hbl hbA hl hj6 (by omega) (by omega) hF bl (fun hh n1 hn bl2 => ?_)
      refine rx_iinc C dL_law_3126 4 rfl (nI (6 * (j + 1))) (by rw [show Int32.ofInt 6 = nI 6 from rfl, nI_add]; exact congrArg nI (by omega)) (by decide) [(4, .int (nI (6 * (j + 1)))), (0, .ref sc), (1, .ref b), (2, .ref (b + 204)), (3, .ref (b + 213))] rfl ?_
      refine rx_goto C dL_law_3129 23 (by decide) ?_
      refine rx_sub [1, 2, 3, 4, 0] rfl ?_
      exact ih (j + 1) st2 hh n1 (by omega) hI2 bl2
end LAWC
