section GEN
variable {l : Launch} {G : va_G} {k : Nat → Nat} {h : hp} {n : Nat}
def F_X9_thrown (om : ob) : Option (Int32) := some ((om.1 0))
set_option maxRecDepth 100000 in
set_option maxHeartbeats 4000000 in
theorem w_X9_thrown {m : Nat} {om : ob} {y : Int32} (hF : F_X9_thrown om = some y) (b_m : bM k m om h) : Met l yX9_thrown (rx_ws yX9_thrown cX9_thrown 1 (some .int)) (rx_rm 0 0) (va_Pc [.ref m] (rx_G G k h n)) (va_Qi (fun r u => y = r ∧ u = (h, n)) (rx_B G k) (rx_A k)) 0 0 (rx_A k) := by
  refine rx_start [(0, .ref m)] rfl (Nat.le_of_ble_eq_true rfl) (by decide) rfl (fun P9 E9 S9 M9 A9 B9 me9 c9 C hname => ?_)
  unfold F_X9_thrown at hF
  refine rx_aload_n C dX9_thrown_0 0 rfl ?_
  refine rx_getf C f_X9_1 dX9_thrown_1 b_m.1 rfl ?_
  obtain rfl := Option.some.inj hF
  exact rx_iret C dX9_thrown_4 (Nat.le_refl _) (Nat.le_refl _) ⟨rfl, rfl⟩
def F_X9_in (x0 : Int32) (x1 : Int32) (x2 : Int32) : Option (Int32) := if x0 < x1 then (some ((0 : Int32))) else (if x2 < x0 then (some ((0 : Int32))) else (some ((1 : Int32))))
set_option maxRecDepth 100000 in
set_option maxHeartbeats 4000000 in
theorem w_X9_in {x0 : Int32} {x1 : Int32} {x2 : Int32} {y : Int32} (hF : F_X9_in x0 x1 x2 = some y) : Met l yX9_in (rx_ws yX9_in cX9_in 3 (some .boolean)) (rx_rm 0 0) (va_Pc [.int x0, .int x1, .int x2] (rx_G G k h n)) (va_Qi (fun r u => y = r ∧ (y = 0 ∨ y = 1) ∧ u = (h, n)) (rx_B G k) (rx_A k)) 0 0 (rx_A k) := by
  refine rx_start [(0, .int x0), (1, .int x1), (2, .int x2)] rfl (Nat.le_of_ble_eq_true rfl) (by decide) rfl (fun P9 E9 S9 M9 A9 B9 me9 c9 C hname => ?_)
  unfold F_X9_in at hF
  refine rx_iload_n C dX9_in_0 0 rfl ?_
  refine rx_iload_n C dX9_in_1 1 rfl ?_
  refine rx_icmp_lt C dX9_in_2 14 (by decide) (fun c1 => ?_) (fun c1 => ?_)
  · rw [if_pos c1] at hF
    refine rx_iconst C dX9_in_14 (0 : Int32) (by decide) ?_
    obtain rfl := Option.some.inj hF
    exact rx_zret C (rx_nz (Or.inl rfl)) dX9_in_15 (Nat.le_refl _) (Nat.le_refl _) ⟨rfl, (Or.inl rfl), rfl⟩
  · rw [if_neg c1] at hF
    refine rx_iload_n C dX9_in_5 0 rfl ?_
    refine rx_iload_n C dX9_in_6 2 rfl ?_
    refine rx_icmp_gt C dX9_in_7 14 (by decide) (fun c2 => ?_) (fun c2 => ?_)
    · rw [if_pos c2] at hF
      refine rx_iconst C dX9_in_14 (0 : Int32) (by decide) ?_
      obtain rfl := Option.some.inj hF
      exact rx_zret C (rx_nz (Or.inl rfl)) dX9_in_15 (Nat.le_refl _) (Nat.le_refl _) ⟨rfl, (Or.inl rfl), rfl⟩
    · rw [if_neg c2] at hF
      refine rx_iconst C dX9_in_10 (1 : Int32) (by decide) ?_
      refine rx_goto C dX9_in_11 15 (by decide) ?_
      obtain rfl := Option.some.inj hF
      exact rx_zret C (rx_nz (Or.inr rfl)) dX9_in_15 (Nat.le_refl _) (Nat.le_refl _) ⟨rfl, (Or.inr rfl), rfl⟩
def F_X9_fails (om : ob) (x1 : Int32) (x2 : Int32) : Option (Int32 × ob) := (if x1 = (0 : Int32) then (if (om.1 0) = (0 : Int32) then (rx_le (upd om.1 0 x2, om.2) fun o_m_6 => some o_m_6) else (some om)) else (some om)).bind fun zj1 => if (zj1.1 0) = (0 : Int32) then (some ((0 : Int32), zj1)) else (some ((1 : Int32), zj1))
set_option maxRecDepth 100000 in
set_option maxHeartbeats 4000000 in
theorem w_X9_fails {m : Nat} {om : ob} {x1 : Int32} {x2 : Int32} {y : Int32 × ob} (hF : F_X9_fails om x1 x2 = some y) (b_m : bM k m om h) : Met l yX9_fails (rx_ws yX9_fails cX9_fails 3 (some .boolean)) (rx_rm 0 0) (va_Pc [.ref m, .int x1, .int x2] (rx_G G k h n)) (va_Qi (fun r u => y.1 = r ∧ (y.1 = 0 ∨ y.1 = 1) ∧ u.2 = n ∧ bM k m y.2 u.1 ∧ rx_fr [(m, 9)] h u.1) (rx_B G k) (rx_A k)) 0 0 (rx_A k) := by
  refine rx_start [(0, .ref m), (1, .int x1), (2, .int x2)] rfl (Nat.le_of_ble_eq_true rfl) (by decide) rfl (fun P9 E9 S9 M9 A9 B9 me9 c9 C hname => ?_)
  unfold F_X9_fails at hF
  have fr : rx_fr [(m, 9)] h h := rx_fr0
  refine rx_iload_n C dX9_fails_0 1 rfl ?_
  replace hF := rx_biE hF; obtain ⟨zj1, e_zj1, hF⟩ := hF
  have KJ2 : ∀ hh : hp, bM k m zj1 hh → rx_fr [(m, 9)] h hh → rx_W P9 l E9 (rx_rm 0 0) S9 M9 A9 B9 me9 c9 (MQ B9 (va_Qi (fun r u => y.1 = r ∧ (y.1 = 0 ∨ y.1 = 1) ∧ u.2 = n ∧ bM k m y.2 u.1 ∧ rx_fr [(m, 9)] h u.1) (rx_B G k) (rx_A k)) A9 S9 0 0 (rx_A k)) G k 3 0 0 hh n 16 [(0, .ref m), (1, .int x1), (2, .int x2)] [] := by
    intro hh b_m fr
    refine rx_aload_n C dX9_fails_16 0 rfl ?_
    refine rx_getf C f_X9_1 dX9_fails_17 b_m.1 rfl ?_
    refine rx_if_eq C dX9_fails_20 27 (by decide) (fun c3 => ?_) (fun c3 => ?_)
    · rw [if_pos c3] at hF
      refine rx_iconst C dX9_fails_27 (0 : Int32) (by decide) ?_
      obtain rfl := Option.some.inj hF
      exact rx_zret C (rx_nz (Or.inl rfl)) dX9_fails_28 (Nat.le_refl _) (Nat.le_refl _) ⟨rfl, (Or.inl rfl), rfl, b_m, fr⟩
    · rw [if_neg c3] at hF
      refine rx_iconst C dX9_fails_23 (1 : Int32) (by decide) ?_
      refine rx_goto C dX9_fails_24 28 (by decide) ?_
      obtain rfl := Option.some.inj hF
      exact rx_zret C (rx_nz (Or.inr rfl)) dX9_fails_28 (Nat.le_refl _) (Nat.le_refl _) ⟨rfl, (Or.inr rfl), rfl, b_m, fr⟩
  replace hF := e_zj1
  clear e_zj1
  refine rx_if_ne C dX9_fails_1 16 (by decide) (fun c4 => ?_) (fun c4 => ?_)
  · rw [if_neg c4] at hF
    obtain rfl := Option.some.inj hF
    refine rx_sub [0, 1, 2] rfl ?_
    exact KJ2 _ b_m fr
  · rw [if_pos c4] at hF
    refine rx_aload_n C dX9_fails_4 0 rfl ?_
    refine rx_getf C f_X9_1 dX9_fails_5 b_m.1 rfl ?_
    refine rx_if_ne C dX9_fails_8 16 (by decide) (fun c5 => ?_) (fun c5 => ?_)
    · rw [if_neg c5] at hF
      obtain rfl := Option.some.inj hF
      refine rx_sub [0, 1, 2] rfl ?_
      exact KJ2 _ b_m fr
    · rw [if_pos c5] at hF
      refine rx_aload_n C dX9_fails_11 0 rfl ?_
      refine rx_iload_n C dX9_fails_12 2 rfl ?_
      replace hF := rx_leE hF; obtain ⟨o_m_6, e_o_m_6, hF⟩ := hF
      refine rx_pM0 C f_X9_1 dX9_fails_13 b_m e_o_m_6 (fun hh c_m ff => ?_)
      replace b_m := c_m
      replace fr := rx_frt fr ff (fun a ha => ⟨ha.1, trivial⟩)
      obtain rfl := Option.some.inj hF
      refine rx_sub [0, 1, 2] rfl ?_
      exact KJ2 _ b_m fr
def F_X9_truth (x0 : Int32) : Option (Int32) := if x0 = (0 : Int32) then (some ((0 : Int32))) else (some ((1 : Int32)))
set_option maxRecDepth 100000 in
set_option maxHeartbeats 4000000 in
theorem w_X9_truth {x0 : Int32} {y : Int32} (hF : F_X9_truth x0 = some y) : Met l yX9_truth (rx_ws yX9_truth cX9_truth 1 (some .int)) (rx_rm 0 0) (va_Pc [.int x0] (rx_G G k h n)) (va_Qi (fun r u => y = r ∧ u = (h, n)) (rx_B G k) (rx_A k)) 0 0 (rx_A k) := by
  refine rx_start [(0, .int x0)] rfl (Nat.le_of_ble_eq_true rfl) (by decide) rfl (fun P9 E9 S9 M9 A9 B9 me9 c9 C hname => ?_)
  unfold F_X9_truth at hF
  refine rx_iload_n C dX9_truth_0 0 rfl ?_
  refine rx_if_eq C dX9_truth_1 8 (by decide) (fun c1 => ?_) (fun c1 => ?_)
  · rw [if_pos c1] at hF
    refine rx_iconst C dX9_truth_8 (0 : Int32) (by decide) ?_
    obtain rfl := Option.some.inj hF
    exact rx_iret C dX9_truth_9 (Nat.le_refl _) (Nat.le_refl _) ⟨rfl, rfl⟩
  · rw [if_neg c1] at hF
    refine rx_iconst C dX9_truth_4 (1 : Int32) (by decide) ?_
    refine rx_goto C dX9_truth_5 9 (by decide) ?_
    obtain rfl := Option.some.inj hF
    exact rx_iret C dX9_truth_9 (Nat.le_refl _) (Nat.le_refl _) ⟨rfl, rfl⟩
def F_X9_plain (x0 : Int32) : Option (Int32) := if (0 : Int32) ≤ x0 then (some x0) else (some (-x0))
set_option maxRecDepth 100000 in
set_option maxHeartbeats 4000000 in
theorem w_X9_plain {x0 : Int32} {y : Int32} (hF : F_X9_plain x0 = some y) : Met l yX9_plain (rx_ws yX9_plain cX9_plain 1 (some .int)) (rx_rm 0 0) (va_Pc [.int x0] (rx_G G k h n)) (va_Qi (fun r u => y = r ∧ u = (h, n)) (rx_B G k) (rx_A k)) 0 0 (rx_A k) := by
  refine rx_start [(0, .int x0)] rfl (Nat.le_of_ble_eq_true rfl) (by decide) rfl (fun P9 E9 S9 M9 A9 B9 me9 c9 C hname => ?_)
  unfold F_X9_plain at hF
  refine rx_iload_n C dX9_plain_0 0 rfl ?_
  refine rx_if_ge C dX9_plain_1 9 (by decide) (fun c1 => ?_) (fun c1 => ?_)
  · rw [if_pos c1] at hF
    refine rx_iload_n C dX9_plain_9 0 rfl ?_
    obtain rfl := Option.some.inj hF
    exact rx_iret C dX9_plain_10 (Nat.le_refl _) (Nat.le_refl _) ⟨rfl, rfl⟩
  · rw [if_neg c1] at hF
    refine rx_iload_n C dX9_plain_4 0 rfl ?_
    refine rx_ineg C dX9_plain_5 ?_
    refine rx_goto C dX9_plain_6 10 (by decide) ?_
    obtain rfl := Option.some.inj hF
    exact rx_iret C dX9_plain_10 (Nat.le_refl _) (Nat.le_refl _) ⟨rfl, rfl⟩
def F_X9_copies_1_2_3 (x1 : Int32) (x3 : Int32) (x4 : Int32) : Nat → ob → Int32 → Option (Int32 × ob)
  | 0, _, _ => none
  | fu + 1, om, x5 => if x4 ≤ x5 then (some (x5, om)) else ((rx_ald 144 (om.2 1) ((x1 + x5))).bind fun v4 => (rx_ast 144 (om.2 2) ((x3 + x5)) v4).bind fun f5 => rx_le (om.1, va_up om.2 2 f5) fun o_m_6 => F_X9_copies_1_2_3 x1 x3 x4 fu o_m_6 ((x5 + 1)))
def F_X9_copies_1_2 (om : ob) (x1 : Int32) (x3 : Int32) (x4 : Int32) : Option (ob) := (F_X9_copies_1_2_3 x1 x3 x4 100000 om ((0 : Int32))).bind fun zl7 => some zl7.2
set_option maxRecDepth 100000 in
set_option maxHeartbeats 4000000 in
theorem w_X9_copies_1_2 {m : Nat} {om : ob} {x1 : Int32} {x3 : Int32} {x4 : Int32} {y : ob} (hF : F_X9_copies_1_2 om x1 x3 x4 = some y) (b_m : bM k m om h) : Met l yX9_copies (rx_ws yX9_copies cX9_copies 6 none) (rx_rm 0 0) (va_Pc [.ref (m + 1), .int x1, .ref (m + 2), .int x3, .int x4] (rx_G G k h n)) (va_Qv (fun u => u.2 = n ∧ bM k m y u.1 ∧ rx_fr [(m, 9)] h u.1) (rx_B G k) (rx_A k)) 0 0 (rx_A k) := by
  refine rx_start [(0, .ref (m + 1)), (1, .int x1), (2, .ref (m + 2)), (3, .int x3), (4, .int x4)] rfl (Nat.le_of_ble_eq_true rfl) (by decide) rfl (fun P9 E9 S9 M9 A9 B9 me9 c9 C hname => ?_)
  unfold F_X9_copies_1_2 at hF
  have fr : rx_fr [(m, 9)] h h := rx_fr0
  refine rx_iconst C dX9_copies_0 (0 : Int32) (by decide) ?_
  refine rx_istore C dX9_copies_1 (by decide) [(5, .int ((0 : Int32))), (0, .ref (m + 1)), (1, .int x1), (2, .ref (m + 2)), (3, .int x3), (4, .int x4)] rfl ?_
  have loop2 : ∀ (fu : Nat) (zz : Int32 × ob) (om : ob) (x5 : Int32) (hh : hp), F_X9_copies_1_2_3 x1 x3 x4 fu om x5 = some zz → bM k m om hh → rx_fr [(m, 9)] h hh → (∀ hh : hp, bM k m zz.2 hh → rx_fr [(m, 9)] h hh → rx_W P9 l E9 (rx_rm 0 0) S9 M9 A9 B9 me9 c9 (MQ B9 (va_Qv (fun u => u.2 = n ∧ bM k m y u.1 ∧ rx_fr [(m, 9)] h u.1) (rx_B G k) (rx_A k)) A9 S9 0 0 (rx_A k)) G k 6 0 0 hh n 28 [(0, .ref (m + 1)), (1, .int x1), (2, .ref (m + 2)), (3, .int x3), (4, .int x4), (5, .int zz.1)] []) → rx_W P9 l E9 (rx_rm 0 0) S9 M9 A9 B9 me9 c9 (MQ B9 (va_Qv (fun u => u.2 = n ∧ bM k m y u.1 ∧ rx_fr [(m, 9)] h u.1) (rx_B G k) (rx_A k)) A9 S9 0 0 (rx_A k)) G k 6 0 0 hh n 3 [(0, .ref (m + 1)), (1, .int x1), (2, .ref (m + 2)), (3, .int x3), (4, .int x4), (5, .int x5)] [] := by
    intro fu
    induction fu with
    | zero => intro zz om x5 hh hF b_m fr KK; exact absurd hF (by simp [F_X9_copies_1_2_3])
    | succ fu ih_loop2 =>
      intro zz om x5 hh hF b_m fr KK
      unfold F_X9_copies_1_2_3 at hF
      refine rx_iload C dX9_copies_3 5 rfl ?_
      refine rx_iload C dX9_copies_5 4 rfl ?_
      refine rx_icmp_ge C dX9_copies_7 28 (by decide) (fun c3 => ?_) (fun c3 => ?_)
      · rw [if_pos c3] at hF
        obtain rfl := Option.some.inj hF
        refine rx_sub [0, 1, 2, 3, 4, 5] rfl ?_
        exact KK _ b_m fr
      · rw [if_neg c3] at hF
        refine rx_aload_n C dX9_copies_10 2 rfl ?_
        refine rx_iload_n C dX9_copies_11 3 rfl ?_
        refine rx_iload C dX9_copies_12 5 rfl ?_
        refine rx_iadd C dX9_copies_14 ?_
        refine rx_aload_n C dX9_copies_15 0 rfl ?_
        refine rx_iload_n C dX9_copies_16 1 rfl ?_
        refine rx_iload C dX9_copies_17 5 rfl ?_
        refine rx_iadd C dX9_copies_19 ?_
        replace hF := rx_biE hF; obtain ⟨v4, e_v4, hF⟩ := hF
        refine rx_aldF C dX9_copies_20 b_m.2.1 e_v4 ?_
        replace hF := rx_biE hF; obtain ⟨f5, e_f5, hF⟩ := hF
        replace hF := rx_leE hF; obtain ⟨o_m_6, e_o_m_6, hF⟩ := hF
        refine rx_aM2 C dX9_copies_21 b_m e_f5 e_o_m_6 (fun hh c_m ff => ?_)
        replace b_m := c_m
        replace fr := rx_frt fr ff (fun a ha => ⟨ha.1, trivial⟩)
        refine rx_iinc C dX9_copies_22 5 rfl (x5 + 1) rfl (by decide) [(5, .int ((x5 + 1))), (0, .ref (m + 1)), (1, .int x1), (2, .ref (m + 2)), (3, .int x3), (4, .int x4)] rfl ?_
        refine rx_goto C dX9_copies_25 3 (by decide) ?_
        refine rx_sub [1, 2, 3, 4, 5, 0] rfl ?_
        exact ih_loop2 _ _ _ _ hF b_m fr KK
  refine rx_sub [1, 2, 3, 4, 5, 0] rfl ?_
  replace hF := rx_biE hF; obtain ⟨zl7, e_zl7, hF⟩ := hF
  refine loop2 _ zl7 _ _ _ e_zl7 b_m fr (fun hh b_m fr => ?_)
  obtain rfl := Option.some.inj hF
  exact rx_vret C dX9_copies_28 (Nat.le_refl _) (Nat.le_refl _) ⟨rfl, b_m, fr⟩
def F_X9_copies_2_1_3 (x1 : Int32) (x3 : Int32) (x4 : Int32) : Nat → ob → Int32 → Option (Int32 × ob)
  | 0, _, _ => none
  | fu + 1, om, x5 => if x4 ≤ x5 then (some (x5, om)) else ((rx_ald 144 (om.2 2) ((x1 + x5))).bind fun v4 => (rx_ast 144 (om.2 1) ((x3 + x5)) v4).bind fun f5 => rx_le (om.1, va_up om.2 1 f5) fun o_m_6 => F_X9_copies_2_1_3 x1 x3 x4 fu o_m_6 ((x5 + 1)))
def F_X9_copies_2_1 (om : ob) (x1 : Int32) (x3 : Int32) (x4 : Int32) : Option (ob) := (F_X9_copies_2_1_3 x1 x3 x4 100000 om ((0 : Int32))).bind fun zl7 => some zl7.2
set_option maxRecDepth 100000 in
set_option maxHeartbeats 4000000 in
theorem w_X9_copies_2_1 {m : Nat} {om : ob} {x1 : Int32} {x3 : Int32} {x4 : Int32} {y : ob} (hF : F_X9_copies_2_1 om x1 x3 x4 = some y) (b_m : bM k m om h) : Met l yX9_copies (rx_ws yX9_copies cX9_copies 6 none) (rx_rm 0 0) (va_Pc [.ref (m + 2), .int x1, .ref (m + 1), .int x3, .int x4] (rx_G G k h n)) (va_Qv (fun u => u.2 = n ∧ bM k m y u.1 ∧ rx_fr [(m, 9)] h u.1) (rx_B G k) (rx_A k)) 0 0 (rx_A k) := by
  refine rx_start [(0, .ref (m + 2)), (1, .int x1), (2, .ref (m + 1)), (3, .int x3), (4, .int x4)] rfl (Nat.le_of_ble_eq_true rfl) (by decide) rfl (fun P9 E9 S9 M9 A9 B9 me9 c9 C hname => ?_)
  unfold F_X9_copies_2_1 at hF
  have fr : rx_fr [(m, 9)] h h := rx_fr0
  refine rx_iconst C dX9_copies_0 (0 : Int32) (by decide) ?_
  refine rx_istore C dX9_copies_1 (by decide) [(5, .int ((0 : Int32))), (0, .ref (m + 2)), (1, .int x1), (2, .ref (m + 1)), (3, .int x3), (4, .int x4)] rfl ?_
  have loop2 : ∀ (fu : Nat) (zz : Int32 × ob) (om : ob) (x5 : Int32) (hh : hp), F_X9_copies_2_1_3 x1 x3 x4 fu om x5 = some zz → bM k m om hh → rx_fr [(m, 9)] h hh → (∀ hh : hp, bM k m zz.2 hh → rx_fr [(m, 9)] h hh → rx_W P9 l E9 (rx_rm 0 0) S9 M9 A9 B9 me9 c9 (MQ B9 (va_Qv (fun u => u.2 = n ∧ bM k m y u.1 ∧ rx_fr [(m, 9)] h u.1) (rx_B G k) (rx_A k)) A9 S9 0 0 (rx_A k)) G k 6 0 0 hh n 28 [(0, .ref (m + 2)), (1, .int x1), (2, .ref (m + 1)), (3, .int x3), (4, .int x4), (5, .int zz.1)] []) → rx_W P9 l E9 (rx_rm 0 0) S9 M9 A9 B9 me9 c9 (MQ B9 (va_Qv (fun u => u.2 = n ∧ bM k m y u.1 ∧ rx_fr [(m, 9)] h u.1) (rx_B G k) (rx_A k)) A9 S9 0 0 (rx_A k)) G k 6 0 0 hh n 3 [(0, .ref (m + 2)), (1, .int x1), (2, .ref (m + 1)), (3, .int x3), (4, .int x4), (5, .int x5)] [] := by
    intro fu
    induction fu with
    | zero => intro zz om x5 hh hF b_m fr KK; exact absurd hF (by simp [F_X9_copies_2_1_3])
    | succ fu ih_loop2 =>
      intro zz om x5 hh hF b_m fr KK
      unfold F_X9_copies_2_1_3 at hF
      refine rx_iload C dX9_copies_3 5 rfl ?_
      refine rx_iload C dX9_copies_5 4 rfl ?_
      refine rx_icmp_ge C dX9_copies_7 28 (by decide) (fun c3 => ?_) (fun c3 => ?_)
      · rw [if_pos c3] at hF
        obtain rfl := Option.some.inj hF
        refine rx_sub [0, 1, 2, 3, 4, 5] rfl ?_
        exact KK _ b_m fr
      · rw [if_neg c3] at hF
        refine rx_aload_n C dX9_copies_10 2 rfl ?_
        refine rx_iload_n C dX9_copies_11 3 rfl ?_
        refine rx_iload C dX9_copies_12 5 rfl ?_
        refine rx_iadd C dX9_copies_14 ?_
        refine rx_aload_n C dX9_copies_15 0 rfl ?_
        refine rx_iload_n C dX9_copies_16 1 rfl ?_
        refine rx_iload C dX9_copies_17 5 rfl ?_
        refine rx_iadd C dX9_copies_19 ?_
        replace hF := rx_biE hF; obtain ⟨v4, e_v4, hF⟩ := hF
        refine rx_aldF C dX9_copies_20 b_m.2.2.1 e_v4 ?_
        replace hF := rx_biE hF; obtain ⟨f5, e_f5, hF⟩ := hF
        replace hF := rx_leE hF; obtain ⟨o_m_6, e_o_m_6, hF⟩ := hF
        refine rx_aM1 C dX9_copies_21 b_m e_f5 e_o_m_6 (fun hh c_m ff => ?_)
        replace b_m := c_m
        replace fr := rx_frt fr ff (fun a ha => ⟨ha.1, trivial⟩)
        refine rx_iinc C dX9_copies_22 5 rfl (x5 + 1) rfl (by decide) [(5, .int ((x5 + 1))), (0, .ref (m + 2)), (1, .int x1), (2, .ref (m + 1)), (3, .int x3), (4, .int x4)] rfl ?_
        refine rx_goto C dX9_copies_25 3 (by decide) ?_
        refine rx_sub [1, 2, 3, 4, 5, 0] rfl ?_
        exact ih_loop2 _ _ _ _ hF b_m fr KK
  refine rx_sub [1, 2, 3, 4, 5, 0] rfl ?_
  replace hF := rx_biE hF; obtain ⟨zl7, e_zl7, hF⟩ := hF
  refine loop2 _ zl7 _ _ _ e_zl7 b_m fr (fun hh b_m fr => ?_)
  obtain rfl := Option.some.inj hF
  exact rx_vret C dX9_copies_28 (Nat.le_refl _) (Nat.le_refl _) ⟨rfl, b_m, fr⟩
def F_X9_copies_1_3_3 (x1 : Int32) (x3 : Int32) (x4 : Int32) : Nat → ob → Int32 → Option (Int32 × ob)
  | 0, _, _ => none
  | fu + 1, om, x5 => if x4 ≤ x5 then (some (x5, om)) else ((rx_ald 144 (om.2 1) ((x1 + x5))).bind fun v4 => (rx_ast 144 (om.2 3) ((x3 + x5)) v4).bind fun f5 => rx_le (om.1, va_up om.2 3 f5) fun o_m_6 => F_X9_copies_1_3_3 x1 x3 x4 fu o_m_6 ((x5 + 1)))
def F_X9_copies_1_3 (om : ob) (x1 : Int32) (x3 : Int32) (x4 : Int32) : Option (ob) := (F_X9_copies_1_3_3 x1 x3 x4 100000 om ((0 : Int32))).bind fun zl7 => some zl7.2
set_option maxRecDepth 100000 in
set_option maxHeartbeats 4000000 in
theorem w_X9_copies_1_3 {m : Nat} {om : ob} {x1 : Int32} {x3 : Int32} {x4 : Int32} {y : ob} (hF : F_X9_copies_1_3 om x1 x3 x4 = some y) (b_m : bM k m om h) : Met l yX9_copies (rx_ws yX9_copies cX9_copies 6 none) (rx_rm 0 0) (va_Pc [.ref (m + 1), .int x1, .ref (m + 3), .int x3, .int x4] (rx_G G k h n)) (va_Qv (fun u => u.2 = n ∧ bM k m y u.1 ∧ rx_fr [(m, 9)] h u.1) (rx_B G k) (rx_A k)) 0 0 (rx_A k) := by
  refine rx_start [(0, .ref (m + 1)), (1, .int x1), (2, .ref (m + 3)), (3, .int x3), (4, .int x4)] rfl (Nat.le_of_ble_eq_true rfl) (by decide) rfl (fun P9 E9 S9 M9 A9 B9 me9 c9 C hname => ?_)
  unfold F_X9_copies_1_3 at hF
  have fr : rx_fr [(m, 9)] h h := rx_fr0
  refine rx_iconst C dX9_copies_0 (0 : Int32) (by decide) ?_
  refine rx_istore C dX9_copies_1 (by decide) [(5, .int ((0 : Int32))), (0, .ref (m + 1)), (1, .int x1), (2, .ref (m + 3)), (3, .int x3), (4, .int x4)] rfl ?_
  have loop2 : ∀ (fu : Nat) (zz : Int32 × ob) (om : ob) (x5 : Int32) (hh : hp), F_X9_copies_1_3_3 x1 x3 x4 fu om x5 = some zz → bM k m om hh → rx_fr [(m, 9)] h hh → (∀ hh : hp, bM k m zz.2 hh → rx_fr [(m, 9)] h hh → rx_W P9 l E9 (rx_rm 0 0) S9 M9 A9 B9 me9 c9 (MQ B9 (va_Qv (fun u => u.2 = n ∧ bM k m y u.1 ∧ rx_fr [(m, 9)] h u.1) (rx_B G k) (rx_A k)) A9 S9 0 0 (rx_A k)) G k 6 0 0 hh n 28 [(0, .ref (m + 1)), (1, .int x1), (2, .ref (m + 3)), (3, .int x3), (4, .int x4), (5, .int zz.1)] []) → rx_W P9 l E9 (rx_rm 0 0) S9 M9 A9 B9 me9 c9 (MQ B9 (va_Qv (fun u => u.2 = n ∧ bM k m y u.1 ∧ rx_fr [(m, 9)] h u.1) (rx_B G k) (rx_A k)) A9 S9 0 0 (rx_A k)) G k 6 0 0 hh n 3 [(0, .ref (m + 1)), (1, .int x1), (2, .ref (m + 3)), (3, .int x3), (4, .int x4), (5, .int x5)] [] := by
    intro fu
    induction fu with
    | zero => intro zz om x5 hh hF b_m fr KK; exact absurd hF (by simp [F_X9_copies_1_3_3])
    | succ fu ih_loop2 =>
      intro zz om x5 hh hF b_m fr KK
      unfold F_X9_copies_1_3_3 at hF
      refine rx_iload C dX9_copies_3 5 rfl ?_
      refine rx_iload C dX9_copies_5 4 rfl ?_
      refine rx_icmp_ge C dX9_copies_7 28 (by decide) (fun c3 => ?_) (fun c3 => ?_)
      · rw [if_pos c3] at hF
        obtain rfl := Option.some.inj hF
        refine rx_sub [0, 1, 2, 3, 4, 5] rfl ?_
        exact KK _ b_m fr
      · rw [if_neg c3] at hF
        refine rx_aload_n C dX9_copies_10 2 rfl ?_
        refine rx_iload_n C dX9_copies_11 3 rfl ?_
        refine rx_iload C dX9_copies_12 5 rfl ?_
        refine rx_iadd C dX9_copies_14 ?_
        refine rx_aload_n C dX9_copies_15 0 rfl ?_
        refine rx_iload_n C dX9_copies_16 1 rfl ?_
        refine rx_iload C dX9_copies_17 5 rfl ?_
        refine rx_iadd C dX9_copies_19 ?_
        replace hF := rx_biE hF; obtain ⟨v4, e_v4, hF⟩ := hF
        refine rx_aldF C dX9_copies_20 b_m.2.1 e_v4 ?_
        replace hF := rx_biE hF; obtain ⟨f5, e_f5, hF⟩ := hF
        replace hF := rx_leE hF; obtain ⟨o_m_6, e_o_m_6, hF⟩ := hF
        refine rx_aM3 C dX9_copies_21 b_m e_f5 e_o_m_6 (fun hh c_m ff => ?_)
        replace b_m := c_m
        replace fr := rx_frt fr ff (fun a ha => ⟨ha.1, trivial⟩)
        refine rx_iinc C dX9_copies_22 5 rfl (x5 + 1) rfl (by decide) [(5, .int ((x5 + 1))), (0, .ref (m + 1)), (1, .int x1), (2, .ref (m + 3)), (3, .int x3), (4, .int x4)] rfl ?_
        refine rx_goto C dX9_copies_25 3 (by decide) ?_
        refine rx_sub [1, 2, 3, 4, 5, 0] rfl ?_
        exact ih_loop2 _ _ _ _ hF b_m fr KK
  refine rx_sub [1, 2, 3, 4, 5, 0] rfl ?_
  replace hF := rx_biE hF; obtain ⟨zl7, e_zl7, hF⟩ := hF
  refine loop2 _ zl7 _ _ _ e_zl7 b_m fr (fun hh b_m fr => ?_)
  obtain rfl := Option.some.inj hF
  exact rx_vret C dX9_copies_28 (Nat.le_refl _) (Nat.le_refl _) ⟨rfl, b_m, fr⟩
def F_X9_copies_3_1_3 (x1 : Int32) (x3 : Int32) (x4 : Int32) : Nat → ob → Int32 → Option (Int32 × ob)
  | 0, _, _ => none
  | fu + 1, om, x5 => if x4 ≤ x5 then (some (x5, om)) else ((rx_ald 144 (om.2 3) ((x1 + x5))).bind fun v4 => (rx_ast 144 (om.2 1) ((x3 + x5)) v4).bind fun f5 => rx_le (om.1, va_up om.2 1 f5) fun o_m_6 => F_X9_copies_3_1_3 x1 x3 x4 fu o_m_6 ((x5 + 1)))
def F_X9_copies_3_1 (om : ob) (x1 : Int32) (x3 : Int32) (x4 : Int32) : Option (ob) := (F_X9_copies_3_1_3 x1 x3 x4 100000 om ((0 : Int32))).bind fun zl7 => some zl7.2
set_option maxRecDepth 100000 in
set_option maxHeartbeats 4000000 in
theorem w_X9_copies_3_1 {m : Nat} {om : ob} {x1 : Int32} {x3 : Int32} {x4 : Int32} {y : ob} (hF : F_X9_copies_3_1 om x1 x3 x4 = some y) (b_m : bM k m om h) : Met l yX9_copies (rx_ws yX9_copies cX9_copies 6 none) (rx_rm 0 0) (va_Pc [.ref (m + 3), .int x1, .ref (m + 1), .int x3, .int x4] (rx_G G k h n)) (va_Qv (fun u => u.2 = n ∧ bM k m y u.1 ∧ rx_fr [(m, 9)] h u.1) (rx_B G k) (rx_A k)) 0 0 (rx_A k) := by
  refine rx_start [(0, .ref (m + 3)), (1, .int x1), (2, .ref (m + 1)), (3, .int x3), (4, .int x4)] rfl (Nat.le_of_ble_eq_true rfl) (by decide) rfl (fun P9 E9 S9 M9 A9 B9 me9 c9 C hname => ?_)
  unfold F_X9_copies_3_1 at hF
  have fr : rx_fr [(m, 9)] h h := rx_fr0
  refine rx_iconst C dX9_copies_0 (0 : Int32) (by decide) ?_
  refine rx_istore C dX9_copies_1 (by decide) [(5, .int ((0 : Int32))), (0, .ref (m + 3)), (1, .int x1), (2, .ref (m + 1)), (3, .int x3), (4, .int x4)] rfl ?_
  have loop2 : ∀ (fu : Nat) (zz : Int32 × ob) (om : ob) (x5 : Int32) (hh : hp), F_X9_copies_3_1_3 x1 x3 x4 fu om x5 = some zz → bM k m om hh → rx_fr [(m, 9)] h hh → (∀ hh : hp, bM k m zz.2 hh → rx_fr [(m, 9)] h hh → rx_W P9 l E9 (rx_rm 0 0) S9 M9 A9 B9 me9 c9 (MQ B9 (va_Qv (fun u => u.2 = n ∧ bM k m y u.1 ∧ rx_fr [(m, 9)] h u.1) (rx_B G k) (rx_A k)) A9 S9 0 0 (rx_A k)) G k 6 0 0 hh n 28 [(0, .ref (m + 3)), (1, .int x1), (2, .ref (m + 1)), (3, .int x3), (4, .int x4), (5, .int zz.1)] []) → rx_W P9 l E9 (rx_rm 0 0) S9 M9 A9 B9 me9 c9 (MQ B9 (va_Qv (fun u => u.2 = n ∧ bM k m y u.1 ∧ rx_fr [(m, 9)] h u.1) (rx_B G k) (rx_A k)) A9 S9 0 0 (rx_A k)) G k 6 0 0 hh n 3 [(0, .ref (m + 3)), (1, .int x1), (2, .ref (m + 1)), (3, .int x3), (4, .int x4), (5, .int x5)] [] := by
    intro fu
    induction fu with
    | zero => intro zz om x5 hh hF b_m fr KK; exact absurd hF (by simp [F_X9_copies_3_1_3])
    | succ fu ih_loop2 =>
      intro zz om x5 hh hF b_m fr KK
      unfold F_X9_copies_3_1_3 at hF
      refine rx_iload C dX9_copies_3 5 rfl ?_
      refine rx_iload C dX9_copies_5 4 rfl ?_
      refine rx_icmp_ge C dX9_copies_7 28 (by decide) (fun c3 => ?_) (fun c3 => ?_)
      · rw [if_pos c3] at hF
        obtain rfl := Option.some.inj hF
        refine rx_sub [0, 1, 2, 3, 4, 5] rfl ?_
        exact KK _ b_m fr
      · rw [if_neg c3] at hF
        refine rx_aload_n C dX9_copies_10 2 rfl ?_
        refine rx_iload_n C dX9_copies_11 3 rfl ?_
        refine rx_iload C dX9_copies_12 5 rfl ?_
        refine rx_iadd C dX9_copies_14 ?_
        refine rx_aload_n C dX9_copies_15 0 rfl ?_
        refine rx_iload_n C dX9_copies_16 1 rfl ?_
        refine rx_iload C dX9_copies_17 5 rfl ?_
        refine rx_iadd C dX9_copies_19 ?_
        replace hF := rx_biE hF; obtain ⟨v4, e_v4, hF⟩ := hF
        refine rx_aldF C dX9_copies_20 b_m.2.2.2.1 e_v4 ?_
        replace hF := rx_biE hF; obtain ⟨f5, e_f5, hF⟩ := hF
        replace hF := rx_leE hF; obtain ⟨o_m_6, e_o_m_6, hF⟩ := hF
        refine rx_aM1 C dX9_copies_21 b_m e_f5 e_o_m_6 (fun hh c_m ff => ?_)
        replace b_m := c_m
        replace fr := rx_frt fr ff (fun a ha => ⟨ha.1, trivial⟩)
        refine rx_iinc C dX9_copies_22 5 rfl (x5 + 1) rfl (by decide) [(5, .int ((x5 + 1))), (0, .ref (m + 3)), (1, .int x1), (2, .ref (m + 1)), (3, .int x3), (4, .int x4)] rfl ?_
        refine rx_goto C dX9_copies_25 3 (by decide) ?_
        refine rx_sub [1, 2, 3, 4, 5, 0] rfl ?_
        exact ih_loop2 _ _ _ _ hF b_m fr KK
  refine rx_sub [1, 2, 3, 4, 5, 0] rfl ?_
  replace hF := rx_biE hF; obtain ⟨zl7, e_zl7, hF⟩ := hF
  refine loop2 _ zl7 _ _ _ e_zl7 b_m fr (fun hh b_m fr => ?_)
  obtain rfl := Option.some.inj hF
  exact rx_vret C dX9_copies_28 (Nat.le_refl _) (Nat.le_refl _) ⟨rfl, b_m, fr⟩
def F_X9_copies_1_4_3 (x1 : Int32) (x3 : Int32) (x4 : Int32) : Nat → ob → Int32 → Option (Int32 × ob)
  | 0, _, _ => none
  | fu + 1, om, x5 => if x4 ≤ x5 then (some (x5, om)) else ((rx_ald 144 (om.2 1) ((x1 + x5))).bind fun v4 => (rx_ast 144 (om.2 4) ((x3 + x5)) v4).bind fun f5 => rx_le (om.1, va_up om.2 4 f5) fun o_m_6 => F_X9_copies_1_4_3 x1 x3 x4 fu o_m_6 ((x5 + 1)))
def F_X9_copies_1_4 (om : ob) (x1 : Int32) (x3 : Int32) (x4 : Int32) : Option (ob) := (F_X9_copies_1_4_3 x1 x3 x4 100000 om ((0 : Int32))).bind fun zl7 => some zl7.2
set_option maxRecDepth 100000 in
set_option maxHeartbeats 4000000 in
theorem w_X9_copies_1_4 {m : Nat} {om : ob} {x1 : Int32} {x3 : Int32} {x4 : Int32} {y : ob} (hF : F_X9_copies_1_4 om x1 x3 x4 = some y) (b_m : bM k m om h) : Met l yX9_copies (rx_ws yX9_copies cX9_copies 6 none) (rx_rm 0 0) (va_Pc [.ref (m + 1), .int x1, .ref (m + 4), .int x3, .int x4] (rx_G G k h n)) (va_Qv (fun u => u.2 = n ∧ bM k m y u.1 ∧ rx_fr [(m, 9)] h u.1) (rx_B G k) (rx_A k)) 0 0 (rx_A k) := by
  refine rx_start [(0, .ref (m + 1)), (1, .int x1), (2, .ref (m + 4)), (3, .int x3), (4, .int x4)] rfl (Nat.le_of_ble_eq_true rfl) (by decide) rfl (fun P9 E9 S9 M9 A9 B9 me9 c9 C hname => ?_)
  unfold F_X9_copies_1_4 at hF
  have fr : rx_fr [(m, 9)] h h := rx_fr0
  refine rx_iconst C dX9_copies_0 (0 : Int32) (by decide) ?_
  refine rx_istore C dX9_copies_1 (by decide) [(5, .int ((0 : Int32))), (0, .ref (m + 1)), (1, .int x1), (2, .ref (m + 4)), (3, .int x3), (4, .int x4)] rfl ?_
  have loop2 : ∀ (fu : Nat) (zz : Int32 × ob) (om : ob) (x5 : Int32) (hh : hp), F_X9_copies_1_4_3 x1 x3 x4 fu om x5 = some zz → bM k m om hh → rx_fr [(m, 9)] h hh → (∀ hh : hp, bM k m zz.2 hh → rx_fr [(m, 9)] h hh → rx_W P9 l E9 (rx_rm 0 0) S9 M9 A9 B9 me9 c9 (MQ B9 (va_Qv (fun u => u.2 = n ∧ bM k m y u.1 ∧ rx_fr [(m, 9)] h u.1) (rx_B G k) (rx_A k)) A9 S9 0 0 (rx_A k)) G k 6 0 0 hh n 28 [(0, .ref (m + 1)), (1, .int x1), (2, .ref (m + 4)), (3, .int x3), (4, .int x4), (5, .int zz.1)] []) → rx_W P9 l E9 (rx_rm 0 0) S9 M9 A9 B9 me9 c9 (MQ B9 (va_Qv (fun u => u.2 = n ∧ bM k m y u.1 ∧ rx_fr [(m, 9)] h u.1) (rx_B G k) (rx_A k)) A9 S9 0 0 (rx_A k)) G k 6 0 0 hh n 3 [(0, .ref (m + 1)), (1, .int x1), (2, .ref (m + 4)), (3, .int x3), (4, .int x4), (5, .int x5)] [] := by
    intro fu
    induction fu with
    | zero => intro zz om x5 hh hF b_m fr KK; exact absurd hF (by simp [F_X9_copies_1_4_3])
    | succ fu ih_loop2 =>
      intro zz om x5 hh hF b_m fr KK
      unfold F_X9_copies_1_4_3 at hF
      refine rx_iload C dX9_copies_3 5 rfl ?_
      refine rx_iload C dX9_copies_5 4 rfl ?_
      refine rx_icmp_ge C dX9_copies_7 28 (by decide) (fun c3 => ?_) (fun c3 => ?_)
      · rw [if_pos c3] at hF
        obtain rfl := Option.some.inj hF
        refine rx_sub [0, 1, 2, 3, 4, 5] rfl ?_
        exact KK _ b_m fr
      · rw [if_neg c3] at hF
        refine rx_aload_n C dX9_copies_10 2 rfl ?_
        refine rx_iload_n C dX9_copies_11 3 rfl ?_
        refine rx_iload C dX9_copies_12 5 rfl ?_
        refine rx_iadd C dX9_copies_14 ?_
        refine rx_aload_n C dX9_copies_15 0 rfl ?_
        refine rx_iload_n C dX9_copies_16 1 rfl ?_
        refine rx_iload C dX9_copies_17 5 rfl ?_
        refine rx_iadd C dX9_copies_19 ?_
        replace hF := rx_biE hF; obtain ⟨v4, e_v4, hF⟩ := hF
        refine rx_aldF C dX9_copies_20 b_m.2.1 e_v4 ?_
        replace hF := rx_biE hF; obtain ⟨f5, e_f5, hF⟩ := hF
        replace hF := rx_leE hF; obtain ⟨o_m_6, e_o_m_6, hF⟩ := hF
        refine rx_aM4 C dX9_copies_21 b_m e_f5 e_o_m_6 (fun hh c_m ff => ?_)
        replace b_m := c_m
        replace fr := rx_frt fr ff (fun a ha => ⟨ha.1, trivial⟩)
        refine rx_iinc C dX9_copies_22 5 rfl (x5 + 1) rfl (by decide) [(5, .int ((x5 + 1))), (0, .ref (m + 1)), (1, .int x1), (2, .ref (m + 4)), (3, .int x3), (4, .int x4)] rfl ?_
        refine rx_goto C dX9_copies_25 3 (by decide) ?_
        refine rx_sub [1, 2, 3, 4, 5, 0] rfl ?_
        exact ih_loop2 _ _ _ _ hF b_m fr KK
  refine rx_sub [1, 2, 3, 4, 5, 0] rfl ?_
  replace hF := rx_biE hF; obtain ⟨zl7, e_zl7, hF⟩ := hF
  refine loop2 _ zl7 _ _ _ e_zl7 b_m fr (fun hh b_m fr => ?_)
  obtain rfl := Option.some.inj hF
  exact rx_vret C dX9_copies_28 (Nat.le_refl _) (Nat.le_refl _) ⟨rfl, b_m, fr⟩
def F_X9_copies_4_1_3 (x1 : Int32) (x3 : Int32) (x4 : Int32) : Nat → ob → Int32 → Option (Int32 × ob)
  | 0, _, _ => none
  | fu + 1, om, x5 => if x4 ≤ x5 then (some (x5, om)) else ((rx_ald 144 (om.2 4) ((x1 + x5))).bind fun v4 => (rx_ast 144 (om.2 1) ((x3 + x5)) v4).bind fun f5 => rx_le (om.1, va_up om.2 1 f5) fun o_m_6 => F_X9_copies_4_1_3 x1 x3 x4 fu o_m_6 ((x5 + 1)))
def F_X9_copies_4_1 (om : ob) (x1 : Int32) (x3 : Int32) (x4 : Int32) : Option (ob) := (F_X9_copies_4_1_3 x1 x3 x4 100000 om ((0 : Int32))).bind fun zl7 => some zl7.2
set_option maxRecDepth 100000 in
set_option maxHeartbeats 4000000 in
theorem w_X9_copies_4_1 {m : Nat} {om : ob} {x1 : Int32} {x3 : Int32} {x4 : Int32} {y : ob} (hF : F_X9_copies_4_1 om x1 x3 x4 = some y) (b_m : bM k m om h) : Met l yX9_copies (rx_ws yX9_copies cX9_copies 6 none) (rx_rm 0 0) (va_Pc [.ref (m + 4), .int x1, .ref (m + 1), .int x3, .int x4] (rx_G G k h n)) (va_Qv (fun u => u.2 = n ∧ bM k m y u.1 ∧ rx_fr [(m, 9)] h u.1) (rx_B G k) (rx_A k)) 0 0 (rx_A k) := by
  refine rx_start [(0, .ref (m + 4)), (1, .int x1), (2, .ref (m + 1)), (3, .int x3), (4, .int x4)] rfl (Nat.le_of_ble_eq_true rfl) (by decide) rfl (fun P9 E9 S9 M9 A9 B9 me9 c9 C hname => ?_)
  unfold F_X9_copies_4_1 at hF
  have fr : rx_fr [(m, 9)] h h := rx_fr0
  refine rx_iconst C dX9_copies_0 (0 : Int32) (by decide) ?_
  refine rx_istore C dX9_copies_1 (by decide) [(5, .int ((0 : Int32))), (0, .ref (m + 4)), (1, .int x1), (2, .ref (m + 1)), (3, .int x3), (4, .int x4)] rfl ?_
  have loop2 : ∀ (fu : Nat) (zz : Int32 × ob) (om : ob) (x5 : Int32) (hh : hp), F_X9_copies_4_1_3 x1 x3 x4 fu om x5 = some zz → bM k m om hh → rx_fr [(m, 9)] h hh → (∀ hh : hp, bM k m zz.2 hh → rx_fr [(m, 9)] h hh → rx_W P9 l E9 (rx_rm 0 0) S9 M9 A9 B9 me9 c9 (MQ B9 (va_Qv (fun u => u.2 = n ∧ bM k m y u.1 ∧ rx_fr [(m, 9)] h u.1) (rx_B G k) (rx_A k)) A9 S9 0 0 (rx_A k)) G k 6 0 0 hh n 28 [(0, .ref (m + 4)), (1, .int x1), (2, .ref (m + 1)), (3, .int x3), (4, .int x4), (5, .int zz.1)] []) → rx_W P9 l E9 (rx_rm 0 0) S9 M9 A9 B9 me9 c9 (MQ B9 (va_Qv (fun u => u.2 = n ∧ bM k m y u.1 ∧ rx_fr [(m, 9)] h u.1) (rx_B G k) (rx_A k)) A9 S9 0 0 (rx_A k)) G k 6 0 0 hh n 3 [(0, .ref (m + 4)), (1, .int x1), (2, .ref (m + 1)), (3, .int x3), (4, .int x4), (5, .int x5)] [] := by
    intro fu
    induction fu with
    | zero => intro zz om x5 hh hF b_m fr KK; exact absurd hF (by simp [F_X9_copies_4_1_3])
    | succ fu ih_loop2 =>
      intro zz om x5 hh hF b_m fr KK
      unfold F_X9_copies_4_1_3 at hF
      refine rx_iload C dX9_copies_3 5 rfl ?_
      refine rx_iload C dX9_copies_5 4 rfl ?_
      refine rx_icmp_ge C dX9_copies_7 28 (by decide) (fun c3 => ?_) (fun c3 => ?_)
      · rw [if_pos c3] at hF
        obtain rfl := Option.some.inj hF
        refine rx_sub [0, 1, 2, 3, 4, 5] rfl ?_
        exact KK _ b_m fr
      · rw [if_neg c3] at hF
        refine rx_aload_n C dX9_copies_10 2 rfl ?_
        refine rx_iload_n C dX9_copies_11 3 rfl ?_
        refine rx_iload C dX9_copies_12 5 rfl ?_
        refine rx_iadd C dX9_copies_14 ?_
        refine rx_aload_n C dX9_copies_15 0 rfl ?_
        refine rx_iload_n C dX9_copies_16 1 rfl ?_
        refine rx_iload C dX9_copies_17 5 rfl ?_
        refine rx_iadd C dX9_copies_19 ?_
        replace hF := rx_biE hF; obtain ⟨v4, e_v4, hF⟩ := hF
        refine rx_aldF C dX9_copies_20 b_m.2.2.2.2.1 e_v4 ?_
        replace hF := rx_biE hF; obtain ⟨f5, e_f5, hF⟩ := hF
        replace hF := rx_leE hF; obtain ⟨o_m_6, e_o_m_6, hF⟩ := hF
        refine rx_aM1 C dX9_copies_21 b_m e_f5 e_o_m_6 (fun hh c_m ff => ?_)
        replace b_m := c_m
        replace fr := rx_frt fr ff (fun a ha => ⟨ha.1, trivial⟩)
        refine rx_iinc C dX9_copies_22 5 rfl (x5 + 1) rfl (by decide) [(5, .int ((x5 + 1))), (0, .ref (m + 4)), (1, .int x1), (2, .ref (m + 1)), (3, .int x3), (4, .int x4)] rfl ?_
        refine rx_goto C dX9_copies_25 3 (by decide) ?_
        refine rx_sub [1, 2, 3, 4, 5, 0] rfl ?_
        exact ih_loop2 _ _ _ _ hF b_m fr KK
  refine rx_sub [1, 2, 3, 4, 5, 0] rfl ?_
  replace hF := rx_biE hF; obtain ⟨zl7, e_zl7, hF⟩ := hF
  refine loop2 _ zl7 _ _ _ e_zl7 b_m fr (fun hh b_m fr => ?_)
  obtain rfl := Option.some.inj hF
  exact rx_vret C dX9_copies_28 (Nat.le_refl _) (Nat.le_refl _) ⟨rfl, b_m, fr⟩
def F_X9_copies_5_5_3 (x1 : Int32) (x3 : Int32) (x4 : Int32) : Nat → ob → Int32 → Option (Int32 × ob)
  | 0, _, _ => none
  | fu + 1, om, x5 => if x4 ≤ x5 then (some (x5, om)) else ((rx_ald 1152 (om.2 5) ((x1 + x5))).bind fun v4 => (rx_ast 1152 (om.2 5) ((x3 + x5)) v4).bind fun f5 => rx_le (om.1, va_up om.2 5 f5) fun o_m_6 => F_X9_copies_5_5_3 x1 x3 x4 fu o_m_6 ((x5 + 1)))
def F_X9_copies_5_5 (om : ob) (x1 : Int32) (x3 : Int32) (x4 : Int32) : Option (ob) := (F_X9_copies_5_5_3 x1 x3 x4 100000 om ((0 : Int32))).bind fun zl7 => some zl7.2
set_option maxRecDepth 100000 in
set_option maxHeartbeats 4000000 in
theorem w_X9_copies_5_5 {m : Nat} {om : ob} {x1 : Int32} {x3 : Int32} {x4 : Int32} {y : ob} (hF : F_X9_copies_5_5 om x1 x3 x4 = some y) (b_m : bM k m om h) : Met l yX9_copies (rx_ws yX9_copies cX9_copies 6 none) (rx_rm 0 0) (va_Pc [.ref (m + 5), .int x1, .ref (m + 5), .int x3, .int x4] (rx_G G k h n)) (va_Qv (fun u => u.2 = n ∧ bM k m y u.1 ∧ rx_fr [(m, 9)] h u.1) (rx_B G k) (rx_A k)) 0 0 (rx_A k) := by
  refine rx_start [(0, .ref (m + 5)), (1, .int x1), (2, .ref (m + 5)), (3, .int x3), (4, .int x4)] rfl (Nat.le_of_ble_eq_true rfl) (by decide) rfl (fun P9 E9 S9 M9 A9 B9 me9 c9 C hname => ?_)
  unfold F_X9_copies_5_5 at hF
  have fr : rx_fr [(m, 9)] h h := rx_fr0
  refine rx_iconst C dX9_copies_0 (0 : Int32) (by decide) ?_
  refine rx_istore C dX9_copies_1 (by decide) [(5, .int ((0 : Int32))), (0, .ref (m + 5)), (1, .int x1), (2, .ref (m + 5)), (3, .int x3), (4, .int x4)] rfl ?_
  have loop2 : ∀ (fu : Nat) (zz : Int32 × ob) (om : ob) (x5 : Int32) (hh : hp), F_X9_copies_5_5_3 x1 x3 x4 fu om x5 = some zz → bM k m om hh → rx_fr [(m, 9)] h hh → (∀ hh : hp, bM k m zz.2 hh → rx_fr [(m, 9)] h hh → rx_W P9 l E9 (rx_rm 0 0) S9 M9 A9 B9 me9 c9 (MQ B9 (va_Qv (fun u => u.2 = n ∧ bM k m y u.1 ∧ rx_fr [(m, 9)] h u.1) (rx_B G k) (rx_A k)) A9 S9 0 0 (rx_A k)) G k 6 0 0 hh n 28 [(0, .ref (m + 5)), (1, .int x1), (2, .ref (m + 5)), (3, .int x3), (4, .int x4), (5, .int zz.1)] []) → rx_W P9 l E9 (rx_rm 0 0) S9 M9 A9 B9 me9 c9 (MQ B9 (va_Qv (fun u => u.2 = n ∧ bM k m y u.1 ∧ rx_fr [(m, 9)] h u.1) (rx_B G k) (rx_A k)) A9 S9 0 0 (rx_A k)) G k 6 0 0 hh n 3 [(0, .ref (m + 5)), (1, .int x1), (2, .ref (m + 5)), (3, .int x3), (4, .int x4), (5, .int x5)] [] := by
    intro fu
    induction fu with
    | zero => intro zz om x5 hh hF b_m fr KK; exact absurd hF (by simp [F_X9_copies_5_5_3])
    | succ fu ih_loop2 =>
      intro zz om x5 hh hF b_m fr KK
      unfold F_X9_copies_5_5_3 at hF
      refine rx_iload C dX9_copies_3 5 rfl ?_
      refine rx_iload C dX9_copies_5 4 rfl ?_
      refine rx_icmp_ge C dX9_copies_7 28 (by decide) (fun c3 => ?_) (fun c3 => ?_)
      · rw [if_pos c3] at hF
        obtain rfl := Option.some.inj hF
        refine rx_sub [0, 1, 2, 3, 4, 5] rfl ?_
        exact KK _ b_m fr
      · rw [if_neg c3] at hF
        refine rx_aload_n C dX9_copies_10 2 rfl ?_
        refine rx_iload_n C dX9_copies_11 3 rfl ?_
        refine rx_iload C dX9_copies_12 5 rfl ?_
        refine rx_iadd C dX9_copies_14 ?_
        refine rx_aload_n C dX9_copies_15 0 rfl ?_
        refine rx_iload_n C dX9_copies_16 1 rfl ?_
        refine rx_iload C dX9_copies_17 5 rfl ?_
        refine rx_iadd C dX9_copies_19 ?_
        replace hF := rx_biE hF; obtain ⟨v4, e_v4, hF⟩ := hF
        refine rx_aldF C dX9_copies_20 b_m.2.2.2.2.2.1 e_v4 ?_
        replace hF := rx_biE hF; obtain ⟨f5, e_f5, hF⟩ := hF
        replace hF := rx_leE hF; obtain ⟨o_m_6, e_o_m_6, hF⟩ := hF
        refine rx_aM5 C dX9_copies_21 b_m e_f5 e_o_m_6 (fun hh c_m ff => ?_)
        replace b_m := c_m
        replace fr := rx_frt fr ff (fun a ha => ⟨ha.1, trivial⟩)
        refine rx_iinc C dX9_copies_22 5 rfl (x5 + 1) rfl (by decide) [(5, .int ((x5 + 1))), (0, .ref (m + 5)), (1, .int x1), (2, .ref (m + 5)), (3, .int x3), (4, .int x4)] rfl ?_
        refine rx_goto C dX9_copies_25 3 (by decide) ?_
        refine rx_sub [1, 2, 3, 4, 5, 0] rfl ?_
        exact ih_loop2 _ _ _ _ hF b_m fr KK
  refine rx_sub [1, 2, 3, 4, 5, 0] rfl ?_
  replace hF := rx_biE hF; obtain ⟨zl7, e_zl7, hF⟩ := hF
  refine loop2 _ zl7 _ _ _ e_zl7 b_m fr (fun hh b_m fr => ?_)
  obtain rfl := Option.some.inj hF
  exact rx_vret C dX9_copies_28 (Nat.le_refl _) (Nat.le_refl _) ⟨rfl, b_m, fr⟩
def F_X9_copies_1_5_3 (x1 : Int32) (x3 : Int32) (x4 : Int32) : Nat → ob → Int32 → Option (Int32 × ob)
  | 0, _, _ => none
  | fu + 1, om, x5 => if x4 ≤ x5 then (some (x5, om)) else ((rx_ald 144 (om.2 1) ((x1 + x5))).bind fun v4 => (rx_ast 1152 (om.2 5) ((x3 + x5)) v4).bind fun f5 => rx_le (om.1, va_up om.2 5 f5) fun o_m_6 => F_X9_copies_1_5_3 x1 x3 x4 fu o_m_6 ((x5 + 1)))
def F_X9_copies_1_5 (om : ob) (x1 : Int32) (x3 : Int32) (x4 : Int32) : Option (ob) := (F_X9_copies_1_5_3 x1 x3 x4 100000 om ((0 : Int32))).bind fun zl7 => some zl7.2
set_option maxRecDepth 100000 in
set_option maxHeartbeats 4000000 in
theorem w_X9_copies_1_5 {m : Nat} {om : ob} {x1 : Int32} {x3 : Int32} {x4 : Int32} {y : ob} (hF : F_X9_copies_1_5 om x1 x3 x4 = some y) (b_m : bM k m om h) : Met l yX9_copies (rx_ws yX9_copies cX9_copies 6 none) (rx_rm 0 0) (va_Pc [.ref (m + 1), .int x1, .ref (m + 5), .int x3, .int x4] (rx_G G k h n)) (va_Qv (fun u => u.2 = n ∧ bM k m y u.1 ∧ rx_fr [(m, 9)] h u.1) (rx_B G k) (rx_A k)) 0 0 (rx_A k) := by
  refine rx_start [(0, .ref (m + 1)), (1, .int x1), (2, .ref (m + 5)), (3, .int x3), (4, .int x4)] rfl (Nat.le_of_ble_eq_true rfl) (by decide) rfl (fun P9 E9 S9 M9 A9 B9 me9 c9 C hname => ?_)
  unfold F_X9_copies_1_5 at hF
  have fr : rx_fr [(m, 9)] h h := rx_fr0
  refine rx_iconst C dX9_copies_0 (0 : Int32) (by decide) ?_
  refine rx_istore C dX9_copies_1 (by decide) [(5, .int ((0 : Int32))), (0, .ref (m + 1)), (1, .int x1), (2, .ref (m + 5)), (3, .int x3), (4, .int x4)] rfl ?_
  have loop2 : ∀ (fu : Nat) (zz : Int32 × ob) (om : ob) (x5 : Int32) (hh : hp), F_X9_copies_1_5_3 x1 x3 x4 fu om x5 = some zz → bM k m om hh → rx_fr [(m, 9)] h hh → (∀ hh : hp, bM k m zz.2 hh → rx_fr [(m, 9)] h hh → rx_W P9 l E9 (rx_rm 0 0) S9 M9 A9 B9 me9 c9 (MQ B9 (va_Qv (fun u => u.2 = n ∧ bM k m y u.1 ∧ rx_fr [(m, 9)] h u.1) (rx_B G k) (rx_A k)) A9 S9 0 0 (rx_A k)) G k 6 0 0 hh n 28 [(0, .ref (m + 1)), (1, .int x1), (2, .ref (m + 5)), (3, .int x3), (4, .int x4), (5, .int zz.1)] []) → rx_W P9 l E9 (rx_rm 0 0) S9 M9 A9 B9 me9 c9 (MQ B9 (va_Qv (fun u => u.2 = n ∧ bM k m y u.1 ∧ rx_fr [(m, 9)] h u.1) (rx_B G k) (rx_A k)) A9 S9 0 0 (rx_A k)) G k 6 0 0 hh n 3 [(0, .ref (m + 1)), (1, .int x1), (2, .ref (m + 5)), (3, .int x3), (4, .int x4), (5, .int x5)] [] := by
    intro fu
    induction fu with
    | zero => intro zz om x5 hh hF b_m fr KK; exact absurd hF (by simp [F_X9_copies_1_5_3])
    | succ fu ih_loop2 =>
      intro zz om x5 hh hF b_m fr KK
      unfold F_X9_copies_1_5_3 at hF
      refine rx_iload C dX9_copies_3 5 rfl ?_
      refine rx_iload C dX9_copies_5 4 rfl ?_
      refine rx_icmp_ge C dX9_copies_7 28 (by decide) (fun c3 => ?_) (fun c3 => ?_)
      · rw [if_pos c3] at hF
        obtain rfl := Option.some.inj hF
        refine rx_sub [0, 1, 2, 3, 4, 5] rfl ?_
        exact KK _ b_m fr
      · rw [if_neg c3] at hF
        refine rx_aload_n C dX9_copies_10 2 rfl ?_
        refine rx_iload_n C dX9_copies_11 3 rfl ?_
        refine rx_iload C dX9_copies_12 5 rfl ?_
        refine rx_iadd C dX9_copies_14 ?_
        refine rx_aload_n C dX9_copies_15 0 rfl ?_
        refine rx_iload_n C dX9_copies_16 1 rfl ?_
        refine rx_iload C dX9_copies_17 5 rfl ?_
        refine rx_iadd C dX9_copies_19 ?_
        replace hF := rx_biE hF; obtain ⟨v4, e_v4, hF⟩ := hF
        refine rx_aldF C dX9_copies_20 b_m.2.1 e_v4 ?_
        replace hF := rx_biE hF; obtain ⟨f5, e_f5, hF⟩ := hF
        replace hF := rx_leE hF; obtain ⟨o_m_6, e_o_m_6, hF⟩ := hF
        refine rx_aM5 C dX9_copies_21 b_m e_f5 e_o_m_6 (fun hh c_m ff => ?_)
        replace b_m := c_m
        replace fr := rx_frt fr ff (fun a ha => ⟨ha.1, trivial⟩)
        refine rx_iinc C dX9_copies_22 5 rfl (x5 + 1) rfl (by decide) [(5, .int ((x5 + 1))), (0, .ref (m + 1)), (1, .int x1), (2, .ref (m + 5)), (3, .int x3), (4, .int x4)] rfl ?_
        refine rx_goto C dX9_copies_25 3 (by decide) ?_
        refine rx_sub [1, 2, 3, 4, 5, 0] rfl ?_
        exact ih_loop2 _ _ _ _ hF b_m fr KK
  refine rx_sub [1, 2, 3, 4, 5, 0] rfl ?_
  replace hF := rx_biE hF; obtain ⟨zl7, e_zl7, hF⟩ := hF
  refine loop2 _ zl7 _ _ _ e_zl7 b_m fr (fun hh b_m fr => ?_)
  obtain rfl := Option.some.inj hF
  exact rx_vret C dX9_copies_28 (Nat.le_refl _) (Nat.le_refl _) ⟨rfl, b_m, fr⟩
def F_X9_copies_5_1_3 (x1 : Int32) (x3 : Int32) (x4 : Int32) : Nat → ob → Int32 → Option (Int32 × ob)
  | 0, _, _ => none
  | fu + 1, om, x5 => if x4 ≤ x5 then (some (x5, om)) else ((rx_ald 1152 (om.2 5) ((x1 + x5))).bind fun v4 => (rx_ast 144 (om.2 1) ((x3 + x5)) v4).bind fun f5 => rx_le (om.1, va_up om.2 1 f5) fun o_m_6 => F_X9_copies_5_1_3 x1 x3 x4 fu o_m_6 ((x5 + 1)))
def F_X9_copies_5_1 (om : ob) (x1 : Int32) (x3 : Int32) (x4 : Int32) : Option (ob) := (F_X9_copies_5_1_3 x1 x3 x4 100000 om ((0 : Int32))).bind fun zl7 => some zl7.2
set_option maxRecDepth 100000 in
set_option maxHeartbeats 4000000 in
theorem w_X9_copies_5_1 {m : Nat} {om : ob} {x1 : Int32} {x3 : Int32} {x4 : Int32} {y : ob} (hF : F_X9_copies_5_1 om x1 x3 x4 = some y) (b_m : bM k m om h) : Met l yX9_copies (rx_ws yX9_copies cX9_copies 6 none) (rx_rm 0 0) (va_Pc [.ref (m + 5), .int x1, .ref (m + 1), .int x3, .int x4] (rx_G G k h n)) (va_Qv (fun u => u.2 = n ∧ bM k m y u.1 ∧ rx_fr [(m, 9)] h u.1) (rx_B G k) (rx_A k)) 0 0 (rx_A k) := by
  refine rx_start [(0, .ref (m + 5)), (1, .int x1), (2, .ref (m + 1)), (3, .int x3), (4, .int x4)] rfl (Nat.le_of_ble_eq_true rfl) (by decide) rfl (fun P9 E9 S9 M9 A9 B9 me9 c9 C hname => ?_)
  unfold F_X9_copies_5_1 at hF
  have fr : rx_fr [(m, 9)] h h := rx_fr0
  refine rx_iconst C dX9_copies_0 (0 : Int32) (by decide) ?_
  refine rx_istore C dX9_copies_1 (by decide) [(5, .int ((0 : Int32))), (0, .ref (m + 5)), (1, .int x1), (2, .ref (m + 1)), (3, .int x3), (4, .int x4)] rfl ?_
  have loop2 : ∀ (fu : Nat) (zz : Int32 × ob) (om : ob) (x5 : Int32) (hh : hp), F_X9_copies_5_1_3 x1 x3 x4 fu om x5 = some zz → bM k m om hh → rx_fr [(m, 9)] h hh → (∀ hh : hp, bM k m zz.2 hh → rx_fr [(m, 9)] h hh → rx_W P9 l E9 (rx_rm 0 0) S9 M9 A9 B9 me9 c9 (MQ B9 (va_Qv (fun u => u.2 = n ∧ bM k m y u.1 ∧ rx_fr [(m, 9)] h u.1) (rx_B G k) (rx_A k)) A9 S9 0 0 (rx_A k)) G k 6 0 0 hh n 28 [(0, .ref (m + 5)), (1, .int x1), (2, .ref (m + 1)), (3, .int x3), (4, .int x4), (5, .int zz.1)] []) → rx_W P9 l E9 (rx_rm 0 0) S9 M9 A9 B9 me9 c9 (MQ B9 (va_Qv (fun u => u.2 = n ∧ bM k m y u.1 ∧ rx_fr [(m, 9)] h u.1) (rx_B G k) (rx_A k)) A9 S9 0 0 (rx_A k)) G k 6 0 0 hh n 3 [(0, .ref (m + 5)), (1, .int x1), (2, .ref (m + 1)), (3, .int x3), (4, .int x4), (5, .int x5)] [] := by
    intro fu
    induction fu with
    | zero => intro zz om x5 hh hF b_m fr KK; exact absurd hF (by simp [F_X9_copies_5_1_3])
    | succ fu ih_loop2 =>
      intro zz om x5 hh hF b_m fr KK
      unfold F_X9_copies_5_1_3 at hF
      refine rx_iload C dX9_copies_3 5 rfl ?_
      refine rx_iload C dX9_copies_5 4 rfl ?_
      refine rx_icmp_ge C dX9_copies_7 28 (by decide) (fun c3 => ?_) (fun c3 => ?_)
      · rw [if_pos c3] at hF
        obtain rfl := Option.some.inj hF
        refine rx_sub [0, 1, 2, 3, 4, 5] rfl ?_
        exact KK _ b_m fr
      · rw [if_neg c3] at hF
        refine rx_aload_n C dX9_copies_10 2 rfl ?_
        refine rx_iload_n C dX9_copies_11 3 rfl ?_
        refine rx_iload C dX9_copies_12 5 rfl ?_
        refine rx_iadd C dX9_copies_14 ?_
        refine rx_aload_n C dX9_copies_15 0 rfl ?_
        refine rx_iload_n C dX9_copies_16 1 rfl ?_
        refine rx_iload C dX9_copies_17 5 rfl ?_
        refine rx_iadd C dX9_copies_19 ?_
        replace hF := rx_biE hF; obtain ⟨v4, e_v4, hF⟩ := hF
        refine rx_aldF C dX9_copies_20 b_m.2.2.2.2.2.1 e_v4 ?_
        replace hF := rx_biE hF; obtain ⟨f5, e_f5, hF⟩ := hF
        replace hF := rx_leE hF; obtain ⟨o_m_6, e_o_m_6, hF⟩ := hF
        refine rx_aM1 C dX9_copies_21 b_m e_f5 e_o_m_6 (fun hh c_m ff => ?_)
        replace b_m := c_m
        replace fr := rx_frt fr ff (fun a ha => ⟨ha.1, trivial⟩)
        refine rx_iinc C dX9_copies_22 5 rfl (x5 + 1) rfl (by decide) [(5, .int ((x5 + 1))), (0, .ref (m + 5)), (1, .int x1), (2, .ref (m + 1)), (3, .int x3), (4, .int x4)] rfl ?_
        refine rx_goto C dX9_copies_25 3 (by decide) ?_
        refine rx_sub [1, 2, 3, 4, 5, 0] rfl ?_
        exact ih_loop2 _ _ _ _ hF b_m fr KK
  refine rx_sub [1, 2, 3, 4, 5, 0] rfl ?_
  replace hF := rx_biE hF; obtain ⟨zl7, e_zl7, hF⟩ := hF
  refine loop2 _ zl7 _ _ _ e_zl7 b_m fr (fun hh b_m fr => ?_)
  obtain rfl := Option.some.inj hF
  exact rx_vret C dX9_copies_28 (Nat.le_refl _) (Nat.le_refl _) ⟨rfl, b_m, fr⟩
end GEN
