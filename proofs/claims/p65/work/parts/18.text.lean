section GEN
variable {l : Launch} {G : va_G} {k : Nat → Nat} {h : hp} {n : Nat}
def F_X6_isBlank (x0 : Int32) : Option (Int32) := if x0 = (32 : Int32) then (some ((1 : Int32))) else (if x0 = (10 : Int32) then (some ((1 : Int32))) else (some ((0 : Int32))))
set_option maxRecDepth 100000 in
set_option maxHeartbeats 4000000 in
theorem w_X6_isBlank {x0 : Int32} {y : Int32} (hF : F_X6_isBlank x0 = some y) : Met l yX6_isBlank (rx_ws yX6_isBlank cX6_isBlank 1 (some .boolean)) (rx_rm 0 0) (va_Pc [.int x0] (rx_G G k h n)) (va_Qi (fun r u => y = r ∧ (y = 0 ∨ y = 1) ∧ u = (h, n)) (rx_B G k) (rx_A k)) 0 0 (rx_A k) := by
  refine rx_start [(0, .int x0)] rfl (Nat.le_of_ble_eq_true rfl) (by decide) rfl (fun P9 E9 S9 M9 A9 B9 me9 c9 C hname => ?_)
  unfold F_X6_isBlank at hF
  refine rx_iload_n C dX6_isBlank_0 0 rfl ?_
  refine rx_bipush C dX6_isBlank_1 (32 : Int32) (by decide) ?_
  refine rx_icmp_eq C dX6_isBlank_3 12 (by decide) (fun c1 => ?_) (fun c1 => ?_)
  · rw [if_pos c1] at hF
    refine rx_iconst C dX6_isBlank_12 (1 : Int32) (by decide) ?_
    refine rx_goto C dX6_isBlank_13 17 (by decide) ?_
    obtain rfl := Option.some.inj hF
    exact rx_zret C (rx_nz (Or.inr rfl)) dX6_isBlank_17 (Nat.le_refl _) (Nat.le_refl _) ⟨rfl, (Or.inr rfl), rfl⟩
  · rw [if_neg c1] at hF
    refine rx_iload_n C dX6_isBlank_6 0 rfl ?_
    refine rx_bipush C dX6_isBlank_7 (10 : Int32) (by decide) ?_
    refine rx_icmp_ne C dX6_isBlank_9 16 (by decide) (fun c2 => ?_) (fun c2 => ?_)
    · rw [if_neg c2] at hF
      refine rx_iconst C dX6_isBlank_16 (0 : Int32) (by decide) ?_
      obtain rfl := Option.some.inj hF
      exact rx_zret C (rx_nz (Or.inl rfl)) dX6_isBlank_17 (Nat.le_refl _) (Nat.le_refl _) ⟨rfl, (Or.inl rfl), rfl⟩
    · rw [if_pos c2] at hF
      refine rx_iconst C dX6_isBlank_12 (1 : Int32) (by decide) ?_
      refine rx_goto C dX6_isBlank_13 17 (by decide) ?_
      obtain rfl := Option.some.inj hF
      exact rx_zret C (rx_nz (Or.inr rfl)) dX6_isBlank_17 (Nat.le_refl _) (Nat.le_refl _) ⟨rfl, (Or.inr rfl), rfl⟩
def F_X6_isLetter (x0 : Int32) : Option (Int32) := if x0 < (97 : Int32) then (some ((0 : Int32))) else (if (122 : Int32) < x0 then (some ((0 : Int32))) else (some ((1 : Int32))))
set_option maxRecDepth 100000 in
set_option maxHeartbeats 4000000 in
theorem w_X6_isLetter {x0 : Int32} {y : Int32} (hF : F_X6_isLetter x0 = some y) : Met l yX6_isLetter (rx_ws yX6_isLetter cX6_isLetter 1 (some .boolean)) (rx_rm 0 0) (va_Pc [.int x0] (rx_G G k h n)) (va_Qi (fun r u => y = r ∧ (y = 0 ∨ y = 1) ∧ u = (h, n)) (rx_B G k) (rx_A k)) 0 0 (rx_A k) := by
  refine rx_start [(0, .int x0)] rfl (Nat.le_of_ble_eq_true rfl) (by decide) rfl (fun P9 E9 S9 M9 A9 B9 me9 c9 C hname => ?_)
  unfold F_X6_isLetter at hF
  refine rx_iload_n C dX6_isLetter_0 0 rfl ?_
  refine rx_bipush C dX6_isLetter_1 (97 : Int32) (by decide) ?_
  refine rx_icmp_lt C dX6_isLetter_3 16 (by decide) (fun c1 => ?_) (fun c1 => ?_)
  · rw [if_pos c1] at hF
    refine rx_iconst C dX6_isLetter_16 (0 : Int32) (by decide) ?_
    obtain rfl := Option.some.inj hF
    exact rx_zret C (rx_nz (Or.inl rfl)) dX6_isLetter_17 (Nat.le_refl _) (Nat.le_refl _) ⟨rfl, (Or.inl rfl), rfl⟩
  · rw [if_neg c1] at hF
    refine rx_iload_n C dX6_isLetter_6 0 rfl ?_
    refine rx_bipush C dX6_isLetter_7 (122 : Int32) (by decide) ?_
    refine rx_icmp_gt C dX6_isLetter_9 16 (by decide) (fun c2 => ?_) (fun c2 => ?_)
    · rw [if_pos c2] at hF
      refine rx_iconst C dX6_isLetter_16 (0 : Int32) (by decide) ?_
      obtain rfl := Option.some.inj hF
      exact rx_zret C (rx_nz (Or.inl rfl)) dX6_isLetter_17 (Nat.le_refl _) (Nat.le_refl _) ⟨rfl, (Or.inl rfl), rfl⟩
    · rw [if_neg c2] at hF
      refine rx_iconst C dX6_isLetter_12 (1 : Int32) (by decide) ?_
      refine rx_goto C dX6_isLetter_13 17 (by decide) ?_
      obtain rfl := Option.some.inj hF
      exact rx_zret C (rx_nz (Or.inr rfl)) dX6_isLetter_17 (Nat.le_refl _) (Nat.le_refl _) ⟨rfl, (Or.inr rfl), rfl⟩
def F_X6_isDigit (x0 : Int32) : Option (Int32) := if x0 < (48 : Int32) then (some ((0 : Int32))) else (if (57 : Int32) < x0 then (some ((0 : Int32))) else (some ((1 : Int32))))
set_option maxRecDepth 100000 in
set_option maxHeartbeats 4000000 in
theorem w_X6_isDigit {x0 : Int32} {y : Int32} (hF : F_X6_isDigit x0 = some y) : Met l yX6_isDigit (rx_ws yX6_isDigit cX6_isDigit 1 (some .boolean)) (rx_rm 0 0) (va_Pc [.int x0] (rx_G G k h n)) (va_Qi (fun r u => y = r ∧ (y = 0 ∨ y = 1) ∧ u = (h, n)) (rx_B G k) (rx_A k)) 0 0 (rx_A k) := by
  refine rx_start [(0, .int x0)] rfl (Nat.le_of_ble_eq_true rfl) (by decide) rfl (fun P9 E9 S9 M9 A9 B9 me9 c9 C hname => ?_)
  unfold F_X6_isDigit at hF
  refine rx_iload_n C dX6_isDigit_0 0 rfl ?_
  refine rx_bipush C dX6_isDigit_1 (48 : Int32) (by decide) ?_
  refine rx_icmp_lt C dX6_isDigit_3 16 (by decide) (fun c1 => ?_) (fun c1 => ?_)
  · rw [if_pos c1] at hF
    refine rx_iconst C dX6_isDigit_16 (0 : Int32) (by decide) ?_
    obtain rfl := Option.some.inj hF
    exact rx_zret C (rx_nz (Or.inl rfl)) dX6_isDigit_17 (Nat.le_refl _) (Nat.le_refl _) ⟨rfl, (Or.inl rfl), rfl⟩
  · rw [if_neg c1] at hF
    refine rx_iload_n C dX6_isDigit_6 0 rfl ?_
    refine rx_bipush C dX6_isDigit_7 (57 : Int32) (by decide) ?_
    refine rx_icmp_gt C dX6_isDigit_9 16 (by decide) (fun c2 => ?_) (fun c2 => ?_)
    · rw [if_pos c2] at hF
      refine rx_iconst C dX6_isDigit_16 (0 : Int32) (by decide) ?_
      obtain rfl := Option.some.inj hF
      exact rx_zret C (rx_nz (Or.inl rfl)) dX6_isDigit_17 (Nat.le_refl _) (Nat.le_refl _) ⟨rfl, (Or.inl rfl), rfl⟩
    · rw [if_neg c2] at hF
      refine rx_iconst C dX6_isDigit_12 (1 : Int32) (by decide) ?_
      refine rx_goto C dX6_isDigit_13 17 (by decide) ?_
      obtain rfl := Option.some.inj hF
      exact rx_zret C (rx_nz (Or.inr rfl)) dX6_isDigit_17 (Nat.le_refl _) (Nat.le_refl _) ⟨rfl, (Or.inr rfl), rfl⟩
def F_X6_hasFailed (ot : ob) : Option (Int32) := if (ot.1 7) = (0 : Int32) then (some ((0 : Int32))) else (some ((1 : Int32)))
set_option maxRecDepth 100000 in
set_option maxHeartbeats 4000000 in
theorem w_X6_hasFailed {t : Nat} {ot : ob} {y : Int32} (hF : F_X6_hasFailed ot = some y) (b_t : bT k t ot h) : Met l yX6_hasFailed (rx_ws yX6_hasFailed cX6_hasFailed 1 (some .boolean)) (rx_rm 0 0) (va_Pc [.ref t] (rx_G G k h n)) (va_Qi (fun r u => y = r ∧ (y = 0 ∨ y = 1) ∧ u = (h, n)) (rx_B G k) (rx_A k)) 0 0 (rx_A k) := by
  refine rx_start [(0, .ref t)] rfl (Nat.le_of_ble_eq_true rfl) (by decide) rfl (fun P9 E9 S9 M9 A9 B9 me9 c9 C hname => ?_)
  unfold F_X6_hasFailed at hF
  refine rx_aload_n C dX6_hasFailed_0 0 rfl ?_
  refine rx_getf C f_X6_26 dX6_hasFailed_1 b_t.1 rfl ?_
  refine rx_if_eq C dX6_hasFailed_4 11 (by decide) (fun c1 => ?_) (fun c1 => ?_)
  · rw [if_pos c1] at hF
    refine rx_iconst C dX6_hasFailed_11 (0 : Int32) (by decide) ?_
    obtain rfl := Option.some.inj hF
    exact rx_zret C (rx_nz (Or.inl rfl)) dX6_hasFailed_12 (Nat.le_refl _) (Nat.le_refl _) ⟨rfl, (Or.inl rfl), rfl⟩
  · rw [if_neg c1] at hF
    refine rx_iconst C dX6_hasFailed_7 (1 : Int32) (by decide) ?_
    refine rx_goto C dX6_hasFailed_8 12 (by decide) ?_
    obtain rfl := Option.some.inj hF
    exact rx_zret C (rx_nz (Or.inr rfl)) dX6_hasFailed_12 (Nat.le_refl _) (Nat.le_refl _) ⟨rfl, (Or.inr rfl), rfl⟩
def F_X6_fail (ot : ob) (x1 : Int32) : Option (ob) := if (ot.1 7) = (0 : Int32) then (rx_le (upd ot.1 7 x1, ot.2) fun o_t_2 => rx_le (upd o_t_2.1 8 ((o_t_2.1 4)), o_t_2.2) fun o_t_3 => some o_t_3) else (some ot)
set_option maxRecDepth 100000 in
set_option maxHeartbeats 4000000 in
theorem w_X6_fail {t : Nat} {ot : ob} {x1 : Int32} {y : ob} (hF : F_X6_fail ot x1 = some y) (b_t : bT k t ot h) : Met l yX6_fail (rx_ws yX6_fail cX6_fail 2 none) (rx_rm 0 0) (va_Pc [.ref t, .int x1] (rx_G G k h n)) (va_Qv (fun u => u.2 = n ∧ bT k t y u.1 ∧ rx_fr [(t, 2)] h u.1) (rx_B G k) (rx_A k)) 0 0 (rx_A k) := by
  refine rx_start [(0, .ref t), (1, .int x1)] rfl (Nat.le_of_ble_eq_true rfl) (by decide) rfl (fun P9 E9 S9 M9 A9 B9 me9 c9 C hname => ?_)
  unfold F_X6_fail at hF
  have fr : rx_fr [(t, 2)] h h := rx_fr0
  refine rx_aload_n C dX6_fail_0 0 rfl ?_
  refine rx_getf C f_X6_26 dX6_fail_1 b_t.1 rfl ?_
  refine rx_if_ne C dX6_fail_4 20 (by decide) (fun c1 => ?_) (fun c1 => ?_)
  · rw [if_neg c1] at hF
    obtain rfl := Option.some.inj hF
    exact rx_vret C dX6_fail_20 (Nat.le_refl _) (Nat.le_refl _) ⟨rfl, b_t, fr⟩
  · rw [if_pos c1] at hF
    refine rx_aload_n C dX6_fail_7 0 rfl ?_
    refine rx_iload_n C dX6_fail_8 1 rfl ?_
    replace hF := rx_leE hF; obtain ⟨o_t_2, e_o_t_2, hF⟩ := hF
    refine rx_pT7 C f_X6_26 dX6_fail_9 b_t e_o_t_2 (fun hh c_t ff => ?_)
    replace b_t := c_t
    replace fr := rx_frt fr ff (fun a ha => ⟨ha.1, trivial⟩)
    refine rx_aload_n C dX6_fail_12 0 rfl ?_
    refine rx_aload_n C dX6_fail_13 0 rfl ?_
    refine rx_getf C f_X6_38 dX6_fail_14 b_t.1 rfl ?_
    replace hF := rx_leE hF; obtain ⟨o_t_3, e_o_t_3, hF⟩ := hF
    refine rx_pT8 C f_X6_15 dX6_fail_17 b_t e_o_t_3 (fun hh c_t ff => ?_)
    replace b_t := c_t
    replace fr := rx_frt fr ff (fun a ha => ⟨ha.1, trivial⟩)
    obtain rfl := Option.some.inj hF
    exact rx_vret C dX6_fail_20 (Nat.le_refl _) (Nat.le_refl _) ⟨rfl, b_t, fr⟩
def F_X6_isAtEnd (ot : ob) : Option (Int32) := if (ot.1 7) = (0 : Int32) then (if (ot.1 3) = (0 : Int32) then (some ((1 : Int32))) else (some ((0 : Int32)))) else (some ((0 : Int32)))
set_option maxRecDepth 100000 in
set_option maxHeartbeats 4000000 in
theorem w_X6_isAtEnd {t : Nat} {ot : ob} {y : Int32} (hF : F_X6_isAtEnd ot = some y) (b_t : bT k t ot h) : Met l yX6_isAtEnd (rx_ws yX6_isAtEnd cX6_isAtEnd 1 (some .boolean)) (rx_rm 0 0) (va_Pc [.ref t] (rx_G G k h n)) (va_Qi (fun r u => y = r ∧ (y = 0 ∨ y = 1) ∧ u = (h, n)) (rx_B G k) (rx_A k)) 0 0 (rx_A k) := by
  refine rx_start [(0, .ref t)] rfl (Nat.le_of_ble_eq_true rfl) (by decide) rfl (fun P9 E9 S9 M9 A9 B9 me9 c9 C hname => ?_)
  unfold F_X6_isAtEnd at hF
  refine rx_aload_n C dX6_isAtEnd_0 0 rfl ?_
  refine rx_getf C f_X6_26 dX6_isAtEnd_1 b_t.1 rfl ?_
  refine rx_if_ne C dX6_isAtEnd_4 18 (by decide) (fun c1 => ?_) (fun c1 => ?_)
  · rw [if_neg c1] at hF
    refine rx_iconst C dX6_isAtEnd_18 (0 : Int32) (by decide) ?_
    obtain rfl := Option.some.inj hF
    exact rx_zret C (rx_nz (Or.inl rfl)) dX6_isAtEnd_19 (Nat.le_refl _) (Nat.le_refl _) ⟨rfl, (Or.inl rfl), rfl⟩
  · rw [if_pos c1] at hF
    refine rx_aload_n C dX6_isAtEnd_7 0 rfl ?_
    refine rx_getf C f_X6_41 dX6_isAtEnd_8 b_t.1 rfl ?_
    refine rx_if_ne C dX6_isAtEnd_11 18 (by decide) (fun c2 => ?_) (fun c2 => ?_)
    · rw [if_neg c2] at hF
      refine rx_iconst C dX6_isAtEnd_18 (0 : Int32) (by decide) ?_
      obtain rfl := Option.some.inj hF
      exact rx_zret C (rx_nz (Or.inl rfl)) dX6_isAtEnd_19 (Nat.le_refl _) (Nat.le_refl _) ⟨rfl, (Or.inl rfl), rfl⟩
    · rw [if_pos c2] at hF
      refine rx_iconst C dX6_isAtEnd_14 (1 : Int32) (by decide) ?_
      refine rx_goto C dX6_isAtEnd_15 19 (by decide) ?_
      obtain rfl := Option.some.inj hF
      exact rx_zret C (rx_nz (Or.inr rfl)) dX6_isAtEnd_19 (Nat.le_refl _) (Nat.le_refl _) ⟨rfl, (Or.inr rfl), rfl⟩
def F_X6_appendWord_3 (x1 : Int32) : Nat → ob → Int32 → Option (Int32 × ob)
  | 0, _, _ => none
  | fu + 1, ot, x2 => if x2 < (0 : Int32) then (some (x2, ot)) else (rx_le (ot.1, va_up ot.2 0 (rx_put 500 (ot.2 0) ((ot.1 1)) (((x1.toUInt32 >>> (x2.toUInt32 &&& Int32.toUInt32 31)).toInt32 &&& (255 : Int32))))) fun o_t_4 => rx_le (upd o_t_4.1 1 (((o_t_4.1 1) + (1 : Int32))), o_t_4.2) fun o_t_5 => F_X6_appendWord_3 x1 fu o_t_5 ((x2 + (-8))))
def F_X6_appendWord (ot : ob) (x1 : Int32) : Option (ob) := (F_X6_appendWord_3 x1 100000 ot ((24 : Int32))).bind fun zl6 => some zl6.2
set_option maxRecDepth 100000 in
set_option maxHeartbeats 4000000 in
theorem w_X6_appendWord {t : Nat} {ot : ob} {x1 : Int32} {y : ob} (hF : F_X6_appendWord ot x1 = some y) (b_t : bT k t ot h) : Met l yX6_appendWord (rx_ws yX6_appendWord cX6_appendWord 3 none) (rx_rm 1 22) (va_Pc [.ref t, .int x1] (rx_G G k h n)) (va_Qv (fun u => u.2 = n ∧ bT k t y u.1 ∧ rx_fr [(t, 2)] h u.1) (rx_B G k) (rx_A k)) 0 0 (rx_A k) := by
  refine rx_start [(0, .ref t), (1, .int x1)] rfl (Nat.le_of_ble_eq_true rfl) (by decide) rfl (fun P9 E9 S9 M9 A9 B9 me9 c9 C hname => ?_)
  unfold F_X6_appendWord at hF
  have fr : rx_fr [(t, 2)] h h := rx_fr0
  refine rx_bipush C dX6_appendWord_0 (24 : Int32) (by decide) ?_
  refine rx_istore_n C dX6_appendWord_2 (by decide) [(2, .int ((24 : Int32))), (0, .ref t), (1, .int x1)] rfl ?_
  have loop2 : ∀ (fu : Nat) (zz : Int32 × ob) (ot : ob) (x2 : Int32) (hh : hp), F_X6_appendWord_3 x1 fu ot x2 = some zz → bT k t ot hh → rx_fr [(t, 2)] h hh → (∀ hh : hp, bT k t zz.2 hh → rx_fr [(t, 2)] h hh → rx_W P9 l E9 (rx_rm 1 22) S9 M9 A9 B9 me9 c9 (MQ B9 (va_Qv (fun u => u.2 = n ∧ bT k t y u.1 ∧ rx_fr [(t, 2)] h u.1) (rx_B G k) (rx_A k)) A9 S9 0 0 (rx_A k)) G k 3 0 0 hh n 41 [(0, .ref t), (1, .int x1), (2, .int zz.1)] []) → rx_W P9 l E9 (rx_rm 1 22) S9 M9 A9 B9 me9 c9 (MQ B9 (va_Qv (fun u => u.2 = n ∧ bT k t y u.1 ∧ rx_fr [(t, 2)] h u.1) (rx_B G k) (rx_A k)) A9 S9 0 0 (rx_A k)) G k 3 0 0 hh n 3 [(0, .ref t), (1, .int x1), (2, .int x2)] [] := by
    intro fu
    induction fu with
    | zero => intro zz ot x2 hh hF b_t fr KK; exact absurd hF (by simp [F_X6_appendWord_3])
    | succ fu ih_loop2 =>
      intro zz ot x2 hh hF b_t fr KK
      unfold F_X6_appendWord_3 at hF
      refine rx_iload_n C dX6_appendWord_3 2 rfl ?_
      refine rx_if_lt C dX6_appendWord_4 41 (by decide) (fun c3 => ?_) (fun c3 => ?_)
      · rw [if_pos c3] at hF
        obtain rfl := Option.some.inj hF
        refine rx_sub [0, 1, 2] rfl ?_
        exact KK _ b_t fr
      · rw [if_neg c3] at hF
        refine rx_aload_n C dX6_appendWord_7 0 rfl ?_
        refine rx_getf C f_X6_9 dX6_appendWord_8 b_t.1 rfl ?_
        refine rx_aload_n C dX6_appendWord_11 0 rfl ?_
        refine rx_getf C f_X6_19 dX6_appendWord_12 b_t.1 rfl ?_
        refine rx_iload_n C dX6_appendWord_15 1 rfl ?_
        refine rx_iload_n C dX6_appendWord_16 2 rfl ?_
        refine rx_iushr C dX6_appendWord_17 ?_
        refine rx_sipush C dX6_appendWord_18 (255 : Int32) (by decide) ?_
        refine rx_iand C dX6_appendWord_21 ?_
        replace hF := rx_leE hF; obtain ⟨o_t_4, e_o_t_4, hF⟩ := hF
        refine rx_cv (rx_rSN C (w_put b_t.2 (by decide)) Y_X8_put S_X8_put m_X6_22 ⟨⟨rfl, rfl⟩, ⟨(Nat.le_of_ble_eq_true rfl), (Nat.le_of_ble_eq_true rfl)⟩, ⟨(Nat.le_of_ble_eq_true rfl), (Nat.le_of_ble_eq_true rfl)⟩⟩ rfl rfl (Nat.le_of_ble_eq_true rfl) dX6_appendWord_22) (fun hh n1 hpp => ?_)
        obtain ⟨c_t, ff, hn⟩ := b_t.wr0 e_o_t_4 hpp
        replace hn := Eq.symm hn
        subst hn
        replace b_t := c_t
        replace fr := rx_frt fr ff (fun a ha => ⟨ha.1, trivial⟩)
        refine rx_aload_n C dX6_appendWord_25 0 rfl ?_
        refine rx_dup C dX6_appendWord_26 rfl ?_
        refine rx_getf C f_X6_19 dX6_appendWord_27 b_t.1 rfl ?_
        refine rx_iconst C dX6_appendWord_30 (1 : Int32) (by decide) ?_
        refine rx_iadd C dX6_appendWord_31 ?_
        replace hF := rx_leE hF; obtain ⟨o_t_5, e_o_t_5, hF⟩ := hF
        refine rx_pT1 C f_X6_19 dX6_appendWord_32 b_t e_o_t_5 (fun hh c_t ff => ?_)
        replace b_t := c_t
        replace fr := rx_frt fr ff (fun a ha => ⟨ha.1, trivial⟩)
        refine rx_iinc C dX6_appendWord_35 2 rfl (x2 + (-8)) rfl (by decide) [(2, .int ((x2 + (-8)))), (0, .ref t), (1, .int x1)] rfl ?_
        refine rx_goto C dX6_appendWord_38 3 (by decide) ?_
        refine rx_sub [1, 2, 0] rfl ?_
        exact ih_loop2 _ _ _ _ hF b_t fr KK
  refine rx_sub [1, 2, 0] rfl ?_
  replace hF := rx_biE hF; obtain ⟨zl6, e_zl6, hF⟩ := hF
  refine loop2 _ zl6 _ _ _ e_zl6 b_t fr (fun hh b_t fr => ?_)
  obtain rfl := Option.some.inj hF
  exact rx_vret C dX6_appendWord_41 (Nat.le_refl _) (Nat.le_refl _) ⟨rfl, b_t, fr⟩
def F_X6_scanWord_5 : Nat → ob → Option (ob)
  | 0, _ => none
  | fu + 1, ot => if (ot.1 2) ≤ (ot.1 5) then (some ot) else ((F_X6_isLetter ((rx_at 500 (ot.2 0) ((ot.1 5))))).bind fun y5 => if y5 = (0 : Int32) then (some ot) else (rx_le (upd ot.1 5 (((ot.1 5) + (1 : Int32))), ot.2) fun o_t_7 => F_X6_scanWord_5  fu o_t_7))
def F_X6_scanWord (ot : ob) : Option (ob) := rx_le (upd ot.1 3 ((1 : Int32)), ot.2) fun o_t_1 => (F_X6_scanWord_5  100000 o_t_1).bind fun zl8 => some zl8
set_option maxRecDepth 100000 in
set_option maxHeartbeats 4000000 in
theorem w_X6_scanWord {t : Nat} {ot : ob} {y : ob} (hF : F_X6_scanWord ot = some y) (b_t : bT k t ot h) : Met l yX6_scanWord (rx_ws yX6_scanWord cX6_scanWord 1 none) (rx_rm 1 21) (va_Pc [.ref t] (rx_G G k h n)) (va_Qv (fun u => u.2 = n ∧ bT k t y u.1 ∧ rx_fr [(t, 2)] h u.1) (rx_B G k) (rx_A k)) 0 0 (rx_A k) := by
  refine rx_start [(0, .ref t)] rfl (Nat.le_of_ble_eq_true rfl) (by decide) rfl (fun P9 E9 S9 M9 A9 B9 me9 c9 C hname => ?_)
  unfold F_X6_scanWord at hF
  have fr : rx_fr [(t, 2)] h h := rx_fr0
  refine rx_aload_n C dX6_scanWord_0 0 rfl ?_
  refine rx_iconst C dX6_scanWord_1 (1 : Int32) (by decide) ?_
  replace hF := rx_leE hF; obtain ⟨o_t_1, e_o_t_1, hF⟩ := hF
  refine rx_pT3 C f_X6_41 dX6_scanWord_2 b_t e_o_t_1 (fun hh c_t ff => ?_)
  replace b_t := c_t
  replace fr := rx_frt fr ff (fun a ha => ⟨ha.1, trivial⟩)
  have loop3 : ∀ (fu : Nat) (zz : ob) (ot : ob)  (hh : hp), F_X6_scanWord_5  fu ot = some zz → bT k t ot hh → rx_fr [(t, 2)] h hh → (∀ hh : hp, bT k t zz hh → rx_fr [(t, 2)] h hh → rx_W P9 l E9 (rx_rm 1 21) S9 M9 A9 B9 me9 c9 (MQ B9 (va_Qv (fun u => u.2 = n ∧ bT k t y u.1 ∧ rx_fr [(t, 2)] h u.1) (rx_B G k) (rx_A k)) A9 S9 0 0 (rx_A k)) G k 1 0 0 hh n 46 [(0, .ref t)] []) → rx_W P9 l E9 (rx_rm 1 21) S9 M9 A9 B9 me9 c9 (MQ B9 (va_Qv (fun u => u.2 = n ∧ bT k t y u.1 ∧ rx_fr [(t, 2)] h u.1) (rx_B G k) (rx_A k)) A9 S9 0 0 (rx_A k)) G k 1 0 0 hh n 5 [(0, .ref t)] [] := by
    intro fu
    induction fu with
    | zero => intro zz ot hh hF b_t fr KK; exact absurd hF (by simp [F_X6_scanWord_5])
    | succ fu ih_loop3 =>
      intro zz ot hh hF b_t fr KK
      unfold F_X6_scanWord_5 at hF
      refine rx_aload_n C dX6_scanWord_5 0 rfl ?_
      refine rx_getf C f_X6_32 dX6_scanWord_6 b_t.1 rfl ?_
      refine rx_aload_n C dX6_scanWord_9 0 rfl ?_
      refine rx_getf C f_X6_29 dX6_scanWord_10 b_t.1 rfl ?_
      refine rx_icmp_ge C dX6_scanWord_13 46 (by decide) (fun c4 => ?_) (fun c4 => ?_)
      · rw [if_pos c4] at hF
        obtain rfl := Option.some.inj hF
        refine rx_sub [0] rfl ?_
        exact KK _ b_t fr
      · rw [if_neg c4] at hF
        refine rx_aload_n C dX6_scanWord_16 0 rfl ?_
        refine rx_getf C f_X6_9 dX6_scanWord_17 b_t.1 rfl ?_
        refine rx_aload_n C dX6_scanWord_20 0 rfl ?_
        refine rx_getf C f_X6_32 dX6_scanWord_21 b_t.1 rfl ?_
        refine rx_ci (rx_rSN C (w_at b_t.2 (by decide)) Y_X8_at S_X8_at m_X6_50 ⟨⟨rfl, rfl⟩, ⟨(Nat.le_of_ble_eq_true rfl), (Nat.le_of_ble_eq_true rfl)⟩, ⟨(Nat.le_of_ble_eq_true rfl), (Nat.le_of_ble_eq_true rfl)⟩⟩ rfl rfl (Nat.le_of_ble_eq_true rfl) dX6_scanWord_24) (fun r hh n1 hpp => ?_)
        obtain ⟨rfl, hu⟩ := hpp
        cases hu
        replace hF := rx_biE hF; obtain ⟨y5, e_y5, hF⟩ := hF
        refine rx_ci (rx_rS C (w_X6_isLetter e_y5 ) Y_X6_isLetter S_X6_isLetter m_X6_73 ⟨⟨rfl, rfl⟩, ⟨(Nat.le_of_ble_eq_true rfl), (Nat.le_of_ble_eq_true rfl)⟩, ⟨(Nat.le_of_ble_eq_true rfl), (Nat.le_of_ble_eq_true rfl)⟩⟩ rfl rfl (Nat.le_of_ble_eq_true rfl) dX6_scanWord_27) (fun r hh n1 hpp => ?_)
        obtain ⟨rfl, bo_y5, hu⟩ := hpp
        cases hu
        refine rx_if_eq C dX6_scanWord_30 46 (by decide) (fun c6 => ?_) (fun c6 => ?_)
        · rw [if_pos c6] at hF
          obtain rfl := Option.some.inj hF
          refine rx_sub [0] rfl ?_
          exact KK _ b_t fr
        · rw [if_neg c6] at hF
          refine rx_aload_n C dX6_scanWord_33 0 rfl ?_
          refine rx_dup C dX6_scanWord_34 rfl ?_
          refine rx_getf C f_X6_32 dX6_scanWord_35 b_t.1 rfl ?_
          refine rx_iconst C dX6_scanWord_38 (1 : Int32) (by decide) ?_
          refine rx_iadd C dX6_scanWord_39 ?_
          replace hF := rx_leE hF; obtain ⟨o_t_7, e_o_t_7, hF⟩ := hF
          refine rx_pT5 C f_X6_32 dX6_scanWord_40 b_t e_o_t_7 (fun hh c_t ff => ?_)
          replace b_t := c_t
          replace fr := rx_frt fr ff (fun a ha => ⟨ha.1, trivial⟩)
          refine rx_goto C dX6_scanWord_43 5 (by decide) ?_
          refine rx_sub [0] rfl ?_
          exact ih_loop3 _ _ _ hF b_t fr KK
  refine rx_sub [0] rfl ?_
  replace hF := rx_biE hF; obtain ⟨zl8, e_zl8, hF⟩ := hF
  refine loop3 _ zl8 _ _ e_zl8 b_t fr (fun hh b_t fr => ?_)
  obtain rfl := Option.some.inj hF
  exact rx_vret C dX6_scanWord_46 (Nat.le_refl _) (Nat.le_refl _) ⟨rfl, b_t, fr⟩
def F_X6_scanNumber_10 : Nat → ob → Option (ob)
  | 0, _ => none
  | fu + 1, ot => if (ot.1 2) ≤ (ot.1 5) then (some ot) else ((F_X6_isDigit ((rx_at 500 (ot.2 0) ((ot.1 5))))).bind fun y6 => if y6 = (0 : Int32) then (some ot) else (rx_le (if ((((ot.1 6) * (10 : Int32)) + (rx_at 500 (ot.2 0) ((ot.1 5)))) - (48 : Int32)) < (1000 : Int32) then ((((ot.1 6) * (10 : Int32)) + (rx_at 500 (ot.2 0) ((ot.1 5)))) - (48 : Int32)) else (1000 : Int32)) fun v8 => rx_le (upd ot.1 6 v8, ot.2) fun o_t_9 => rx_le (upd o_t_9.1 5 (((o_t_9.1 5) + (1 : Int32))), o_t_9.2) fun o_t_10 => F_X6_scanNumber_10  fu o_t_10))
def F_X6_scanNumber (ot : ob) : Option (ob) := rx_le (upd ot.1 3 ((2 : Int32)), ot.2) fun o_t_1 => rx_le (upd o_t_1.1 6 ((0 : Int32)), o_t_1.2) fun o_t_2 => (F_X6_scanNumber_10  100000 o_t_2).bind fun zl11 => some zl11
set_option maxRecDepth 100000 in
set_option maxHeartbeats 4000000 in
theorem w_X6_scanNumber {t : Nat} {ot : ob} {y : ob} (hF : F_X6_scanNumber ot = some y) (b_t : bT k t ot h) : Met l yX6_scanNumber (rx_ws yX6_scanNumber cX6_scanNumber 1 none) (rx_rm 1 21) (va_Pc [.ref t] (rx_G G k h n)) (va_Qv (fun u => u.2 = n ∧ bT k t y u.1 ∧ rx_fr [(t, 2)] h u.1) (rx_B G k) (rx_A k)) 0 0 (rx_A k) := by
  refine rx_start [(0, .ref t)] rfl (Nat.le_of_ble_eq_true rfl) (by decide) rfl (fun P9 E9 S9 M9 A9 B9 me9 c9 C hname => ?_)
  unfold F_X6_scanNumber at hF
  have fr : rx_fr [(t, 2)] h h := rx_fr0
  refine rx_aload_n C dX6_scanNumber_0 0 rfl ?_
  refine rx_iconst C dX6_scanNumber_1 (2 : Int32) (by decide) ?_
  replace hF := rx_leE hF; obtain ⟨o_t_1, e_o_t_1, hF⟩ := hF
  refine rx_pT3 C f_X6_41 dX6_scanNumber_2 b_t e_o_t_1 (fun hh c_t ff => ?_)
  replace b_t := c_t
  replace fr := rx_frt fr ff (fun a ha => ⟨ha.1, trivial⟩)
  refine rx_aload_n C dX6_scanNumber_5 0 rfl ?_
  refine rx_iconst C dX6_scanNumber_6 (0 : Int32) (by decide) ?_
  replace hF := rx_leE hF; obtain ⟨o_t_2, e_o_t_2, hF⟩ := hF
  refine rx_pT6 C f_X6_66 dX6_scanNumber_7 b_t e_o_t_2 (fun hh c_t ff => ?_)
  replace b_t := c_t
  replace fr := rx_frt fr ff (fun a ha => ⟨ha.1, trivial⟩)
  have loop4 : ∀ (fu : Nat) (zz : ob) (ot : ob)  (hh : hp), F_X6_scanNumber_10  fu ot = some zz → bT k t ot hh → rx_fr [(t, 2)] h hh → (∀ hh : hp, bT k t zz hh → rx_fr [(t, 2)] h hh → rx_W P9 l E9 (rx_rm 1 21) S9 M9 A9 B9 me9 c9 (MQ B9 (va_Qv (fun u => u.2 = n ∧ bT k t y u.1 ∧ rx_fr [(t, 2)] h u.1) (rx_B G k) (rx_A k)) A9 S9 0 0 (rx_A k)) G k 1 0 0 hh n 83 [(0, .ref t)] []) → rx_W P9 l E9 (rx_rm 1 21) S9 M9 A9 B9 me9 c9 (MQ B9 (va_Qv (fun u => u.2 = n ∧ bT k t y u.1 ∧ rx_fr [(t, 2)] h u.1) (rx_B G k) (rx_A k)) A9 S9 0 0 (rx_A k)) G k 1 0 0 hh n 10 [(0, .ref t)] [] := by
    intro fu
    induction fu with
    | zero => intro zz ot hh hF b_t fr KK; exact absurd hF (by simp [F_X6_scanNumber_10])
    | succ fu ih_loop4 =>
      intro zz ot hh hF b_t fr KK
      unfold F_X6_scanNumber_10 at hF
      refine rx_aload_n C dX6_scanNumber_10 0 rfl ?_
      refine rx_getf C f_X6_32 dX6_scanNumber_11 b_t.1 rfl ?_
      refine rx_aload_n C dX6_scanNumber_14 0 rfl ?_
      refine rx_getf C f_X6_29 dX6_scanNumber_15 b_t.1 rfl ?_
      refine rx_icmp_ge C dX6_scanNumber_18 83 (by decide) (fun c5 => ?_) (fun c5 => ?_)
      · rw [if_pos c5] at hF
        obtain rfl := Option.some.inj hF
        refine rx_sub [0] rfl ?_
        exact KK _ b_t fr
      · rw [if_neg c5] at hF
        refine rx_aload_n C dX6_scanNumber_21 0 rfl ?_
        refine rx_getf C f_X6_9 dX6_scanNumber_22 b_t.1 rfl ?_
        refine rx_aload_n C dX6_scanNumber_25 0 rfl ?_
        refine rx_getf C f_X6_32 dX6_scanNumber_26 b_t.1 rfl ?_
        refine rx_ci (rx_rSN C (w_at b_t.2 (by decide)) Y_X8_at S_X8_at m_X6_50 ⟨⟨rfl, rfl⟩, ⟨(Nat.le_of_ble_eq_true rfl), (Nat.le_of_ble_eq_true rfl)⟩, ⟨(Nat.le_of_ble_eq_true rfl), (Nat.le_of_ble_eq_true rfl)⟩⟩ rfl rfl (Nat.le_of_ble_eq_true rfl) dX6_scanNumber_29) (fun r hh n1 hpp => ?_)
        obtain ⟨rfl, hu⟩ := hpp
        cases hu
        replace hF := rx_biE hF; obtain ⟨y6, e_y6, hF⟩ := hF
        refine rx_ci (rx_rS C (w_X6_isDigit e_y6 ) Y_X6_isDigit S_X6_isDigit m_X6_79 ⟨⟨rfl, rfl⟩, ⟨(Nat.le_of_ble_eq_true rfl), (Nat.le_of_ble_eq_true rfl)⟩, ⟨(Nat.le_of_ble_eq_true rfl), (Nat.le_of_ble_eq_true rfl)⟩⟩ rfl rfl (Nat.le_of_ble_eq_true rfl) dX6_scanNumber_32) (fun r hh n1 hpp => ?_)
        obtain ⟨rfl, bo_y6, hu⟩ := hpp
        cases hu
        refine rx_if_eq C dX6_scanNumber_35 83 (by decide) (fun c7 => ?_) (fun c7 => ?_)
        · rw [if_pos c7] at hF
          obtain rfl := Option.some.inj hF
          refine rx_sub [0] rfl ?_
          exact KK _ b_t fr
        · rw [if_neg c7] at hF
          refine rx_aload_n C dX6_scanNumber_38 0 rfl ?_
          refine rx_sipush C dX6_scanNumber_39 (1000 : Int32) (by decide) ?_
          refine rx_aload_n C dX6_scanNumber_42 0 rfl ?_
          refine rx_getf C f_X6_66 dX6_scanNumber_43 b_t.1 rfl ?_
          refine rx_bipush C dX6_scanNumber_46 (10 : Int32) (by decide) ?_
          refine rx_imul C dX6_scanNumber_48 ?_
          refine rx_aload_n C dX6_scanNumber_49 0 rfl ?_
          refine rx_getf C f_X6_9 dX6_scanNumber_50 b_t.1 rfl ?_
          refine rx_aload_n C dX6_scanNumber_53 0 rfl ?_
          refine rx_getf C f_X6_32 dX6_scanNumber_54 b_t.1 rfl ?_
          refine rx_ci (rx_rSN C (w_at b_t.2 (by decide)) Y_X8_at S_X8_at m_X6_50 ⟨⟨rfl, rfl⟩, ⟨(Nat.le_of_ble_eq_true rfl), (Nat.le_of_ble_eq_true rfl)⟩, ⟨(Nat.le_of_ble_eq_true rfl), (Nat.le_of_ble_eq_true rfl)⟩⟩ rfl rfl (Nat.le_of_ble_eq_true rfl) dX6_scanNumber_57) (fun r hh n1 hpp => ?_)
          obtain ⟨rfl, hu⟩ := hpp
          cases hu
          refine rx_iadd C dX6_scanNumber_60 ?_
          refine rx_bipush C dX6_scanNumber_61 (48 : Int32) (by decide) ?_
          refine rx_isub C dX6_scanNumber_63 ?_
          refine rx_mmin C m_X6_85 (Nat.le_of_ble_eq_true rfl) (Nat.le_of_ble_eq_true rfl) (Nat.le_refl _) (Nat.le_refl _) dX6_scanNumber_64 ?_
          replace hF := rx_leE hF; obtain ⟨v8, e_v8, hF⟩ := hF
          rw [e_v8]
          replace hF := rx_leE hF; obtain ⟨o_t_9, e_o_t_9, hF⟩ := hF
          refine rx_pT6 C f_X6_66 dX6_scanNumber_67 b_t e_o_t_9 (fun hh c_t ff => ?_)
          replace b_t := c_t
          replace fr := rx_frt fr ff (fun a ha => ⟨ha.1, trivial⟩)
          refine rx_aload_n C dX6_scanNumber_70 0 rfl ?_
          refine rx_dup C dX6_scanNumber_71 rfl ?_
          refine rx_getf C f_X6_32 dX6_scanNumber_72 b_t.1 rfl ?_
          refine rx_iconst C dX6_scanNumber_75 (1 : Int32) (by decide) ?_
          refine rx_iadd C dX6_scanNumber_76 ?_
          replace hF := rx_leE hF; obtain ⟨o_t_10, e_o_t_10, hF⟩ := hF
          refine rx_pT5 C f_X6_32 dX6_scanNumber_77 b_t e_o_t_10 (fun hh c_t ff => ?_)
          replace b_t := c_t
          replace fr := rx_frt fr ff (fun a ha => ⟨ha.1, trivial⟩)
          refine rx_goto C dX6_scanNumber_80 10 (by decide) ?_
          refine rx_sub [0] rfl ?_
          exact ih_loop4 _ _ _ hF b_t fr KK
  refine rx_sub [0] rfl ?_
  replace hF := rx_biE hF; obtain ⟨zl11, e_zl11, hF⟩ := hF
  refine loop4 _ zl11 _ _ e_zl11 b_t fr (fun hh b_t fr => ?_)
  obtain rfl := Option.some.inj hF
  exact rx_vret C dX6_scanNumber_83 (Nat.le_refl _) (Nat.le_refl _) ⟨rfl, b_t, fr⟩
def F_X6_advance_16 : Nat → ob → Option (ob)
  | 0, _ => none
  | fu + 1, ot => if (ot.1 2) ≤ (ot.1 4) then (some ot) else ((F_X6_isBlank ((rx_at 500 (ot.2 0) ((ot.1 4))))).bind fun y6 => if y6 = (0 : Int32) then (some ot) else (rx_le (upd ot.1 4 (((ot.1 4) + (1 : Int32))), ot.2) fun o_t_8 => F_X6_advance_16  fu o_t_8))
def F_X6_advance (ot : ob) : Option (ob) := if (ot.1 7) = (0 : Int32) then (rx_le (upd ot.1 4 ((ot.1 5)), ot.2) fun o_t_2 => (F_X6_advance_16  100000 o_t_2).bind fun zl9 => rx_le (upd zl9.1 5 ((zl9.1 4)), zl9.2) fun o_t_10 => if (o_t_10.1 4) < (o_t_10.1 2) then ((F_X6_isLetter ((rx_at 500 (o_t_10.2 0) ((o_t_10.1 4))))).bind fun y12 => if y12 = (0 : Int32) then ((F_X6_isDigit ((rx_at 500 (o_t_10.2 0) ((o_t_10.1 4))))).bind fun y14 => if y14 = (0 : Int32) then (if (rx_at 500 (o_t_10.2 0) ((o_t_10.1 4))) = (59 : Int32) then (rx_le (upd o_t_10.1 3 ((3 : Int32)), o_t_10.2) fun o_t_19 => rx_le (upd o_t_19.1 5 (((o_t_19.1 5) + (1 : Int32))), o_t_19.2) fun o_t_20 => some o_t_20) else (rx_le (upd o_t_10.1 3 ((4 : Int32)), o_t_10.2) fun o_t_17 => rx_le (upd o_t_17.1 5 (((o_t_17.1 5) + (1 : Int32))), o_t_17.2) fun o_t_18 => some o_t_18)) else ((F_X6_scanNumber o_t_10).bind fun y21 => some y21)) else ((F_X6_scanWord o_t_10).bind fun y22 => some y22)) else (rx_le (upd o_t_10.1 3 ((0 : Int32)), o_t_10.2) fun o_t_23 => some o_t_23)) else (some ot)
set_option maxRecDepth 100000 in
set_option maxHeartbeats 4000000 in
theorem w_X6_advance {t : Nat} {ot : ob} {y : ob} (hF : F_X6_advance ot = some y) (b_t : bT k t ot h) : Met l yX6_advance (rx_ws yX6_advance cX6_advance 1 none) (rx_rm 2 41) (va_Pc [.ref t] (rx_G G k h n)) (va_Qv (fun u => u.2 = n ∧ bT k t y u.1 ∧ rx_fr [(t, 2)] h u.1) (rx_B G k) (rx_A k)) 0 0 (rx_A k) := by
  refine rx_start [(0, .ref t)] rfl (Nat.le_of_ble_eq_true rfl) (by decide) rfl (fun P9 E9 S9 M9 A9 B9 me9 c9 C hname => ?_)
  unfold F_X6_advance at hF
  have fr : rx_fr [(t, 2)] h h := rx_fr0
  refine rx_aload_n C dX6_advance_0 0 rfl ?_
  refine rx_getf C f_X6_26 dX6_advance_1 b_t.1 rfl ?_
  refine rx_if_eq C dX6_advance_4 8 (by decide) (fun c1 => ?_) (fun c1 => ?_)
  · rw [if_pos c1] at hF
    refine rx_aload_n C dX6_advance_8 0 rfl ?_
    refine rx_aload_n C dX6_advance_9 0 rfl ?_
    refine rx_getf C f_X6_32 dX6_advance_10 b_t.1 rfl ?_
    replace hF := rx_leE hF; obtain ⟨o_t_2, e_o_t_2, hF⟩ := hF
    refine rx_pT4 C f_X6_38 dX6_advance_13 b_t e_o_t_2 (fun hh c_t ff => ?_)
    replace b_t := c_t
    replace fr := rx_frt fr ff (fun a ha => ⟨ha.1, trivial⟩)
    have loop4 : ∀ (fu : Nat) (zz : ob) (ot : ob)  (hh : hp), F_X6_advance_16  fu ot = some zz → bT k t ot hh → rx_fr [(t, 2)] h hh → (∀ hh : hp, bT k t zz hh → rx_fr [(t, 2)] h hh → rx_W P9 l E9 (rx_rm 2 41) S9 M9 A9 B9 me9 c9 (MQ B9 (va_Qv (fun u => u.2 = n ∧ bT k t y u.1 ∧ rx_fr [(t, 2)] h u.1) (rx_B G k) (rx_A k)) A9 S9 0 0 (rx_A k)) G k 1 0 0 hh n 57 [(0, .ref t)] []) → rx_W P9 l E9 (rx_rm 2 41) S9 M9 A9 B9 me9 c9 (MQ B9 (va_Qv (fun u => u.2 = n ∧ bT k t y u.1 ∧ rx_fr [(t, 2)] h u.1) (rx_B G k) (rx_A k)) A9 S9 0 0 (rx_A k)) G k 1 0 0 hh n 16 [(0, .ref t)] [] := by
      intro fu
      induction fu with
      | zero => intro zz ot hh hF b_t fr KK; exact absurd hF (by simp [F_X6_advance_16])
      | succ fu ih_loop4 =>
        intro zz ot hh hF b_t fr KK
        unfold F_X6_advance_16 at hF
        refine rx_aload_n C dX6_advance_16 0 rfl ?_
        refine rx_getf C f_X6_38 dX6_advance_17 b_t.1 rfl ?_
        refine rx_aload_n C dX6_advance_20 0 rfl ?_
        refine rx_getf C f_X6_29 dX6_advance_21 b_t.1 rfl ?_
        refine rx_icmp_ge C dX6_advance_24 57 (by decide) (fun c5 => ?_) (fun c5 => ?_)
        · rw [if_pos c5] at hF
          obtain rfl := Option.some.inj hF
          refine rx_sub [0] rfl ?_
          exact KK _ b_t fr
        · rw [if_neg c5] at hF
          refine rx_aload_n C dX6_advance_27 0 rfl ?_
          refine rx_getf C f_X6_9 dX6_advance_28 b_t.1 rfl ?_
          refine rx_aload_n C dX6_advance_31 0 rfl ?_
          refine rx_getf C f_X6_38 dX6_advance_32 b_t.1 rfl ?_
          refine rx_ci (rx_rSN C (w_at b_t.2 (by decide)) Y_X8_at S_X8_at m_X6_50 ⟨⟨rfl, rfl⟩, ⟨(Nat.le_of_ble_eq_true rfl), (Nat.le_of_ble_eq_true rfl)⟩, ⟨(Nat.le_of_ble_eq_true rfl), (Nat.le_of_ble_eq_true rfl)⟩⟩ rfl rfl (Nat.le_of_ble_eq_true rfl) dX6_advance_35) (fun r hh n1 hpp => ?_)
          obtain ⟨rfl, hu⟩ := hpp
          cases hu
          replace hF := rx_biE hF; obtain ⟨y6, e_y6, hF⟩ := hF
          refine rx_ci (rx_rS C (w_X6_isBlank e_y6 ) Y_X6_isBlank S_X6_isBlank m_X6_69 ⟨⟨rfl, rfl⟩, ⟨(Nat.le_of_ble_eq_true rfl), (Nat.le_of_ble_eq_true rfl)⟩, ⟨(Nat.le_of_ble_eq_true rfl), (Nat.le_of_ble_eq_true rfl)⟩⟩ rfl rfl (Nat.le_of_ble_eq_true rfl) dX6_advance_38) (fun r hh n1 hpp => ?_)
          obtain ⟨rfl, bo_y6, hu⟩ := hpp
          cases hu
          refine rx_if_eq C dX6_advance_41 57 (by decide) (fun c7 => ?_) (fun c7 => ?_)
          · rw [if_pos c7] at hF
            obtain rfl := Option.some.inj hF
            refine rx_sub [0] rfl ?_
            exact KK _ b_t fr
          · rw [if_neg c7] at hF
            refine rx_aload_n C dX6_advance_44 0 rfl ?_
            refine rx_dup C dX6_advance_45 rfl ?_
            refine rx_getf C f_X6_38 dX6_advance_46 b_t.1 rfl ?_
            refine rx_iconst C dX6_advance_49 (1 : Int32) (by decide) ?_
            refine rx_iadd C dX6_advance_50 ?_
            replace hF := rx_leE hF; obtain ⟨o_t_8, e_o_t_8, hF⟩ := hF
            refine rx_pT4 C f_X6_38 dX6_advance_51 b_t e_o_t_8 (fun hh c_t ff => ?_)
            replace b_t := c_t
            replace fr := rx_frt fr ff (fun a ha => ⟨ha.1, trivial⟩)
            refine rx_goto C dX6_advance_54 16 (by decide) ?_
            refine rx_sub [0] rfl ?_
            exact ih_loop4 _ _ _ hF b_t fr KK
    refine rx_sub [0] rfl ?_
    replace hF := rx_biE hF; obtain ⟨zl9, e_zl9, hF⟩ := hF
    refine loop4 _ zl9 _ _ e_zl9 b_t fr (fun hh b_t fr => ?_)
    refine rx_aload_n C dX6_advance_57 0 rfl ?_
    refine rx_aload_n C dX6_advance_58 0 rfl ?_
    refine rx_getf C f_X6_38 dX6_advance_59 b_t.1 rfl ?_
    replace hF := rx_leE hF; obtain ⟨o_t_10, e_o_t_10, hF⟩ := hF
    refine rx_pT5 C f_X6_32 dX6_advance_62 b_t e_o_t_10 (fun hh c_t ff => ?_)
    replace b_t := c_t
    replace fr := rx_frt fr ff (fun a ha => ⟨ha.1, trivial⟩)
    refine rx_aload_n C dX6_advance_65 0 rfl ?_
    refine rx_getf C f_X6_38 dX6_advance_66 b_t.1 rfl ?_
    refine rx_aload_n C dX6_advance_69 0 rfl ?_
    refine rx_getf C f_X6_29 dX6_advance_70 b_t.1 rfl ?_
    refine rx_icmp_lt C dX6_advance_73 84 (by decide) (fun c11 => ?_) (fun c11 => ?_)
    · rw [if_pos c11] at hF
      refine rx_aload_n C dX6_advance_84 0 rfl ?_
      refine rx_getf C f_X6_9 dX6_advance_85 b_t.1 rfl ?_
      refine rx_aload_n C dX6_advance_88 0 rfl ?_
      refine rx_getf C f_X6_38 dX6_advance_89 b_t.1 rfl ?_
      refine rx_ci (rx_rSN C (w_at b_t.2 (by decide)) Y_X8_at S_X8_at m_X6_50 ⟨⟨rfl, rfl⟩, ⟨(Nat.le_of_ble_eq_true rfl), (Nat.le_of_ble_eq_true rfl)⟩, ⟨(Nat.le_of_ble_eq_true rfl), (Nat.le_of_ble_eq_true rfl)⟩⟩ rfl rfl (Nat.le_of_ble_eq_true rfl) dX6_advance_92) (fun r hh n1 hpp => ?_)
      obtain ⟨rfl, hu⟩ := hpp
      cases hu
      replace hF := rx_biE hF; obtain ⟨y12, e_y12, hF⟩ := hF
      refine rx_ci (rx_rS C (w_X6_isLetter e_y12 ) Y_X6_isLetter S_X6_isLetter m_X6_73 ⟨⟨rfl, rfl⟩, ⟨(Nat.le_of_ble_eq_true rfl), (Nat.le_of_ble_eq_true rfl)⟩, ⟨(Nat.le_of_ble_eq_true rfl), (Nat.le_of_ble_eq_true rfl)⟩⟩ rfl rfl (Nat.le_of_ble_eq_true rfl) dX6_advance_95) (fun r hh n1 hpp => ?_)
      obtain ⟨rfl, bo_y12, hu⟩ := hpp
      cases hu
      refine rx_if_eq C dX6_advance_98 108 (by decide) (fun c13 => ?_) (fun c13 => ?_)
      · rw [if_pos c13] at hF
        refine rx_aload_n C dX6_advance_108 0 rfl ?_
        refine rx_getf C f_X6_9 dX6_advance_109 b_t.1 rfl ?_
        refine rx_aload_n C dX6_advance_112 0 rfl ?_
        refine rx_getf C f_X6_38 dX6_advance_113 b_t.1 rfl ?_
        refine rx_ci (rx_rSN C (w_at b_t.2 (by decide)) Y_X8_at S_X8_at m_X6_50 ⟨⟨rfl, rfl⟩, ⟨(Nat.le_of_ble_eq_true rfl), (Nat.le_of_ble_eq_true rfl)⟩, ⟨(Nat.le_of_ble_eq_true rfl), (Nat.le_of_ble_eq_true rfl)⟩⟩ rfl rfl (Nat.le_of_ble_eq_true rfl) dX6_advance_116) (fun r hh n1 hpp => ?_)
        obtain ⟨rfl, hu⟩ := hpp
        cases hu
        replace hF := rx_biE hF; obtain ⟨y14, e_y14, hF⟩ := hF
        refine rx_ci (rx_rS C (w_X6_isDigit e_y14 ) Y_X6_isDigit S_X6_isDigit m_X6_79 ⟨⟨rfl, rfl⟩, ⟨(Nat.le_of_ble_eq_true rfl), (Nat.le_of_ble_eq_true rfl)⟩, ⟨(Nat.le_of_ble_eq_true rfl), (Nat.le_of_ble_eq_true rfl)⟩⟩ rfl rfl (Nat.le_of_ble_eq_true rfl) dX6_advance_119) (fun r hh n1 hpp => ?_)
        obtain ⟨rfl, bo_y14, hu⟩ := hpp
        cases hu
        refine rx_if_eq C dX6_advance_122 132 (by decide) (fun c15 => ?_) (fun c15 => ?_)
        · rw [if_pos c15] at hF
          refine rx_aload_n C dX6_advance_132 0 rfl ?_
          refine rx_aload_n C dX6_advance_133 0 rfl ?_
          refine rx_getf C f_X6_9 dX6_advance_134 b_t.1 rfl ?_
          refine rx_aload_n C dX6_advance_137 0 rfl ?_
          refine rx_getf C f_X6_38 dX6_advance_138 b_t.1 rfl ?_
          refine rx_ci (rx_rSN C (w_at b_t.2 (by decide)) Y_X8_at S_X8_at m_X6_50 ⟨⟨rfl, rfl⟩, ⟨(Nat.le_of_ble_eq_true rfl), (Nat.le_of_ble_eq_true rfl)⟩, ⟨(Nat.le_of_ble_eq_true rfl), (Nat.le_of_ble_eq_true rfl)⟩⟩ rfl rfl (Nat.le_of_ble_eq_true rfl) dX6_advance_141) (fun r hh n1 hpp => ?_)
          obtain ⟨rfl, hu⟩ := hpp
          cases hu
          refine rx_bipush C dX6_advance_144 (59 : Int32) (by decide) ?_
          refine rx_icmp_ne C dX6_advance_146 153 (by decide) (fun c16 => ?_) (fun c16 => ?_)
          · rw [if_neg c16] at hF
            refine rx_iconst C dX6_advance_153 (4 : Int32) (by decide) ?_
            replace hF := rx_leE hF; obtain ⟨o_t_17, e_o_t_17, hF⟩ := hF
            refine rx_pT3 C f_X6_41 dX6_advance_154 b_t e_o_t_17 (fun hh c_t ff => ?_)
            replace b_t := c_t
            replace fr := rx_frt fr ff (fun a ha => ⟨ha.1, trivial⟩)
            refine rx_aload_n C dX6_advance_157 0 rfl ?_
            refine rx_dup C dX6_advance_158 rfl ?_
            refine rx_getf C f_X6_32 dX6_advance_159 b_t.1 rfl ?_
            refine rx_iconst C dX6_advance_162 (1 : Int32) (by decide) ?_
            refine rx_iadd C dX6_advance_163 ?_
            replace hF := rx_leE hF; obtain ⟨o_t_18, e_o_t_18, hF⟩ := hF
            refine rx_pT5 C f_X6_32 dX6_advance_164 b_t e_o_t_18 (fun hh c_t ff => ?_)
            replace b_t := c_t
            replace fr := rx_frt fr ff (fun a ha => ⟨ha.1, trivial⟩)
            obtain rfl := Option.some.inj hF
            exact rx_vret C dX6_advance_167 (Nat.le_refl _) (Nat.le_refl _) ⟨rfl, b_t, fr⟩
          · rw [if_pos c16] at hF
            refine rx_iconst C dX6_advance_149 (3 : Int32) (by decide) ?_
            refine rx_goto C dX6_advance_150 154 (by decide) ?_
            replace hF := rx_leE hF; obtain ⟨o_t_19, e_o_t_19, hF⟩ := hF
            refine rx_pT3 C f_X6_41 dX6_advance_154 b_t e_o_t_19 (fun hh c_t ff => ?_)
            replace b_t := c_t
            replace fr := rx_frt fr ff (fun a ha => ⟨ha.1, trivial⟩)
            refine rx_aload_n C dX6_advance_157 0 rfl ?_
            refine rx_dup C dX6_advance_158 rfl ?_
            refine rx_getf C f_X6_32 dX6_advance_159 b_t.1 rfl ?_
            refine rx_iconst C dX6_advance_162 (1 : Int32) (by decide) ?_
            refine rx_iadd C dX6_advance_163 ?_
            replace hF := rx_leE hF; obtain ⟨o_t_20, e_o_t_20, hF⟩ := hF
            refine rx_pT5 C f_X6_32 dX6_advance_164 b_t e_o_t_20 (fun hh c_t ff => ?_)
            replace b_t := c_t
            replace fr := rx_frt fr ff (fun a ha => ⟨ha.1, trivial⟩)
            obtain rfl := Option.some.inj hF
            exact rx_vret C dX6_advance_167 (Nat.le_refl _) (Nat.le_refl _) ⟨rfl, b_t, fr⟩
        · rw [if_neg c15] at hF
          refine rx_aload_n C dX6_advance_125 0 rfl ?_
          replace hF := rx_biE hF; obtain ⟨y21, e_y21, hF⟩ := hF
          refine rx_cv (rx_rV C (w_X6_scanNumber e_y21 b_t) Y_X6_scanNumber V_X6_scanNumber m_X6_82 (Or.inl ⟨_, _, _, _, b_t.1, rfl⟩) ⟨⟨rfl, rfl⟩, ⟨(Nat.le_of_ble_eq_true rfl), (Nat.le_of_ble_eq_true rfl)⟩, ⟨(Nat.le_of_ble_eq_true rfl), (Nat.le_of_ble_eq_true rfl)⟩⟩ rfl rfl (Nat.le_of_ble_eq_true rfl) dX6_advance_126) (fun hh n1 hpp => ?_)
          obtain ⟨hn, c_t, ff⟩ := hpp
          replace hn : n = n1 := Eq.symm hn
          subst hn
          replace b_t : bT k t y21 hh := c_t
          clear c_t
          replace ff : rx_fr [(t, 2)] _ hh := ff
          replace fr := rx_frt fr ff (fun a ha => ⟨ha.1, trivial⟩)
          refine rx_goto C dX6_advance_129 167 (by decide) ?_
          obtain rfl := Option.some.inj hF
          exact rx_vret C dX6_advance_167 (Nat.le_refl _) (Nat.le_refl _) ⟨rfl, b_t, fr⟩
      · rw [if_neg c13] at hF
        refine rx_aload_n C dX6_advance_101 0 rfl ?_
        replace hF := rx_biE hF; obtain ⟨y22, e_y22, hF⟩ := hF
        refine rx_cv (rx_rV C (w_X6_scanWord e_y22 b_t) Y_X6_scanWord V_X6_scanWord m_X6_76 (Or.inl ⟨_, _, _, _, b_t.1, rfl⟩) ⟨⟨rfl, rfl⟩, ⟨(Nat.le_of_ble_eq_true rfl), (Nat.le_of_ble_eq_true rfl)⟩, ⟨(Nat.le_of_ble_eq_true rfl), (Nat.le_of_ble_eq_true rfl)⟩⟩ rfl rfl (Nat.le_of_ble_eq_true rfl) dX6_advance_102) (fun hh n1 hpp => ?_)
        obtain ⟨hn, c_t, ff⟩ := hpp
        replace hn : n = n1 := Eq.symm hn
        subst hn
        replace b_t : bT k t y22 hh := c_t
        clear c_t
        replace ff : rx_fr [(t, 2)] _ hh := ff
        replace fr := rx_frt fr ff (fun a ha => ⟨ha.1, trivial⟩)
        refine rx_goto C dX6_advance_105 167 (by decide) ?_
        obtain rfl := Option.some.inj hF
        exact rx_vret C dX6_advance_167 (Nat.le_refl _) (Nat.le_refl _) ⟨rfl, b_t, fr⟩
    · rw [if_neg c11] at hF
      refine rx_aload_n C dX6_advance_76 0 rfl ?_
      refine rx_iconst C dX6_advance_77 (0 : Int32) (by decide) ?_
      replace hF := rx_leE hF; obtain ⟨o_t_23, e_o_t_23, hF⟩ := hF
      refine rx_pT3 C f_X6_41 dX6_advance_78 b_t e_o_t_23 (fun hh c_t ff => ?_)
      replace b_t := c_t
      replace fr := rx_frt fr ff (fun a ha => ⟨ha.1, trivial⟩)
      refine rx_goto C dX6_advance_81 167 (by decide) ?_
      obtain rfl := Option.some.inj hF
      exact rx_vret C dX6_advance_167 (Nat.le_refl _) (Nat.le_refl _) ⟨rfl, b_t, fr⟩
  · rw [if_neg c1] at hF
    obtain rfl := Option.some.inj hF
    exact rx_vret C dX6_advance_7 (Nat.le_refl _) (Nat.le_refl _) ⟨rfl, b_t, fr⟩
def F_X6_open (ot : ob) (x1 : Int32) : Option (ob) := rx_le (upd ot.1 7 ((0 : Int32)), ot.2) fun o_t_1 => rx_le (upd o_t_1.1 8 ((-1 : Int32)), o_t_1.2) fun o_t_2 => rx_le (upd o_t_2.1 2 x1, o_t_2.2) fun o_t_3 => rx_le (upd o_t_3.1 5 ((0 : Int32)), o_t_3.2) fun o_t_4 => (F_X6_advance o_t_4).bind fun y5 => some y5
set_option maxRecDepth 100000 in
set_option maxHeartbeats 4000000 in
theorem w_X6_open {t : Nat} {ot : ob} {x1 : Int32} {y : ob} (hF : F_X6_open ot x1 = some y) (b_t : bT k t ot h) : Met l yX6_open (rx_ws yX6_open cX6_open 2 none) (rx_rm 3 61) (va_Pc [.ref t, .int x1] (rx_G G k h n)) (va_Qv (fun u => u.2 = n ∧ bT k t y u.1 ∧ rx_fr [(t, 2)] h u.1) (rx_B G k) (rx_A k)) 0 0 (rx_A k) := by
  refine rx_start [(0, .ref t), (1, .int x1)] rfl (Nat.le_of_ble_eq_true rfl) (by decide) rfl (fun P9 E9 S9 M9 A9 B9 me9 c9 C hname => ?_)
  unfold F_X6_open at hF
  have fr : rx_fr [(t, 2)] h h := rx_fr0
  refine rx_aload_n C dX6_open_0 0 rfl ?_
  refine rx_iconst C dX6_open_1 (0 : Int32) (by decide) ?_
  replace hF := rx_leE hF; obtain ⟨o_t_1, e_o_t_1, hF⟩ := hF
  refine rx_pT7 C f_X6_26 dX6_open_2 b_t e_o_t_1 (fun hh c_t ff => ?_)
  replace b_t := c_t
  replace fr := rx_frt fr ff (fun a ha => ⟨ha.1, trivial⟩)
  refine rx_aload_n C dX6_open_5 0 rfl ?_
  refine rx_iconst C dX6_open_6 (-1 : Int32) (by decide) ?_
  replace hF := rx_leE hF; obtain ⟨o_t_2, e_o_t_2, hF⟩ := hF
  refine rx_pT8 C f_X6_15 dX6_open_7 b_t e_o_t_2 (fun hh c_t ff => ?_)
  replace b_t := c_t
  replace fr := rx_frt fr ff (fun a ha => ⟨ha.1, trivial⟩)
  refine rx_aload_n C dX6_open_10 0 rfl ?_
  refine rx_iload_n C dX6_open_11 1 rfl ?_
  replace hF := rx_leE hF; obtain ⟨o_t_3, e_o_t_3, hF⟩ := hF
  refine rx_pT2 C f_X6_29 dX6_open_12 b_t e_o_t_3 (fun hh c_t ff => ?_)
  replace b_t := c_t
  replace fr := rx_frt fr ff (fun a ha => ⟨ha.1, trivial⟩)
  refine rx_aload_n C dX6_open_15 0 rfl ?_
  refine rx_iconst C dX6_open_16 (0 : Int32) (by decide) ?_
  replace hF := rx_leE hF; obtain ⟨o_t_4, e_o_t_4, hF⟩ := hF
  refine rx_pT5 C f_X6_32 dX6_open_17 b_t e_o_t_4 (fun hh c_t ff => ?_)
  replace b_t := c_t
  replace fr := rx_frt fr ff (fun a ha => ⟨ha.1, trivial⟩)
  refine rx_aload_n C dX6_open_20 0 rfl ?_
  replace hF := rx_biE hF; obtain ⟨y5, e_y5, hF⟩ := hF
  refine rx_cv (rx_rV C (w_X6_advance e_y5 b_t) Y_X6_advance V_X6_advance m_X6_35 (Or.inl ⟨_, _, _, _, b_t.1, rfl⟩) ⟨⟨rfl, rfl⟩, ⟨(Nat.le_of_ble_eq_true rfl), (Nat.le_of_ble_eq_true rfl)⟩, ⟨(Nat.le_of_ble_eq_true rfl), (Nat.le_of_ble_eq_true rfl)⟩⟩ rfl rfl (Nat.le_of_ble_eq_true rfl) dX6_open_21) (fun hh n1 hpp => ?_)
  obtain ⟨hn, c_t, ff⟩ := hpp
  replace hn : n = n1 := Eq.symm hn
  subst hn
  replace b_t : bT k t y5 hh := c_t
  clear c_t
  replace ff : rx_fr [(t, 2)] _ hh := ff
  replace fr := rx_frt fr ff (fun a ha => ⟨ha.1, trivial⟩)
  obtain rfl := Option.some.inj hF
  exact rx_vret C dX6_open_24 (Nat.le_refl _) (Nat.le_refl _) ⟨rfl, b_t, fr⟩
def F_X6_takeSemicolon (ot : ob) : Option (ob) := if (ot.1 3) = (3 : Int32) then ((F_X6_advance ot).bind fun y3 => some y3) else ((F_X6_fail ot ((1 : Int32))).bind fun y2 => some y2)
set_option maxRecDepth 100000 in
set_option maxHeartbeats 4000000 in
theorem w_X6_takeSemicolon {t : Nat} {ot : ob} {y : ob} (hF : F_X6_takeSemicolon ot = some y) (b_t : bT k t ot h) : Met l yX6_takeSemicolon (rx_ws yX6_takeSemicolon cX6_takeSemicolon 1 none) (rx_rm 3 61) (va_Pc [.ref t] (rx_G G k h n)) (va_Qv (fun u => u.2 = n ∧ bT k t y u.1 ∧ rx_fr [(t, 2)] h u.1) (rx_B G k) (rx_A k)) 0 0 (rx_A k) := by
  refine rx_start [(0, .ref t)] rfl (Nat.le_of_ble_eq_true rfl) (by decide) rfl (fun P9 E9 S9 M9 A9 B9 me9 c9 C hname => ?_)
  unfold F_X6_takeSemicolon at hF
  have fr : rx_fr [(t, 2)] h h := rx_fr0
  refine rx_aload_n C dX6_takeSemicolon_0 0 rfl ?_
  refine rx_getf C f_X6_41 dX6_takeSemicolon_1 b_t.1 rfl ?_
  refine rx_iconst C dX6_takeSemicolon_4 (3 : Int32) (by decide) ?_
  refine rx_icmp_ne C dX6_takeSemicolon_5 15 (by decide) (fun c1 => ?_) (fun c1 => ?_)
  · rw [if_neg c1] at hF
    refine rx_aload_n C dX6_takeSemicolon_15 0 rfl ?_
    refine rx_iconst C dX6_takeSemicolon_16 (1 : Int32) (by decide) ?_
    replace hF := rx_biE hF; obtain ⟨y2, e_y2, hF⟩ := hF
    refine rx_cv (rx_rV C (w_X6_fail e_y2 b_t) Y_X6_fail V_X6_fail m_X6_62 (Or.inl ⟨_, _, _, _, b_t.1, rfl⟩) ⟨⟨rfl, rfl⟩, ⟨(Nat.le_of_ble_eq_true rfl), (Nat.le_of_ble_eq_true rfl)⟩, ⟨(Nat.le_of_ble_eq_true rfl), (Nat.le_of_ble_eq_true rfl)⟩⟩ rfl rfl (Nat.le_of_ble_eq_true rfl) dX6_takeSemicolon_17) (fun hh n1 hpp => ?_)
    obtain ⟨hn, c_t, ff⟩ := hpp
    replace hn : n = n1 := Eq.symm hn
    subst hn
    replace b_t : bT k t y2 hh := c_t
    clear c_t
    replace ff : rx_fr [(t, 2)] _ hh := ff
    replace fr := rx_frt fr ff (fun a ha => ⟨ha.1, trivial⟩)
    obtain rfl := Option.some.inj hF
    exact rx_vret C dX6_takeSemicolon_20 (Nat.le_refl _) (Nat.le_refl _) ⟨rfl, b_t, fr⟩
  · rw [if_pos c1] at hF
    refine rx_aload_n C dX6_takeSemicolon_8 0 rfl ?_
    replace hF := rx_biE hF; obtain ⟨y3, e_y3, hF⟩ := hF
    refine rx_cv (rx_rV C (w_X6_advance e_y3 b_t) Y_X6_advance V_X6_advance m_X6_35 (Or.inl ⟨_, _, _, _, b_t.1, rfl⟩) ⟨⟨rfl, rfl⟩, ⟨(Nat.le_of_ble_eq_true rfl), (Nat.le_of_ble_eq_true rfl)⟩, ⟨(Nat.le_of_ble_eq_true rfl), (Nat.le_of_ble_eq_true rfl)⟩⟩ rfl rfl (Nat.le_of_ble_eq_true rfl) dX6_takeSemicolon_9) (fun hh n1 hpp => ?_)
    obtain ⟨hn, c_t, ff⟩ := hpp
    replace hn : n = n1 := Eq.symm hn
    subst hn
    replace b_t : bT k t y3 hh := c_t
    clear c_t
    replace ff : rx_fr [(t, 2)] _ hh := ff
    replace fr := rx_frt fr ff (fun a ha => ⟨ha.1, trivial⟩)
    refine rx_goto C dX6_takeSemicolon_12 20 (by decide) ?_
    obtain rfl := Option.some.inj hF
    exact rx_vret C dX6_takeSemicolon_20 (Nat.le_refl _) (Nat.le_refl _) ⟨rfl, b_t, fr⟩
def F_X6_takeNumber (ot : ob) (x1 : Int32) (x2 : Int32) : Option (Int32 × ob) := rx_le ((ot.1 6)) fun v1 => if (ot.1 3) = (2 : Int32) then (if v1 < x1 then ((F_X6_fail ot ((2 : Int32))).bind fun y4 => some (v1, y4)) else (if v1 ≤ x2 then ((F_X6_advance ot).bind fun y6 => some (v1, y6)) else ((F_X6_fail ot ((2 : Int32))).bind fun y7 => some (v1, y7)))) else ((F_X6_fail ot ((1 : Int32))).bind fun y8 => some (v1, y8))
set_option maxRecDepth 100000 in
set_option maxHeartbeats 4000000 in
theorem w_X6_takeNumber {t : Nat} {ot : ob} {x1 : Int32} {x2 : Int32} {y : Int32 × ob} (hF : F_X6_takeNumber ot x1 x2 = some y) (b_t : bT k t ot h) : Met l yX6_takeNumber (rx_ws yX6_takeNumber cX6_takeNumber 4 (some .int)) (rx_rm 3 61) (va_Pc [.ref t, .int x1, .int x2] (rx_G G k h n)) (va_Qi (fun r u => y.1 = r ∧ u.2 = n ∧ bT k t y.2 u.1 ∧ rx_fr [(t, 2)] h u.1) (rx_B G k) (rx_A k)) 0 0 (rx_A k) := by
  refine rx_start [(0, .ref t), (1, .int x1), (2, .int x2)] rfl (Nat.le_of_ble_eq_true rfl) (by decide) rfl (fun P9 E9 S9 M9 A9 B9 me9 c9 C hname => ?_)
  unfold F_X6_takeNumber at hF
  have fr : rx_fr [(t, 2)] h h := rx_fr0
  refine rx_aload_n C dX6_takeNumber_0 0 rfl ?_
  refine rx_getf C f_X6_66 dX6_takeNumber_1 b_t.1 rfl ?_
  replace hF := rx_leE hF; obtain ⟨v1, e_v1, hF⟩ := hF
  rw [e_v1]
  refine rx_istore_n C dX6_takeNumber_4 (by decide) [(3, .int v1), (0, .ref t), (1, .int x1), (2, .int x2)] rfl ?_
  refine rx_aload_n C dX6_takeNumber_5 1 rfl ?_
  refine rx_getf C f_X6_41 dX6_takeNumber_6 b_t.1 rfl ?_
  refine rx_iconst C dX6_takeNumber_9 (2 : Int32) (by decide) ?_
  refine rx_icmp_eq C dX6_takeNumber_10 21 (by decide) (fun c2 => ?_) (fun c2 => ?_)
  · rw [if_pos c2] at hF
    refine rx_iload_n C dX6_takeNumber_21 0 rfl ?_
    refine rx_iload_n C dX6_takeNumber_22 2 rfl ?_
    refine rx_icmp_lt C dX6_takeNumber_23 31 (by decide) (fun c3 => ?_) (fun c3 => ?_)
    · rw [if_pos c3] at hF
      refine rx_aload_n C dX6_takeNumber_31 1 rfl ?_
      refine rx_iconst C dX6_takeNumber_32 (2 : Int32) (by decide) ?_
      replace hF := rx_biE hF; obtain ⟨y4, e_y4, hF⟩ := hF
      refine rx_cv (rx_rV C (w_X6_fail e_y4 b_t) Y_X6_fail V_X6_fail m_X6_62 (Or.inl ⟨_, _, _, _, b_t.1, rfl⟩) ⟨⟨rfl, rfl⟩, ⟨(Nat.le_of_ble_eq_true rfl), (Nat.le_of_ble_eq_true rfl)⟩, ⟨(Nat.le_of_ble_eq_true rfl), (Nat.le_of_ble_eq_true rfl)⟩⟩ rfl rfl (Nat.le_of_ble_eq_true rfl) dX6_takeNumber_33) (fun hh n1 hpp => ?_)
      obtain ⟨hn, c_t, ff⟩ := hpp
      replace hn : n = n1 := Eq.symm hn
      subst hn
      replace b_t : bT k t y4 hh := c_t
      clear c_t
      replace ff : rx_fr [(t, 2)] _ hh := ff
      replace fr := rx_frt fr ff (fun a ha => ⟨ha.1, trivial⟩)
      refine rx_goto C dX6_takeNumber_36 43 (by decide) ?_
      refine rx_iload_n C dX6_takeNumber_43 0 rfl ?_
      obtain rfl := Option.some.inj hF
      exact rx_iret C dX6_takeNumber_44 (Nat.le_refl _) (Nat.le_refl _) ⟨rfl, rfl, b_t, fr⟩
    · rw [if_neg c3] at hF
      refine rx_iload_n C dX6_takeNumber_26 0 rfl ?_
      refine rx_iload_n C dX6_takeNumber_27 3 rfl ?_
      refine rx_icmp_le C dX6_takeNumber_28 39 (by decide) (fun c5 => ?_) (fun c5 => ?_)
      · rw [if_pos c5] at hF
        refine rx_aload_n C dX6_takeNumber_39 1 rfl ?_
        replace hF := rx_biE hF; obtain ⟨y6, e_y6, hF⟩ := hF
        refine rx_cv (rx_rV C (w_X6_advance e_y6 b_t) Y_X6_advance V_X6_advance m_X6_35 (Or.inl ⟨_, _, _, _, b_t.1, rfl⟩) ⟨⟨rfl, rfl⟩, ⟨(Nat.le_of_ble_eq_true rfl), (Nat.le_of_ble_eq_true rfl)⟩, ⟨(Nat.le_of_ble_eq_true rfl), (Nat.le_of_ble_eq_true rfl)⟩⟩ rfl rfl (Nat.le_of_ble_eq_true rfl) dX6_takeNumber_40) (fun hh n1 hpp => ?_)
        obtain ⟨hn, c_t, ff⟩ := hpp
        replace hn : n = n1 := Eq.symm hn
        subst hn
        replace b_t : bT k t y6 hh := c_t
        clear c_t
        replace ff : rx_fr [(t, 2)] _ hh := ff
        replace fr := rx_frt fr ff (fun a ha => ⟨ha.1, trivial⟩)
        refine rx_iload_n C dX6_takeNumber_43 0 rfl ?_
        obtain rfl := Option.some.inj hF
        exact rx_iret C dX6_takeNumber_44 (Nat.le_refl _) (Nat.le_refl _) ⟨rfl, rfl, b_t, fr⟩
      · rw [if_neg c5] at hF
        refine rx_aload_n C dX6_takeNumber_31 1 rfl ?_
        refine rx_iconst C dX6_takeNumber_32 (2 : Int32) (by decide) ?_
        replace hF := rx_biE hF; obtain ⟨y7, e_y7, hF⟩ := hF
        refine rx_cv (rx_rV C (w_X6_fail e_y7 b_t) Y_X6_fail V_X6_fail m_X6_62 (Or.inl ⟨_, _, _, _, b_t.1, rfl⟩) ⟨⟨rfl, rfl⟩, ⟨(Nat.le_of_ble_eq_true rfl), (Nat.le_of_ble_eq_true rfl)⟩, ⟨(Nat.le_of_ble_eq_true rfl), (Nat.le_of_ble_eq_true rfl)⟩⟩ rfl rfl (Nat.le_of_ble_eq_true rfl) dX6_takeNumber_33) (fun hh n1 hpp => ?_)
        obtain ⟨hn, c_t, ff⟩ := hpp
        replace hn : n = n1 := Eq.symm hn
        subst hn
        replace b_t : bT k t y7 hh := c_t
        clear c_t
        replace ff : rx_fr [(t, 2)] _ hh := ff
        replace fr := rx_frt fr ff (fun a ha => ⟨ha.1, trivial⟩)
        refine rx_goto C dX6_takeNumber_36 43 (by decide) ?_
        refine rx_iload_n C dX6_takeNumber_43 0 rfl ?_
        obtain rfl := Option.some.inj hF
        exact rx_iret C dX6_takeNumber_44 (Nat.le_refl _) (Nat.le_refl _) ⟨rfl, rfl, b_t, fr⟩
  · rw [if_neg c2] at hF
    refine rx_aload_n C dX6_takeNumber_13 1 rfl ?_
    refine rx_iconst C dX6_takeNumber_14 (1 : Int32) (by decide) ?_
    replace hF := rx_biE hF; obtain ⟨y8, e_y8, hF⟩ := hF
    refine rx_cv (rx_rV C (w_X6_fail e_y8 b_t) Y_X6_fail V_X6_fail m_X6_62 (Or.inl ⟨_, _, _, _, b_t.1, rfl⟩) ⟨⟨rfl, rfl⟩, ⟨(Nat.le_of_ble_eq_true rfl), (Nat.le_of_ble_eq_true rfl)⟩, ⟨(Nat.le_of_ble_eq_true rfl), (Nat.le_of_ble_eq_true rfl)⟩⟩ rfl rfl (Nat.le_of_ble_eq_true rfl) dX6_takeNumber_15) (fun hh n1 hpp => ?_)
    obtain ⟨hn, c_t, ff⟩ := hpp
    replace hn : n = n1 := Eq.symm hn
    subst hn
    replace b_t : bT k t y8 hh := c_t
    clear c_t
    replace ff : rx_fr [(t, 2)] _ hh := ff
    replace fr := rx_frt fr ff (fun a ha => ⟨ha.1, trivial⟩)
    refine rx_goto C dX6_takeNumber_18 43 (by decide) ?_
    refine rx_iload_n C dX6_takeNumber_43 0 rfl ?_
    obtain rfl := Option.some.inj hF
    exact rx_iret C dX6_takeNumber_44 (Nat.le_refl _) (Nat.le_refl _) ⟨rfl, rfl, b_t, fr⟩
def F_X6_isAtWord_35 (ot : ob) (s1 : Nat) : Nat → Int32 → Option (Int32)
  | 0, _ => none
  | fu + 1, x2 => if (nI (rx_len.getD s1 0)) ≤ x2 then (some ((1 : Int32))) else ((rx_chr s1 x2).bind fun v7 => if (rx_at 500 (ot.2 0) (((ot.1 4) + x2))) = v7 then (F_X6_isAtWord_35 ot s1 fu ((x2 + 1))) else (some ((0 : Int32))))
def F_X6_isAtWord (ot : ob) (s1 : Nat) : Option (Int32) := if (ot.1 7) = (0 : Int32) then (if (ot.1 3) = (1 : Int32) then (if ((ot.1 5) - (ot.1 4)) = (nI (rx_len.getD s1 0)) then (F_X6_isAtWord_35 ot s1 100000 ((0 : Int32))) else (some ((0 : Int32)))) else (some ((0 : Int32)))) else (some ((0 : Int32)))
set_option maxRecDepth 100000 in
set_option maxHeartbeats 4000000 in
theorem w_X6_isAtWord {t : Nat} {ot : ob} {s1 : Nat} {y : Int32} (hF : F_X6_isAtWord ot s1 = some y) (b_t : bT k t ot h) (hs_s1 : s1 < 14) : Met l yX6_isAtWord (rx_ws yX6_isAtWord cX6_isAtWord 3 (some .boolean)) (rx_rm 4 85) (va_Pc [.ref t, .ref (k (100 + s1))] (rx_G G k h n)) (va_Qi (fun r u => y = r ∧ (y = 0 ∨ y = 1) ∧ u = (h, n)) (rx_B G k) (rx_A k)) 0 0 (rx_A k) := by
  refine rx_start [(0, .ref t), (1, .ref (k (100 + s1)))] rfl (Nat.le_of_ble_eq_true rfl) (by decide) rfl (fun P9 E9 S9 M9 A9 B9 me9 c9 C hname => ?_)
  unfold F_X6_isAtWord at hF
  refine rx_aload_n C dX6_isAtWord_0 0 rfl ?_
  refine rx_getf C f_X6_26 dX6_isAtWord_1 b_t.1 rfl ?_
  refine rx_if_ne C dX6_isAtWord_4 31 (by decide) (fun c1 => ?_) (fun c1 => ?_)
  · rw [if_neg c1] at hF
    refine rx_iconst C dX6_isAtWord_31 (0 : Int32) (by decide) ?_
    obtain rfl := Option.some.inj hF
    exact rx_zret C (rx_nz (Or.inl rfl)) dX6_isAtWord_32 (Nat.le_refl _) (Nat.le_refl _) ⟨rfl, (Or.inl rfl), rfl⟩
  · rw [if_pos c1] at hF
    refine rx_aload_n C dX6_isAtWord_7 0 rfl ?_
    refine rx_getf C f_X6_41 dX6_isAtWord_8 b_t.1 rfl ?_
    refine rx_iconst C dX6_isAtWord_11 (1 : Int32) (by decide) ?_
    refine rx_icmp_ne C dX6_isAtWord_12 31 (by decide) (fun c2 => ?_) (fun c2 => ?_)
    · rw [if_neg c2] at hF
      refine rx_iconst C dX6_isAtWord_31 (0 : Int32) (by decide) ?_
      obtain rfl := Option.some.inj hF
      exact rx_zret C (rx_nz (Or.inl rfl)) dX6_isAtWord_32 (Nat.le_refl _) (Nat.le_refl _) ⟨rfl, (Or.inl rfl), rfl⟩
    · rw [if_pos c2] at hF
      refine rx_aload_n C dX6_isAtWord_15 0 rfl ?_
      refine rx_getf C f_X6_32 dX6_isAtWord_16 b_t.1 rfl ?_
      refine rx_aload_n C dX6_isAtWord_19 0 rfl ?_
      refine rx_getf C f_X6_38 dX6_isAtWord_20 b_t.1 rfl ?_
      refine rx_isub C dX6_isAtWord_23 ?_
      refine rx_aload_n C dX6_isAtWord_24 1 rfl ?_
      refine rx_ci (rx_rV C (w_length hs_s1) Y_J0_length_8abf5 V_J0_length_8abf5 m_X6_44 (Or.inr (C.2.2.2.2.2.2.2.2.2.2.2.2.2.2.1.1 _ hs_s1).1) ⟨⟨rfl, rfl⟩, ⟨(Nat.le_of_ble_eq_true rfl), (Nat.le_of_ble_eq_true rfl)⟩, ⟨(Nat.le_of_ble_eq_true rfl), (Nat.le_of_ble_eq_true rfl)⟩⟩ rfl rfl (Nat.le_of_ble_eq_true rfl) dX6_isAtWord_25) (fun r hh n1 hpp => ?_)
      obtain ⟨rfl, hu⟩ := hpp
      cases hu
      refine rx_icmp_eq C dX6_isAtWord_28 33 (by decide) (fun c3 => ?_) (fun c3 => ?_)
      · rw [if_pos c3] at hF
        refine rx_iconst C dX6_isAtWord_33 (0 : Int32) (by decide) ?_
        refine rx_istore_n C dX6_isAtWord_34 (by decide) [(2, .int ((0 : Int32))), (0, .ref t), (1, .ref (k (100 + s1)))] rfl ?_
        have loop5 : ∀ (fu : Nat)  (x2 : Int32), F_X6_isAtWord_35 ot s1 fu x2 = some y → bT k t ot h → rx_W P9 l E9 (rx_rm 4 85) S9 M9 A9 B9 me9 c9 (MQ B9 (va_Qi (fun r u => y = r ∧ (y = 0 ∨ y = 1) ∧ u = (h, n)) (rx_B G k) (rx_A k)) A9 S9 0 0 (rx_A k)) G k 3 0 0 h n 35 [(0, .ref t), (1, .ref (k (100 + s1))), (2, .int x2)] [] := by
          intro fu
          induction fu with
          | zero => intro x2 hF b_t; exact absurd hF (by simp [F_X6_isAtWord_35])
          | succ fu ih_loop5 =>
            intro x2 hF b_t
            unfold F_X6_isAtWord_35 at hF
            refine rx_iload_n C dX6_isAtWord_35 2 rfl ?_
            refine rx_aload_n C dX6_isAtWord_36 1 rfl ?_
            refine rx_ci (rx_rV C (w_length hs_s1) Y_J0_length_8abf5 V_J0_length_8abf5 m_X6_44 (Or.inr (C.2.2.2.2.2.2.2.2.2.2.2.2.2.2.1.1 _ hs_s1).1) ⟨⟨rfl, rfl⟩, ⟨(Nat.le_of_ble_eq_true rfl), (Nat.le_of_ble_eq_true rfl)⟩, ⟨(Nat.le_of_ble_eq_true rfl), (Nat.le_of_ble_eq_true rfl)⟩⟩ rfl rfl (Nat.le_of_ble_eq_true rfl) dX6_isAtWord_37) (fun r hh n1 hpp => ?_)
            obtain ⟨rfl, hu⟩ := hpp
            cases hu
            refine rx_icmp_ge C dX6_isAtWord_40 72 (by decide) (fun c6 => ?_) (fun c6 => ?_)
            · rw [if_pos c6] at hF
              refine rx_iconst C dX6_isAtWord_72 (1 : Int32) (by decide) ?_
              obtain rfl := Option.some.inj hF
              exact rx_zret C (rx_nz (Or.inr rfl)) dX6_isAtWord_73 (Nat.le_refl _) (Nat.le_refl _) ⟨rfl, (Or.inr rfl), rfl⟩
            · rw [if_neg c6] at hF
              refine rx_aload_n C dX6_isAtWord_43 0 rfl ?_
              refine rx_getf C f_X6_9 dX6_isAtWord_44 b_t.1 rfl ?_
              refine rx_aload_n C dX6_isAtWord_47 0 rfl ?_
              refine rx_getf C f_X6_38 dX6_isAtWord_48 b_t.1 rfl ?_
              refine rx_iload_n C dX6_isAtWord_51 2 rfl ?_
              refine rx_iadd C dX6_isAtWord_52 ?_
              refine rx_ci (rx_rSN C (w_at b_t.2 (by decide)) Y_X8_at S_X8_at m_X6_50 ⟨⟨rfl, rfl⟩, ⟨(Nat.le_of_ble_eq_true rfl), (Nat.le_of_ble_eq_true rfl)⟩, ⟨(Nat.le_of_ble_eq_true rfl), (Nat.le_of_ble_eq_true rfl)⟩⟩ rfl rfl (Nat.le_of_ble_eq_true rfl) dX6_isAtWord_53) (fun r hh n1 hpp => ?_)
              obtain ⟨rfl, hu⟩ := hpp
              cases hu
              refine rx_aload_n C dX6_isAtWord_56 1 rfl ?_
              refine rx_iload_n C dX6_isAtWord_57 2 rfl ?_
              replace hF := rx_biE hF; obtain ⟨v7, e_v7, hF⟩ := hF
              refine rx_ci (rx_rV C (w_charAt hs_s1 e_v7 (rx_chr255 hs_s1 e_v7)) Y_J0_charAt_5068e V_J0_charAt_5068e m_X6_54 (Or.inr (C.2.2.2.2.2.2.2.2.2.2.2.2.2.2.1.1 _ hs_s1).1) ⟨⟨rfl, rfl⟩, ⟨(Nat.le_of_ble_eq_true rfl), (Nat.le_of_ble_eq_true rfl)⟩, ⟨(Nat.le_of_ble_eq_true rfl), (Nat.le_of_ble_eq_true rfl)⟩⟩ rfl rfl (Nat.le_of_ble_eq_true rfl) dX6_isAtWord_58) (fun r hh n1 hpp => ?_)
              obtain ⟨rfl, hu⟩ := hpp
              cases hu
              refine rx_icmp_eq C dX6_isAtWord_61 66 (by decide) (fun c8 => ?_) (fun c8 => ?_)
              · rw [if_pos c8] at hF
                refine rx_iinc C dX6_isAtWord_66 2 rfl (x2 + 1) rfl (by decide) [(2, .int ((x2 + 1))), (0, .ref t), (1, .ref (k (100 + s1)))] rfl ?_
                refine rx_goto C dX6_isAtWord_69 35 (by decide) ?_
                refine rx_sub [1, 2, 0] rfl ?_
                exact ih_loop5 _ hF b_t
              · rw [if_neg c8] at hF
                refine rx_iconst C dX6_isAtWord_64 (0 : Int32) (by decide) ?_
                obtain rfl := Option.some.inj hF
                exact rx_zret C (rx_nz (Or.inl rfl)) dX6_isAtWord_65 (Nat.le_refl _) (Nat.le_refl _) ⟨rfl, (Or.inl rfl), rfl⟩
        refine rx_sub [1, 2, 0] rfl ?_
        exact loop5 _ _ hF b_t
      · rw [if_neg c3] at hF
        refine rx_iconst C dX6_isAtWord_31 (0 : Int32) (by decide) ?_
        obtain rfl := Option.some.inj hF
        exact rx_zret C (rx_nz (Or.inl rfl)) dX6_isAtWord_32 (Nat.le_refl _) (Nat.le_refl _) ⟨rfl, (Or.inl rfl), rfl⟩
def F_X6_takeWord (ot : ob) (s1 : Nat) : Option (ob) := (F_X6_isAtWord ot s1).bind fun y1 => if y1 = (0 : Int32) then ((F_X6_fail ot ((1 : Int32))).bind fun y3 => some y3) else ((F_X6_advance ot).bind fun y4 => some y4)
set_option maxRecDepth 100000 in
set_option maxHeartbeats 4000000 in
theorem w_X6_takeWord {t : Nat} {ot : ob} {s1 : Nat} {y : ob} (hF : F_X6_takeWord ot s1 = some y) (b_t : bT k t ot h) (hs_s1 : s1 < 14) : Met l yX6_takeWord (rx_ws yX6_takeWord cX6_takeWord 2 none) (rx_rm 5 107) (va_Pc [.ref t, .ref (k (100 + s1))] (rx_G G k h n)) (va_Qv (fun u => u.2 = n ∧ bT k t y u.1 ∧ rx_fr [(t, 2)] h u.1) (rx_B G k) (rx_A k)) 0 0 (rx_A k) := by
  refine rx_start [(0, .ref t), (1, .ref (k (100 + s1)))] rfl (Nat.le_of_ble_eq_true rfl) (by decide) rfl (fun P9 E9 S9 M9 A9 B9 me9 c9 C hname => ?_)
  unfold F_X6_takeWord at hF
  have fr : rx_fr [(t, 2)] h h := rx_fr0
  refine rx_aload_n C dX6_takeWord_0 0 rfl ?_
  refine rx_aload_n C dX6_takeWord_1 1 rfl ?_
  replace hF := rx_biE hF; obtain ⟨y1, e_y1, hF⟩ := hF
  refine rx_ci (rx_rV C (w_X6_isAtWord e_y1 b_t hs_s1) Y_X6_isAtWord V_X6_isAtWord m_X6_58 (Or.inl ⟨_, _, _, _, b_t.1, rfl⟩) ⟨⟨rfl, rfl⟩, ⟨(Nat.le_of_ble_eq_true rfl), (Nat.le_of_ble_eq_true rfl)⟩, ⟨(Nat.le_of_ble_eq_true rfl), (Nat.le_of_ble_eq_true rfl)⟩⟩ rfl rfl (Nat.le_of_ble_eq_true rfl) dX6_takeWord_2) (fun r hh n1 hpp => ?_)
  obtain ⟨rfl, bo_y1, hu⟩ := hpp
  cases hu
  refine rx_if_eq C dX6_takeWord_5 15 (by decide) (fun c2 => ?_) (fun c2 => ?_)
  · rw [if_pos c2] at hF
    refine rx_aload_n C dX6_takeWord_15 0 rfl ?_
    refine rx_iconst C dX6_takeWord_16 (1 : Int32) (by decide) ?_
    replace hF := rx_biE hF; obtain ⟨y3, e_y3, hF⟩ := hF
    refine rx_cv (rx_rV C (w_X6_fail e_y3 b_t) Y_X6_fail V_X6_fail m_X6_62 (Or.inl ⟨_, _, _, _, b_t.1, rfl⟩) ⟨⟨rfl, rfl⟩, ⟨(Nat.le_of_ble_eq_true rfl), (Nat.le_of_ble_eq_true rfl)⟩, ⟨(Nat.le_of_ble_eq_true rfl), (Nat.le_of_ble_eq_true rfl)⟩⟩ rfl rfl (Nat.le_of_ble_eq_true rfl) dX6_takeWord_17) (fun hh n1 hpp => ?_)
    obtain ⟨hn, c_t, ff⟩ := hpp
    replace hn : n = n1 := Eq.symm hn
    subst hn
    replace b_t : bT k t y3 hh := c_t
    clear c_t
    replace ff : rx_fr [(t, 2)] _ hh := ff
    replace fr := rx_frt fr ff (fun a ha => ⟨ha.1, trivial⟩)
    obtain rfl := Option.some.inj hF
    exact rx_vret C dX6_takeWord_20 (Nat.le_refl _) (Nat.le_refl _) ⟨rfl, b_t, fr⟩
  · rw [if_neg c2] at hF
    refine rx_aload_n C dX6_takeWord_8 0 rfl ?_
    replace hF := rx_biE hF; obtain ⟨y4, e_y4, hF⟩ := hF
    refine rx_cv (rx_rV C (w_X6_advance e_y4 b_t) Y_X6_advance V_X6_advance m_X6_35 (Or.inl ⟨_, _, _, _, b_t.1, rfl⟩) ⟨⟨rfl, rfl⟩, ⟨(Nat.le_of_ble_eq_true rfl), (Nat.le_of_ble_eq_true rfl)⟩, ⟨(Nat.le_of_ble_eq_true rfl), (Nat.le_of_ble_eq_true rfl)⟩⟩ rfl rfl (Nat.le_of_ble_eq_true rfl) dX6_takeWord_9) (fun hh n1 hpp => ?_)
    obtain ⟨hn, c_t, ff⟩ := hpp
    replace hn : n = n1 := Eq.symm hn
    subst hn
    replace b_t : bT k t y4 hh := c_t
    clear c_t
    replace ff : rx_fr [(t, 2)] _ hh := ff
    replace fr := rx_frt fr ff (fun a ha => ⟨ha.1, trivial⟩)
    refine rx_goto C dX6_takeWord_12 20 (by decide) ?_
    obtain rfl := Option.some.inj hF
    exact rx_vret C dX6_takeWord_20 (Nat.le_refl _) (Nat.le_refl _) ⟨rfl, b_t, fr⟩
def F_X6_takeEither (ot : ob) (s1 : Nat) (s2 : Nat) : Option (Int32 × ob) := (F_X6_isAtWord ot s2).bind fun y1 => if y1 = (0 : Int32) then ((F_X6_isAtWord ot s1).bind fun y5 => if y5 = (0 : Int32) then ((F_X6_fail ot ((1 : Int32))).bind fun y7 => if y1 = (0 : Int32) then (some ((0 : Int32), y7)) else (some ((1 : Int32), y7))) else ((F_X6_advance ot).bind fun y9 => if y1 = (0 : Int32) then (some ((0 : Int32), y9)) else (some ((1 : Int32), y9)))) else ((F_X6_advance ot).bind fun y3 => if y1 = (0 : Int32) then (some ((0 : Int32), y3)) else (some ((1 : Int32), y3)))
set_option maxRecDepth 100000 in
set_option maxHeartbeats 4000000 in
theorem w_X6_takeEither {t : Nat} {ot : ob} {s1 : Nat} {s2 : Nat} {y : Int32 × ob} (hF : F_X6_takeEither ot s1 s2 = some y) (b_t : bT k t ot h) (hs_s1 : s1 < 14) (hs_s2 : s2 < 14) : Met l yX6_takeEither (rx_ws yX6_takeEither cX6_takeEither 4 (some .int)) (rx_rm 5 107) (va_Pc [.ref t, .ref (k (100 + s1)), .ref (k (100 + s2))] (rx_G G k h n)) (va_Qi (fun r u => y.1 = r ∧ u.2 = n ∧ bT k t y.2 u.1 ∧ rx_fr [(t, 2)] h u.1) (rx_B G k) (rx_A k)) 0 0 (rx_A k) := by
  refine rx_start [(0, .ref t), (1, .ref (k (100 + s1))), (2, .ref (k (100 + s2)))] rfl (Nat.le_of_ble_eq_true rfl) (by decide) rfl (fun P9 E9 S9 M9 A9 B9 me9 c9 C hname => ?_)
  unfold F_X6_takeEither at hF
  have fr : rx_fr [(t, 2)] h h := rx_fr0
  refine rx_aload_n C dX6_takeEither_0 0 rfl ?_
  refine rx_aload_n C dX6_takeEither_1 2 rfl ?_
  replace hF := rx_biE hF; obtain ⟨y1, e_y1, hF⟩ := hF
  refine rx_ci (rx_rV C (w_X6_isAtWord e_y1 b_t hs_s2) Y_X6_isAtWord V_X6_isAtWord m_X6_58 (Or.inl ⟨_, _, _, _, b_t.1, rfl⟩) ⟨⟨rfl, rfl⟩, ⟨(Nat.le_of_ble_eq_true rfl), (Nat.le_of_ble_eq_true rfl)⟩, ⟨(Nat.le_of_ble_eq_true rfl), (Nat.le_of_ble_eq_true rfl)⟩⟩ rfl rfl (Nat.le_of_ble_eq_true rfl) dX6_takeEither_2) (fun r hh n1 hpp => ?_)
  obtain ⟨rfl, bo_y1, hu⟩ := hpp
  cases hu
  refine rx_istore_n C dX6_takeEither_5 (by decide) [(3, .int y1), (0, .ref t), (1, .ref (k (100 + s1))), (2, .ref (k (100 + s2)))] rfl ?_
  refine rx_iload_n C dX6_takeEither_6 0 rfl ?_
  refine rx_if_ne C dX6_takeEither_7 18 (by decide) (fun c2 => ?_) (fun c2 => ?_)
  · rw [if_neg c2] at hF
    refine rx_aload_n C dX6_takeEither_18 1 rfl ?_
    replace hF := rx_biE hF; obtain ⟨y3, e_y3, hF⟩ := hF
    refine rx_cv (rx_rV C (w_X6_advance e_y3 b_t) Y_X6_advance V_X6_advance m_X6_35 (Or.inl ⟨_, _, _, _, b_t.1, rfl⟩) ⟨⟨rfl, rfl⟩, ⟨(Nat.le_of_ble_eq_true rfl), (Nat.le_of_ble_eq_true rfl)⟩, ⟨(Nat.le_of_ble_eq_true rfl), (Nat.le_of_ble_eq_true rfl)⟩⟩ rfl rfl (Nat.le_of_ble_eq_true rfl) dX6_takeEither_19) (fun hh n1 hpp => ?_)
    obtain ⟨hn, c_t, ff⟩ := hpp
    replace hn : n = n1 := Eq.symm hn
    subst hn
    replace b_t : bT k t y3 hh := c_t
    clear c_t
    replace ff : rx_fr [(t, 2)] _ hh := ff
    replace fr := rx_frt fr ff (fun a ha => ⟨ha.1, trivial⟩)
    refine rx_goto C dX6_takeEither_22 30 (by decide) ?_
    refine rx_iload_n C dX6_takeEither_30 0 rfl ?_
    refine rx_if_eq C dX6_takeEither_31 38 (by decide) (fun c4 => ?_) (fun c4 => ?_)
    · rw [if_pos c4] at hF
      refine rx_iconst C dX6_takeEither_38 (0 : Int32) (by decide) ?_
      obtain rfl := Option.some.inj hF
      exact rx_iret C dX6_takeEither_39 (Nat.le_refl _) (Nat.le_refl _) ⟨rfl, rfl, b_t, fr⟩
    · rw [if_neg c4] at hF
      refine rx_iconst C dX6_takeEither_34 (1 : Int32) (by decide) ?_
      refine rx_goto C dX6_takeEither_35 39 (by decide) ?_
      obtain rfl := Option.some.inj hF
      exact rx_iret C dX6_takeEither_39 (Nat.le_refl _) (Nat.le_refl _) ⟨rfl, rfl, b_t, fr⟩
  · rw [if_pos c2] at hF
    refine rx_aload_n C dX6_takeEither_10 1 rfl ?_
    refine rx_aload_n C dX6_takeEither_11 2 rfl ?_
    replace hF := rx_biE hF; obtain ⟨y5, e_y5, hF⟩ := hF
    refine rx_ci (rx_rV C (w_X6_isAtWord e_y5 b_t hs_s1) Y_X6_isAtWord V_X6_isAtWord m_X6_58 (Or.inl ⟨_, _, _, _, b_t.1, rfl⟩) ⟨⟨rfl, rfl⟩, ⟨(Nat.le_of_ble_eq_true rfl), (Nat.le_of_ble_eq_true rfl)⟩, ⟨(Nat.le_of_ble_eq_true rfl), (Nat.le_of_ble_eq_true rfl)⟩⟩ rfl rfl (Nat.le_of_ble_eq_true rfl) dX6_takeEither_12) (fun r hh n1 hpp => ?_)
    obtain ⟨rfl, bo_y5, hu⟩ := hpp
    cases hu
    refine rx_if_eq C dX6_takeEither_15 25 (by decide) (fun c6 => ?_) (fun c6 => ?_)
    · rw [if_pos c6] at hF
      refine rx_aload_n C dX6_takeEither_25 1 rfl ?_
      refine rx_iconst C dX6_takeEither_26 (1 : Int32) (by decide) ?_
      replace hF := rx_biE hF; obtain ⟨y7, e_y7, hF⟩ := hF
      refine rx_cv (rx_rV C (w_X6_fail e_y7 b_t) Y_X6_fail V_X6_fail m_X6_62 (Or.inl ⟨_, _, _, _, b_t.1, rfl⟩) ⟨⟨rfl, rfl⟩, ⟨(Nat.le_of_ble_eq_true rfl), (Nat.le_of_ble_eq_true rfl)⟩, ⟨(Nat.le_of_ble_eq_true rfl), (Nat.le_of_ble_eq_true rfl)⟩⟩ rfl rfl (Nat.le_of_ble_eq_true rfl) dX6_takeEither_27) (fun hh n1 hpp => ?_)
      obtain ⟨hn, c_t, ff⟩ := hpp
      replace hn : n = n1 := Eq.symm hn
      subst hn
      replace b_t : bT k t y7 hh := c_t
      clear c_t
      replace ff : rx_fr [(t, 2)] _ hh := ff
      replace fr := rx_frt fr ff (fun a ha => ⟨ha.1, trivial⟩)
      refine rx_iload_n C dX6_takeEither_30 0 rfl ?_
      refine rx_if_eq C dX6_takeEither_31 38 (by decide) (fun c8 => ?_) (fun c8 => ?_)
      · rw [if_pos c8] at hF
        refine rx_iconst C dX6_takeEither_38 (0 : Int32) (by decide) ?_
        obtain rfl := Option.some.inj hF
        exact rx_iret C dX6_takeEither_39 (Nat.le_refl _) (Nat.le_refl _) ⟨rfl, rfl, b_t, fr⟩
      · rw [if_neg c8] at hF
        refine rx_iconst C dX6_takeEither_34 (1 : Int32) (by decide) ?_
        refine rx_goto C dX6_takeEither_35 39 (by decide) ?_
        obtain rfl := Option.some.inj hF
        exact rx_iret C dX6_takeEither_39 (Nat.le_refl _) (Nat.le_refl _) ⟨rfl, rfl, b_t, fr⟩
    · rw [if_neg c6] at hF
      refine rx_aload_n C dX6_takeEither_18 1 rfl ?_
      replace hF := rx_biE hF; obtain ⟨y9, e_y9, hF⟩ := hF
      refine rx_cv (rx_rV C (w_X6_advance e_y9 b_t) Y_X6_advance V_X6_advance m_X6_35 (Or.inl ⟨_, _, _, _, b_t.1, rfl⟩) ⟨⟨rfl, rfl⟩, ⟨(Nat.le_of_ble_eq_true rfl), (Nat.le_of_ble_eq_true rfl)⟩, ⟨(Nat.le_of_ble_eq_true rfl), (Nat.le_of_ble_eq_true rfl)⟩⟩ rfl rfl (Nat.le_of_ble_eq_true rfl) dX6_takeEither_19) (fun hh n1 hpp => ?_)
      obtain ⟨hn, c_t, ff⟩ := hpp
      replace hn : n = n1 := Eq.symm hn
      subst hn
      replace b_t : bT k t y9 hh := c_t
      clear c_t
      replace ff : rx_fr [(t, 2)] _ hh := ff
      replace fr := rx_frt fr ff (fun a ha => ⟨ha.1, trivial⟩)
      refine rx_goto C dX6_takeEither_22 30 (by decide) ?_
      refine rx_iload_n C dX6_takeEither_30 0 rfl ?_
      refine rx_if_eq C dX6_takeEither_31 38 (by decide) (fun c10 => ?_) (fun c10 => ?_)
      · rw [if_pos c10] at hF
        refine rx_iconst C dX6_takeEither_38 (0 : Int32) (by decide) ?_
        obtain rfl := Option.some.inj hF
        exact rx_iret C dX6_takeEither_39 (Nat.le_refl _) (Nat.le_refl _) ⟨rfl, rfl, b_t, fr⟩
      · rw [if_neg c10] at hF
        refine rx_iconst C dX6_takeEither_34 (1 : Int32) (by decide) ?_
        refine rx_goto C dX6_takeEither_35 39 (by decide) ?_
        obtain rfl := Option.some.inj hF
        exact rx_iret C dX6_takeEither_39 (Nat.le_refl _) (Nat.le_refl _) ⟨rfl, rfl, b_t, fr⟩
end GEN
