section GEN
variable {l : Launch} {G : va_G} {k : Nat → Nat} {h : hp} {n : Nat}
def F_X3_copyFrom (oq : ob) (oq2 : ob) : Option (ob) := rx_le (upd oq.1 2 ((oq2.1 2)), oq.2) fun o_q_1 => rx_le (o_q_1.1, va_up o_q_1.2 0 (rx_cp 10 10 (oq2.2 0) (o_q_1.2 0))) fun o_q_2 => rx_le (o_q_2.1, va_up o_q_2.2 1 (rx_cp 10 10 (oq2.2 1) (o_q_2.2 1))) fun o_q_3 => some o_q_3
set_option maxRecDepth 100000 in
set_option maxHeartbeats 4000000 in
theorem w_X3_copyFrom {q q2 : Nat} {oq : ob} {oq2 : ob} {y : ob} (hF : F_X3_copyFrom oq oq2 = some y) (b_q : bQ k q oq h) (b_q2 : bQ k q2 oq2 h) (hd0 : q + 3 ≤ q2 ∨ q2 + 3 ≤ q) : Met l yX3_copyFrom (rx_ws yX3_copyFrom cX3_copyFrom 2 none) (rx_rm 2 61) (va_Pc [.ref q, .ref q2] (rx_G G k h n)) (va_Qv (fun u => u.2 = n ∧ bQ k q y u.1 ∧ rx_fr [(q, 3)] h u.1) (rx_B G k) (rx_A k)) 0 0 (rx_A k) := by
  have s_q2_q : q2 + 3 ≤ q ∨ q + 3 ≤ q2 := by omega
  refine rx_start [(0, .ref q), (1, .ref q2)] rfl (Nat.le_of_ble_eq_true rfl) (by decide) rfl (fun P9 E9 S9 M9 A9 B9 me9 c9 C hname => ?_)
  unfold F_X3_copyFrom at hF
  have fr : rx_fr [(q, 3)] h h := rx_fr0
  refine rx_aload_n C dX3_copyFrom_0 0 rfl ?_
  refine rx_aload_n C dX3_copyFrom_1 1 rfl ?_
  refine rx_getf C f_X3_18 dX3_copyFrom_2 b_q2.1 rfl ?_
  replace hF := rx_leE hF; obtain ⟨o_q_1, e_o_q_1, hF⟩ := hF
  refine rx_pQ2 C f_X3_18 dX3_copyFrom_5 b_q e_o_q_1 (fun hh c_q ff => ?_)
  replace b_q := c_q
  replace b_q2 := b_q2.keep ff ⟨s_q2_q, trivial⟩
  replace fr := rx_frt fr ff (fun a ha => ⟨ha.1, trivial⟩)
  refine rx_aload_n C dX3_copyFrom_8 1 rfl ?_
  refine rx_getf C f_X3_9 dX3_copyFrom_9 b_q2.1 rfl ?_
  refine rx_aload_n C dX3_copyFrom_12 0 rfl ?_
  refine rx_getf C f_X3_9 dX3_copyFrom_13 b_q.1 rfl ?_
  replace hF := rx_leE hF; obtain ⟨o_q_2, e_o_q_2, hF⟩ := hF
  refine rx_cv (rx_rSN C (w_copyRow b_q2.2.1 b_q.2.1 (by decide) (by decide)) Y_X8_copyRow S_X8_copyRow m_X3_22 ⟨⟨rfl, rfl⟩, ⟨(Nat.le_of_ble_eq_true rfl), (Nat.le_of_ble_eq_true rfl)⟩, ⟨(Nat.le_of_ble_eq_true rfl), (Nat.le_of_ble_eq_true rfl)⟩⟩ rfl rfl (Nat.le_of_ble_eq_true rfl) dX3_copyFrom_16) (fun hh n1 hpp => ?_)
  obtain ⟨c_q, ff, hn⟩ := b_q.wr0 e_o_q_2 hpp
  replace hn := Eq.symm hn
  subst hn
  replace b_q := c_q
  replace b_q2 := b_q2.keep ff ⟨s_q2_q, trivial⟩
  replace fr := rx_frt fr ff (fun a ha => ⟨ha.1, trivial⟩)
  refine rx_aload_n C dX3_copyFrom_19 1 rfl ?_
  refine rx_getf C f_X3_15 dX3_copyFrom_20 b_q2.1 rfl ?_
  refine rx_aload_n C dX3_copyFrom_23 0 rfl ?_
  refine rx_getf C f_X3_15 dX3_copyFrom_24 b_q.1 rfl ?_
  replace hF := rx_leE hF; obtain ⟨o_q_3, e_o_q_3, hF⟩ := hF
  refine rx_cv (rx_rSN C (w_copyRow b_q2.2.2 b_q.2.2 (by decide) (by decide)) Y_X8_copyRow S_X8_copyRow m_X3_22 ⟨⟨rfl, rfl⟩, ⟨(Nat.le_of_ble_eq_true rfl), (Nat.le_of_ble_eq_true rfl)⟩, ⟨(Nat.le_of_ble_eq_true rfl), (Nat.le_of_ble_eq_true rfl)⟩⟩ rfl rfl (Nat.le_of_ble_eq_true rfl) dX3_copyFrom_27) (fun hh n1 hpp => ?_)
  obtain ⟨c_q, ff, hn⟩ := b_q.wr1 e_o_q_3 hpp
  replace hn := Eq.symm hn
  subst hn
  replace b_q := c_q
  replace b_q2 := b_q2.keep ff ⟨s_q2_q, trivial⟩
  replace fr := rx_frt fr ff (fun a ha => ⟨ha.1, trivial⟩)
  obtain rfl := Option.some.inj hF
  exact rx_vret C dX3_copyFrom_30 (Nat.le_refl _) (Nat.le_refl _) ⟨rfl, b_q, fr⟩
def F_X3_personAt (oq : ob) (x1 : Int32) : Option (Int32) := if x1 < (0 : Int32) then (some ((-1 : Int32))) else (if (oq.1 2) ≤ x1 then (some ((-1 : Int32))) else (some ((rx_at 10 (oq.2 0) x1))))
set_option maxRecDepth 100000 in
set_option maxHeartbeats 4000000 in
theorem w_X3_personAt {q : Nat} {oq : ob} {x1 : Int32} {y : Int32} (hF : F_X3_personAt oq x1 = some y) (b_q : bQ k q oq h) : Met l yX3_personAt (rx_ws yX3_personAt cX3_personAt 2 (some .int)) (rx_rm 1 21) (va_Pc [.ref q, .int x1] (rx_G G k h n)) (va_Qi (fun r u => y = r ∧ u = (h, n)) (rx_B G k) (rx_A k)) 0 0 (rx_A k) := by
  refine rx_start [(0, .ref q), (1, .int x1)] rfl (Nat.le_of_ble_eq_true rfl) (by decide) rfl (fun P9 E9 S9 M9 A9 B9 me9 c9 C hname => ?_)
  unfold F_X3_personAt at hF
  refine rx_iload_n C dX3_personAt_0 1 rfl ?_
  refine rx_if_lt C dX3_personAt_1 23 (by decide) (fun c1 => ?_) (fun c1 => ?_)
  · rw [if_pos c1] at hF
    refine rx_iconst C dX3_personAt_23 (-1 : Int32) (by decide) ?_
    obtain rfl := Option.some.inj hF
    exact rx_iret C dX3_personAt_24 (Nat.le_refl _) (Nat.le_refl _) ⟨rfl, rfl⟩
  · rw [if_neg c1] at hF
    refine rx_iload_n C dX3_personAt_4 1 rfl ?_
    refine rx_aload_n C dX3_personAt_5 0 rfl ?_
    refine rx_getf C f_X3_18 dX3_personAt_6 b_q.1 rfl ?_
    refine rx_icmp_ge C dX3_personAt_9 23 (by decide) (fun c2 => ?_) (fun c2 => ?_)
    · rw [if_pos c2] at hF
      refine rx_iconst C dX3_personAt_23 (-1 : Int32) (by decide) ?_
      obtain rfl := Option.some.inj hF
      exact rx_iret C dX3_personAt_24 (Nat.le_refl _) (Nat.le_refl _) ⟨rfl, rfl⟩
    · rw [if_neg c2] at hF
      refine rx_aload_n C dX3_personAt_12 0 rfl ?_
      refine rx_getf C f_X3_9 dX3_personAt_13 b_q.1 rfl ?_
      refine rx_iload_n C dX3_personAt_16 1 rfl ?_
      refine rx_ci (rx_rSN C (w_at b_q.2.1 (by decide)) Y_X8_at S_X8_at m_X3_26 ⟨⟨rfl, rfl⟩, ⟨(Nat.le_of_ble_eq_true rfl), (Nat.le_of_ble_eq_true rfl)⟩, ⟨(Nat.le_of_ble_eq_true rfl), (Nat.le_of_ble_eq_true rfl)⟩⟩ rfl rfl (Nat.le_of_ble_eq_true rfl) dX3_personAt_17) (fun r hh n1 hpp => ?_)
      obtain ⟨rfl, hu⟩ := hpp
      cases hu
      refine rx_goto C dX3_personAt_20 24 (by decide) ?_
      obtain rfl := Option.some.inj hF
      exact rx_iret C dX3_personAt_24 (Nat.le_refl _) (Nat.le_refl _) ⟨rfl, rfl⟩
def F_X3_offerAt (oq : ob) (x1 : Int32) : Option (Int32) := if x1 < (0 : Int32) then (some ((-1 : Int32))) else (if (oq.1 2) ≤ x1 then (some ((-1 : Int32))) else (some ((rx_at 10 (oq.2 1) x1))))
set_option maxRecDepth 100000 in
set_option maxHeartbeats 4000000 in
theorem w_X3_offerAt {q : Nat} {oq : ob} {x1 : Int32} {y : Int32} (hF : F_X3_offerAt oq x1 = some y) (b_q : bQ k q oq h) : Met l yX3_offerAt (rx_ws yX3_offerAt cX3_offerAt 2 (some .int)) (rx_rm 1 21) (va_Pc [.ref q, .int x1] (rx_G G k h n)) (va_Qi (fun r u => y = r ∧ u = (h, n)) (rx_B G k) (rx_A k)) 0 0 (rx_A k) := by
  refine rx_start [(0, .ref q), (1, .int x1)] rfl (Nat.le_of_ble_eq_true rfl) (by decide) rfl (fun P9 E9 S9 M9 A9 B9 me9 c9 C hname => ?_)
  unfold F_X3_offerAt at hF
  refine rx_iload_n C dX3_offerAt_0 1 rfl ?_
  refine rx_if_lt C dX3_offerAt_1 23 (by decide) (fun c1 => ?_) (fun c1 => ?_)
  · rw [if_pos c1] at hF
    refine rx_iconst C dX3_offerAt_23 (-1 : Int32) (by decide) ?_
    obtain rfl := Option.some.inj hF
    exact rx_iret C dX3_offerAt_24 (Nat.le_refl _) (Nat.le_refl _) ⟨rfl, rfl⟩
  · rw [if_neg c1] at hF
    refine rx_iload_n C dX3_offerAt_4 1 rfl ?_
    refine rx_aload_n C dX3_offerAt_5 0 rfl ?_
    refine rx_getf C f_X3_18 dX3_offerAt_6 b_q.1 rfl ?_
    refine rx_icmp_ge C dX3_offerAt_9 23 (by decide) (fun c2 => ?_) (fun c2 => ?_)
    · rw [if_pos c2] at hF
      refine rx_iconst C dX3_offerAt_23 (-1 : Int32) (by decide) ?_
      obtain rfl := Option.some.inj hF
      exact rx_iret C dX3_offerAt_24 (Nat.le_refl _) (Nat.le_refl _) ⟨rfl, rfl⟩
    · rw [if_neg c2] at hF
      refine rx_aload_n C dX3_offerAt_12 0 rfl ?_
      refine rx_getf C f_X3_15 dX3_offerAt_13 b_q.1 rfl ?_
      refine rx_iload_n C dX3_offerAt_16 1 rfl ?_
      refine rx_ci (rx_rSN C (w_at b_q.2.2 (by decide)) Y_X8_at S_X8_at m_X3_26 ⟨⟨rfl, rfl⟩, ⟨(Nat.le_of_ble_eq_true rfl), (Nat.le_of_ble_eq_true rfl)⟩, ⟨(Nat.le_of_ble_eq_true rfl), (Nat.le_of_ble_eq_true rfl)⟩⟩ rfl rfl (Nat.le_of_ble_eq_true rfl) dX3_offerAt_17) (fun r hh n1 hpp => ?_)
      obtain ⟨rfl, hu⟩ := hpp
      cases hu
      refine rx_goto C dX3_offerAt_20 24 (by decide) ?_
      obtain rfl := Option.some.inj hF
      exact rx_iret C dX3_offerAt_24 (Nat.le_refl _) (Nat.le_refl _) ⟨rfl, rfl⟩
def F_X3_placeOf_2 (oq : ob) (x1 : Int32) : Nat → Int32 → Option (Int32)
  | 0, _ => none
  | fu + 1, x2 => if (oq.1 2) ≤ x2 then (some ((-1 : Int32))) else (if (rx_at 10 (oq.2 0) x2) = x1 then (some x2) else (F_X3_placeOf_2 oq x1 fu ((x2 + 1))))
def F_X3_placeOf (oq : ob) (x1 : Int32) : Option (Int32) := F_X3_placeOf_2 oq x1 100000 ((0 : Int32))
set_option maxRecDepth 100000 in
set_option maxHeartbeats 4000000 in
theorem w_X3_placeOf {q : Nat} {oq : ob} {x1 : Int32} {y : Int32} (hF : F_X3_placeOf oq x1 = some y) (b_q : bQ k q oq h) : Met l yX3_placeOf (rx_ws yX3_placeOf cX3_placeOf 3 (some .int)) (rx_rm 1 21) (va_Pc [.ref q, .int x1] (rx_G G k h n)) (va_Qi (fun r u => y = r ∧ u = (h, n)) (rx_B G k) (rx_A k)) 0 0 (rx_A k) := by
  refine rx_start [(0, .ref q), (1, .int x1)] rfl (Nat.le_of_ble_eq_true rfl) (by decide) rfl (fun P9 E9 S9 M9 A9 B9 me9 c9 C hname => ?_)
  unfold F_X3_placeOf at hF
  refine rx_iconst C dX3_placeOf_0 (0 : Int32) (by decide) ?_
  refine rx_istore_n C dX3_placeOf_1 (by decide) [(2, .int ((0 : Int32))), (0, .ref q), (1, .int x1)] rfl ?_
  have loop2 : ∀ (fu : Nat)  (x2 : Int32), F_X3_placeOf_2 oq x1 fu x2 = some y → bQ k q oq h → rx_W P9 l E9 (rx_rm 1 21) S9 M9 A9 B9 me9 c9 (MQ B9 (va_Qi (fun r u => y = r ∧ u = (h, n)) (rx_B G k) (rx_A k)) A9 S9 0 0 (rx_A k)) G k 3 0 0 h n 2 [(0, .ref q), (1, .int x1), (2, .int x2)] [] := by
    intro fu
    induction fu with
    | zero => intro x2 hF b_q; exact absurd hF (by simp [F_X3_placeOf_2])
    | succ fu ih_loop2 =>
      intro x2 hF b_q
      unfold F_X3_placeOf_2 at hF
      refine rx_iload_n C dX3_placeOf_2 2 rfl ?_
      refine rx_aload_n C dX3_placeOf_3 0 rfl ?_
      refine rx_getf C f_X3_18 dX3_placeOf_4 b_q.1 rfl ?_
      refine rx_icmp_ge C dX3_placeOf_7 30 (by decide) (fun c3 => ?_) (fun c3 => ?_)
      · rw [if_pos c3] at hF
        refine rx_iconst C dX3_placeOf_30 (-1 : Int32) (by decide) ?_
        obtain rfl := Option.some.inj hF
        exact rx_iret C dX3_placeOf_31 (Nat.le_refl _) (Nat.le_refl _) ⟨rfl, rfl⟩
      · rw [if_neg c3] at hF
        refine rx_aload_n C dX3_placeOf_10 0 rfl ?_
        refine rx_getf C f_X3_9 dX3_placeOf_11 b_q.1 rfl ?_
        refine rx_iload_n C dX3_placeOf_14 2 rfl ?_
        refine rx_ci (rx_rSN C (w_at b_q.2.1 (by decide)) Y_X8_at S_X8_at m_X3_26 ⟨⟨rfl, rfl⟩, ⟨(Nat.le_of_ble_eq_true rfl), (Nat.le_of_ble_eq_true rfl)⟩, ⟨(Nat.le_of_ble_eq_true rfl), (Nat.le_of_ble_eq_true rfl)⟩⟩ rfl rfl (Nat.le_of_ble_eq_true rfl) dX3_placeOf_15) (fun r hh n1 hpp => ?_)
        obtain ⟨rfl, hu⟩ := hpp
        cases hu
        refine rx_iload_n C dX3_placeOf_18 1 rfl ?_
        refine rx_icmp_ne C dX3_placeOf_19 24 (by decide) (fun c4 => ?_) (fun c4 => ?_)
        · rw [if_neg c4] at hF
          refine rx_iinc C dX3_placeOf_24 2 rfl (x2 + 1) rfl (by decide) [(2, .int ((x2 + 1))), (0, .ref q), (1, .int x1)] rfl ?_
          refine rx_goto C dX3_placeOf_27 2 (by decide) ?_
          refine rx_sub [1, 2, 0] rfl ?_
          exact ih_loop2 _ hF b_q
        · rw [if_pos c4] at hF
          refine rx_iload_n C dX3_placeOf_22 2 rfl ?_
          obtain rfl := Option.some.inj hF
          exact rx_iret C dX3_placeOf_23 (Nat.le_refl _) (Nat.le_refl _) ⟨rfl, rfl⟩
  refine rx_sub [1, 2, 0] rfl ?_
  exact loop2 _ _ hF b_q
def F_X3_insert_5 (x1 : Int32) (x2 : Int32) : Nat → ob → Int32 → Option (Int32 × ob)
  | 0, _, _ => none
  | fu + 1, oq, x3 => if x3 ≤ (0 : Int32) then (some (x3, oq)) else (if x2 ≤ (rx_at 10 (oq.2 1) ((x3 - (1 : Int32)))) then (some (x3, oq)) else (rx_le (oq.1, va_up oq.2 0 (rx_put 10 (oq.2 0) x3 ((rx_at 10 (oq.2 0) ((x3 - (1 : Int32))))))) fun o_q_6 => rx_le (o_q_6.1, va_up o_q_6.2 1 (rx_put 10 (o_q_6.2 1) x3 ((rx_at 10 (o_q_6.2 1) ((x3 - (1 : Int32))))))) fun o_q_7 => F_X3_insert_5 x1 x2 fu o_q_7 ((x3 + (-1)))))
def F_X3_insert (oq : ob) (x1 : Int32) (x2 : Int32) : Option (Int32 × ob) := rx_le ((oq.1 2)) fun v1 => (F_X3_insert_5 x1 x2 100000 oq v1).bind fun zl8 => rx_le (zl8.2.1, va_up zl8.2.2 0 (rx_put 10 (zl8.2.2 0) zl8.1 x1)) fun o_q_9 => rx_le (o_q_9.1, va_up o_q_9.2 1 (rx_put 10 (o_q_9.2 1) zl8.1 x2)) fun o_q_10 => rx_le (upd o_q_10.1 2 (((o_q_10.1 2) + (1 : Int32))), o_q_10.2) fun o_q_11 => some (zl8.1, o_q_11)
set_option maxRecDepth 100000 in
set_option maxHeartbeats 4000000 in
theorem w_X3_insert {q : Nat} {oq : ob} {x1 : Int32} {x2 : Int32} {y : Int32 × ob} (hF : F_X3_insert oq x1 x2 = some y) (b_q : bQ k q oq h) : Met l yX3_insert (rx_ws yX3_insert cX3_insert 4 (some .int)) (rx_rm 1 22) (va_Pc [.ref q, .int x1, .int x2] (rx_G G k h n)) (va_Qi (fun r u => y.1 = r ∧ u.2 = n ∧ bQ k q y.2 u.1 ∧ rx_fr [(q, 3)] h u.1) (rx_B G k) (rx_A k)) 0 0 (rx_A k) := by
  refine rx_start [(0, .ref q), (1, .int x1), (2, .int x2)] rfl (Nat.le_of_ble_eq_true rfl) (by decide) rfl (fun P9 E9 S9 M9 A9 B9 me9 c9 C hname => ?_)
  unfold F_X3_insert at hF
  have fr : rx_fr [(q, 3)] h h := rx_fr0
  refine rx_aload_n C dX3_insert_0 0 rfl ?_
  refine rx_getf C f_X3_18 dX3_insert_1 b_q.1 rfl ?_
  replace hF := rx_leE hF; obtain ⟨v1, e_v1, hF⟩ := hF
  rw [e_v1]
  refine rx_istore_n C dX3_insert_4 (by decide) [(3, .int v1), (0, .ref q), (1, .int x1), (2, .int x2)] rfl ?_
  have loop3 : ∀ (fu : Nat) (zz : Int32 × ob) (oq : ob) (x3 : Int32) (hh : hp), F_X3_insert_5 x1 x2 fu oq x3 = some zz → bQ k q oq hh → rx_fr [(q, 3)] h hh → (∀ hh : hp, bQ k q zz.2 hh → rx_fr [(q, 3)] h hh → rx_W P9 l E9 (rx_rm 1 22) S9 M9 A9 B9 me9 c9 (MQ B9 (va_Qi (fun r u => y.1 = r ∧ u.2 = n ∧ bQ k q y.2 u.1 ∧ rx_fr [(q, 3)] h u.1) (rx_B G k) (rx_A k)) A9 S9 0 0 (rx_A k)) G k 4 0 0 hh n 65 [(0, .ref q), (1, .int x1), (2, .int x2), (3, .int zz.1)] []) → rx_W P9 l E9 (rx_rm 1 22) S9 M9 A9 B9 me9 c9 (MQ B9 (va_Qi (fun r u => y.1 = r ∧ u.2 = n ∧ bQ k q y.2 u.1 ∧ rx_fr [(q, 3)] h u.1) (rx_B G k) (rx_A k)) A9 S9 0 0 (rx_A k)) G k 4 0 0 hh n 5 [(0, .ref q), (1, .int x1), (2, .int x2), (3, .int x3)] [] := by
    intro fu
    induction fu with
    | zero => intro zz oq x3 hh hF b_q fr KK; exact absurd hF (by simp [F_X3_insert_5])
    | succ fu ih_loop3 =>
      intro zz oq x3 hh hF b_q fr KK
      unfold F_X3_insert_5 at hF
      refine rx_iload_n C dX3_insert_5 3 rfl ?_
      refine rx_if_le C dX3_insert_6 65 (by decide) (fun c4 => ?_) (fun c4 => ?_)
      · rw [if_pos c4] at hF
        obtain rfl := Option.some.inj hF
        refine rx_sub [0, 1, 2, 3] rfl ?_
        exact KK _ b_q fr
      · rw [if_neg c4] at hF
        refine rx_aload_n C dX3_insert_9 0 rfl ?_
        refine rx_getf C f_X3_15 dX3_insert_10 b_q.1 rfl ?_
        refine rx_iload_n C dX3_insert_13 3 rfl ?_
        refine rx_iconst C dX3_insert_14 (1 : Int32) (by decide) ?_
        refine rx_isub C dX3_insert_15 ?_
        refine rx_ci (rx_rSN C (w_at b_q.2.2 (by decide)) Y_X8_at S_X8_at m_X3_26 ⟨⟨rfl, rfl⟩, ⟨(Nat.le_of_ble_eq_true rfl), (Nat.le_of_ble_eq_true rfl)⟩, ⟨(Nat.le_of_ble_eq_true rfl), (Nat.le_of_ble_eq_true rfl)⟩⟩ rfl rfl (Nat.le_of_ble_eq_true rfl) dX3_insert_16) (fun r hh n1 hpp => ?_)
        obtain ⟨rfl, hu⟩ := hpp
        cases hu
        refine rx_iload_n C dX3_insert_19 2 rfl ?_
        refine rx_icmp_ge C dX3_insert_20 65 (by decide) (fun c5 => ?_) (fun c5 => ?_)
        · rw [if_pos c5] at hF
          obtain rfl := Option.some.inj hF
          refine rx_sub [0, 1, 2, 3] rfl ?_
          exact KK _ b_q fr
        · rw [if_neg c5] at hF
          refine rx_aload_n C dX3_insert_23 0 rfl ?_
          refine rx_getf C f_X3_9 dX3_insert_24 b_q.1 rfl ?_
          refine rx_iload_n C dX3_insert_27 3 rfl ?_
          refine rx_aload_n C dX3_insert_28 0 rfl ?_
          refine rx_getf C f_X3_9 dX3_insert_29 b_q.1 rfl ?_
          refine rx_iload_n C dX3_insert_32 3 rfl ?_
          refine rx_iconst C dX3_insert_33 (1 : Int32) (by decide) ?_
          refine rx_isub C dX3_insert_34 ?_
          refine rx_ci (rx_rSN C (w_at b_q.2.1 (by decide)) Y_X8_at S_X8_at m_X3_26 ⟨⟨rfl, rfl⟩, ⟨(Nat.le_of_ble_eq_true rfl), (Nat.le_of_ble_eq_true rfl)⟩, ⟨(Nat.le_of_ble_eq_true rfl), (Nat.le_of_ble_eq_true rfl)⟩⟩ rfl rfl (Nat.le_of_ble_eq_true rfl) dX3_insert_35) (fun r hh n1 hpp => ?_)
          obtain ⟨rfl, hu⟩ := hpp
          cases hu
          replace hF := rx_leE hF; obtain ⟨o_q_6, e_o_q_6, hF⟩ := hF
          refine rx_cv (rx_rSN C (w_put b_q.2.1 (by decide)) Y_X8_put S_X8_put m_X3_30 ⟨⟨rfl, rfl⟩, ⟨(Nat.le_of_ble_eq_true rfl), (Nat.le_of_ble_eq_true rfl)⟩, ⟨(Nat.le_of_ble_eq_true rfl), (Nat.le_of_ble_eq_true rfl)⟩⟩ rfl rfl (Nat.le_of_ble_eq_true rfl) dX3_insert_38) (fun hh n1 hpp => ?_)
          obtain ⟨c_q, ff, hn⟩ := b_q.wr0 e_o_q_6 hpp
          replace hn := Eq.symm hn
          subst hn
          replace b_q := c_q
          replace fr := rx_frt fr ff (fun a ha => ⟨ha.1, trivial⟩)
          refine rx_aload_n C dX3_insert_41 0 rfl ?_
          refine rx_getf C f_X3_15 dX3_insert_42 b_q.1 rfl ?_
          refine rx_iload_n C dX3_insert_45 3 rfl ?_
          refine rx_aload_n C dX3_insert_46 0 rfl ?_
          refine rx_getf C f_X3_15 dX3_insert_47 b_q.1 rfl ?_
          refine rx_iload_n C dX3_insert_50 3 rfl ?_
          refine rx_iconst C dX3_insert_51 (1 : Int32) (by decide) ?_
          refine rx_isub C dX3_insert_52 ?_
          refine rx_ci (rx_rSN C (w_at b_q.2.2 (by decide)) Y_X8_at S_X8_at m_X3_26 ⟨⟨rfl, rfl⟩, ⟨(Nat.le_of_ble_eq_true rfl), (Nat.le_of_ble_eq_true rfl)⟩, ⟨(Nat.le_of_ble_eq_true rfl), (Nat.le_of_ble_eq_true rfl)⟩⟩ rfl rfl (Nat.le_of_ble_eq_true rfl) dX3_insert_53) (fun r hh n1 hpp => ?_)
          obtain ⟨rfl, hu⟩ := hpp
          cases hu
          replace hF := rx_leE hF; obtain ⟨o_q_7, e_o_q_7, hF⟩ := hF
          refine rx_cv (rx_rSN C (w_put b_q.2.2 (by decide)) Y_X8_put S_X8_put m_X3_30 ⟨⟨rfl, rfl⟩, ⟨(Nat.le_of_ble_eq_true rfl), (Nat.le_of_ble_eq_true rfl)⟩, ⟨(Nat.le_of_ble_eq_true rfl), (Nat.le_of_ble_eq_true rfl)⟩⟩ rfl rfl (Nat.le_of_ble_eq_true rfl) dX3_insert_56) (fun hh n1 hpp => ?_)
          obtain ⟨c_q, ff, hn⟩ := b_q.wr1 e_o_q_7 hpp
          replace hn := Eq.symm hn
          subst hn
          replace b_q := c_q
          replace fr := rx_frt fr ff (fun a ha => ⟨ha.1, trivial⟩)
          refine rx_iinc C dX3_insert_59 3 rfl (x3 + (-1)) rfl (by decide) [(3, .int ((x3 + (-1)))), (0, .ref q), (1, .int x1), (2, .int x2)] rfl ?_
          refine rx_goto C dX3_insert_62 5 (by decide) ?_
          refine rx_sub [1, 2, 3, 0] rfl ?_
          exact ih_loop3 _ _ _ _ hF b_q fr KK
  refine rx_sub [1, 2, 3, 0] rfl ?_
  replace hF := rx_biE hF; obtain ⟨zl8, e_zl8, hF⟩ := hF
  refine loop3 _ zl8 _ _ _ e_zl8 b_q fr (fun hh b_q fr => ?_)
  refine rx_aload_n C dX3_insert_65 0 rfl ?_
  refine rx_getf C f_X3_9 dX3_insert_66 b_q.1 rfl ?_
  refine rx_iload_n C dX3_insert_69 3 rfl ?_
  refine rx_iload_n C dX3_insert_70 1 rfl ?_
  replace hF := rx_leE hF; obtain ⟨o_q_9, e_o_q_9, hF⟩ := hF
  refine rx_cv (rx_rSN C (w_put b_q.2.1 (by decide)) Y_X8_put S_X8_put m_X3_30 ⟨⟨rfl, rfl⟩, ⟨(Nat.le_of_ble_eq_true rfl), (Nat.le_of_ble_eq_true rfl)⟩, ⟨(Nat.le_of_ble_eq_true rfl), (Nat.le_of_ble_eq_true rfl)⟩⟩ rfl rfl (Nat.le_of_ble_eq_true rfl) dX3_insert_71) (fun hh n1 hpp => ?_)
  obtain ⟨c_q, ff, hn⟩ := b_q.wr0 e_o_q_9 hpp
  replace hn := Eq.symm hn
  subst hn
  replace b_q := c_q
  replace fr := rx_frt fr ff (fun a ha => ⟨ha.1, trivial⟩)
  refine rx_aload_n C dX3_insert_74 0 rfl ?_
  refine rx_getf C f_X3_15 dX3_insert_75 b_q.1 rfl ?_
  refine rx_iload_n C dX3_insert_78 3 rfl ?_
  refine rx_iload_n C dX3_insert_79 2 rfl ?_
  replace hF := rx_leE hF; obtain ⟨o_q_10, e_o_q_10, hF⟩ := hF
  refine rx_cv (rx_rSN C (w_put b_q.2.2 (by decide)) Y_X8_put S_X8_put m_X3_30 ⟨⟨rfl, rfl⟩, ⟨(Nat.le_of_ble_eq_true rfl), (Nat.le_of_ble_eq_true rfl)⟩, ⟨(Nat.le_of_ble_eq_true rfl), (Nat.le_of_ble_eq_true rfl)⟩⟩ rfl rfl (Nat.le_of_ble_eq_true rfl) dX3_insert_80) (fun hh n1 hpp => ?_)
  obtain ⟨c_q, ff, hn⟩ := b_q.wr1 e_o_q_10 hpp
  replace hn := Eq.symm hn
  subst hn
  replace b_q := c_q
  replace fr := rx_frt fr ff (fun a ha => ⟨ha.1, trivial⟩)
  refine rx_aload_n C dX3_insert_83 0 rfl ?_
  refine rx_dup C dX3_insert_84 rfl ?_
  refine rx_getf C f_X3_18 dX3_insert_85 b_q.1 rfl ?_
  refine rx_iconst C dX3_insert_88 (1 : Int32) (by decide) ?_
  refine rx_iadd C dX3_insert_89 ?_
  replace hF := rx_leE hF; obtain ⟨o_q_11, e_o_q_11, hF⟩ := hF
  refine rx_pQ2 C f_X3_18 dX3_insert_90 b_q e_o_q_11 (fun hh c_q ff => ?_)
  replace b_q := c_q
  replace fr := rx_frt fr ff (fun a ha => ⟨ha.1, trivial⟩)
  refine rx_iload_n C dX3_insert_93 3 rfl ?_
  obtain rfl := Option.some.inj hF
  exact rx_iret C dX3_insert_94 (Nat.le_refl _) (Nat.le_refl _) ⟨rfl, rfl, b_q, fr⟩
def F_X3_removeAt_25 (x1 : Int32) : Nat → ob → Int32 → Option (Int32 × ob)
  | 0, _, _ => none
  | fu + 1, oq, x2 => if (oq.1 2) ≤ x2 then (some (x2, oq)) else (rx_le (oq.1, va_up oq.2 0 (rx_put 10 (oq.2 0) x2 ((rx_at 10 (oq.2 0) ((x2 + (1 : Int32))))))) fun o_q_7 => rx_le (o_q_7.1, va_up o_q_7.2 1 (rx_put 10 (o_q_7.2 1) x2 ((rx_at 10 (o_q_7.2 1) ((x2 + (1 : Int32))))))) fun o_q_8 => F_X3_removeAt_25 x1 fu o_q_8 ((x2 + 1)))
def F_X3_removeAt (oq : ob) (x1 : Int32) : Option (ob) := if x1 < (0 : Int32) then (some oq) else (if x1 < (oq.1 2) then (rx_le (upd oq.1 2 (((oq.1 2) - (1 : Int32))), oq.2) fun o_q_3 => (F_X3_removeAt_25 x1 100000 o_q_3 x1).bind fun zl9 => some zl9.2) else (some oq))
set_option maxRecDepth 100000 in
set_option maxHeartbeats 4000000 in
theorem w_X3_removeAt {q : Nat} {oq : ob} {x1 : Int32} {y : ob} (hF : F_X3_removeAt oq x1 = some y) (b_q : bQ k q oq h) : Met l yX3_removeAt (rx_ws yX3_removeAt cX3_removeAt 3 none) (rx_rm 1 22) (va_Pc [.ref q, .int x1] (rx_G G k h n)) (va_Qv (fun u => u.2 = n ∧ bQ k q y u.1 ∧ rx_fr [(q, 3)] h u.1) (rx_B G k) (rx_A k)) 0 0 (rx_A k) := by
  refine rx_start [(0, .ref q), (1, .int x1)] rfl (Nat.le_of_ble_eq_true rfl) (by decide) rfl (fun P9 E9 S9 M9 A9 B9 me9 c9 C hname => ?_)
  unfold F_X3_removeAt at hF
  have fr : rx_fr [(q, 3)] h h := rx_fr0
  refine rx_iload_n C dX3_removeAt_0 1 rfl ?_
  refine rx_if_lt C dX3_removeAt_1 12 (by decide) (fun c1 => ?_) (fun c1 => ?_)
  · rw [if_pos c1] at hF
    obtain rfl := Option.some.inj hF
    exact rx_vret C dX3_removeAt_12 (Nat.le_refl _) (Nat.le_refl _) ⟨rfl, b_q, fr⟩
  · rw [if_neg c1] at hF
    refine rx_iload_n C dX3_removeAt_4 1 rfl ?_
    refine rx_aload_n C dX3_removeAt_5 0 rfl ?_
    refine rx_getf C f_X3_18 dX3_removeAt_6 b_q.1 rfl ?_
    refine rx_icmp_lt C dX3_removeAt_9 13 (by decide) (fun c2 => ?_) (fun c2 => ?_)
    · rw [if_pos c2] at hF
      refine rx_aload_n C dX3_removeAt_13 0 rfl ?_
      refine rx_dup C dX3_removeAt_14 rfl ?_
      refine rx_getf C f_X3_18 dX3_removeAt_15 b_q.1 rfl ?_
      refine rx_iconst C dX3_removeAt_18 (1 : Int32) (by decide) ?_
      refine rx_isub C dX3_removeAt_19 ?_
      replace hF := rx_leE hF; obtain ⟨o_q_3, e_o_q_3, hF⟩ := hF
      refine rx_pQ2 C f_X3_18 dX3_removeAt_20 b_q e_o_q_3 (fun hh c_q ff => ?_)
      replace b_q := c_q
      replace fr := rx_frt fr ff (fun a ha => ⟨ha.1, trivial⟩)
      refine rx_iload_n C dX3_removeAt_23 1 rfl ?_
      refine rx_istore_n C dX3_removeAt_24 (by decide) [(2, .int x1), (0, .ref q), (1, .int x1)] rfl ?_
      have loop5 : ∀ (fu : Nat) (zz : Int32 × ob) (oq : ob) (x2 : Int32) (hh : hp), F_X3_removeAt_25 x1 fu oq x2 = some zz → bQ k q oq hh → rx_fr [(q, 3)] h hh → (∀ hh : hp, bQ k q zz.2 hh → rx_fr [(q, 3)] h hh → rx_W P9 l E9 (rx_rm 1 22) S9 M9 A9 B9 me9 c9 (MQ B9 (va_Qv (fun u => u.2 = n ∧ bQ k q y u.1 ∧ rx_fr [(q, 3)] h u.1) (rx_B G k) (rx_A k)) A9 S9 0 0 (rx_A k)) G k 3 0 0 hh n 75 [(0, .ref q), (1, .int x1), (2, .int zz.1)] []) → rx_W P9 l E9 (rx_rm 1 22) S9 M9 A9 B9 me9 c9 (MQ B9 (va_Qv (fun u => u.2 = n ∧ bQ k q y u.1 ∧ rx_fr [(q, 3)] h u.1) (rx_B G k) (rx_A k)) A9 S9 0 0 (rx_A k)) G k 3 0 0 hh n 25 [(0, .ref q), (1, .int x1), (2, .int x2)] [] := by
        intro fu
        induction fu with
        | zero => intro zz oq x2 hh hF b_q fr KK; exact absurd hF (by simp [F_X3_removeAt_25])
        | succ fu ih_loop5 =>
          intro zz oq x2 hh hF b_q fr KK
          unfold F_X3_removeAt_25 at hF
          refine rx_iload_n C dX3_removeAt_25 2 rfl ?_
          refine rx_aload_n C dX3_removeAt_26 0 rfl ?_
          refine rx_getf C f_X3_18 dX3_removeAt_27 b_q.1 rfl ?_
          refine rx_icmp_ge C dX3_removeAt_30 75 (by decide) (fun c6 => ?_) (fun c6 => ?_)
          · rw [if_pos c6] at hF
            obtain rfl := Option.some.inj hF
            refine rx_sub [0, 1, 2] rfl ?_
            exact KK _ b_q fr
          · rw [if_neg c6] at hF
            refine rx_aload_n C dX3_removeAt_33 0 rfl ?_
            refine rx_getf C f_X3_9 dX3_removeAt_34 b_q.1 rfl ?_
            refine rx_iload_n C dX3_removeAt_37 2 rfl ?_
            refine rx_aload_n C dX3_removeAt_38 0 rfl ?_
            refine rx_getf C f_X3_9 dX3_removeAt_39 b_q.1 rfl ?_
            refine rx_iload_n C dX3_removeAt_42 2 rfl ?_
            refine rx_iconst C dX3_removeAt_43 (1 : Int32) (by decide) ?_
            refine rx_iadd C dX3_removeAt_44 ?_
            refine rx_ci (rx_rSN C (w_at b_q.2.1 (by decide)) Y_X8_at S_X8_at m_X3_26 ⟨⟨rfl, rfl⟩, ⟨(Nat.le_of_ble_eq_true rfl), (Nat.le_of_ble_eq_true rfl)⟩, ⟨(Nat.le_of_ble_eq_true rfl), (Nat.le_of_ble_eq_true rfl)⟩⟩ rfl rfl (Nat.le_of_ble_eq_true rfl) dX3_removeAt_45) (fun r hh n1 hpp => ?_)
            obtain ⟨rfl, hu⟩ := hpp
            cases hu
            replace hF := rx_leE hF; obtain ⟨o_q_7, e_o_q_7, hF⟩ := hF
            refine rx_cv (rx_rSN C (w_put b_q.2.1 (by decide)) Y_X8_put S_X8_put m_X3_30 ⟨⟨rfl, rfl⟩, ⟨(Nat.le_of_ble_eq_true rfl), (Nat.le_of_ble_eq_true rfl)⟩, ⟨(Nat.le_of_ble_eq_true rfl), (Nat.le_of_ble_eq_true rfl)⟩⟩ rfl rfl (Nat.le_of_ble_eq_true rfl) dX3_removeAt_48) (fun hh n1 hpp => ?_)
            obtain ⟨c_q, ff, hn⟩ := b_q.wr0 e_o_q_7 hpp
            replace hn := Eq.symm hn
            subst hn
            replace b_q := c_q
            replace fr := rx_frt fr ff (fun a ha => ⟨ha.1, trivial⟩)
            refine rx_aload_n C dX3_removeAt_51 0 rfl ?_
            refine rx_getf C f_X3_15 dX3_removeAt_52 b_q.1 rfl ?_
            refine rx_iload_n C dX3_removeAt_55 2 rfl ?_
            refine rx_aload_n C dX3_removeAt_56 0 rfl ?_
            refine rx_getf C f_X3_15 dX3_removeAt_57 b_q.1 rfl ?_
            refine rx_iload_n C dX3_removeAt_60 2 rfl ?_
            refine rx_iconst C dX3_removeAt_61 (1 : Int32) (by decide) ?_
            refine rx_iadd C dX3_removeAt_62 ?_
            refine rx_ci (rx_rSN C (w_at b_q.2.2 (by decide)) Y_X8_at S_X8_at m_X3_26 ⟨⟨rfl, rfl⟩, ⟨(Nat.le_of_ble_eq_true rfl), (Nat.le_of_ble_eq_true rfl)⟩, ⟨(Nat.le_of_ble_eq_true rfl), (Nat.le_of_ble_eq_true rfl)⟩⟩ rfl rfl (Nat.le_of_ble_eq_true rfl) dX3_removeAt_63) (fun r hh n1 hpp => ?_)
            obtain ⟨rfl, hu⟩ := hpp
            cases hu
            replace hF := rx_leE hF; obtain ⟨o_q_8, e_o_q_8, hF⟩ := hF
            refine rx_cv (rx_rSN C (w_put b_q.2.2 (by decide)) Y_X8_put S_X8_put m_X3_30 ⟨⟨rfl, rfl⟩, ⟨(Nat.le_of_ble_eq_true rfl), (Nat.le_of_ble_eq_true rfl)⟩, ⟨(Nat.le_of_ble_eq_true rfl), (Nat.le_of_ble_eq_true rfl)⟩⟩ rfl rfl (Nat.le_of_ble_eq_true rfl) dX3_removeAt_66) (fun hh n1 hpp => ?_)
            obtain ⟨c_q, ff, hn⟩ := b_q.wr1 e_o_q_8 hpp
            replace hn := Eq.symm hn
            subst hn
            replace b_q := c_q
            replace fr := rx_frt fr ff (fun a ha => ⟨ha.1, trivial⟩)
            refine rx_iinc C dX3_removeAt_69 2 rfl (x2 + 1) rfl (by decide) [(2, .int ((x2 + 1))), (0, .ref q), (1, .int x1)] rfl ?_
            refine rx_goto C dX3_removeAt_72 25 (by decide) ?_
            refine rx_sub [1, 2, 0] rfl ?_
            exact ih_loop5 _ _ _ _ hF b_q fr KK
      refine rx_sub [1, 2, 0] rfl ?_
      replace hF := rx_biE hF; obtain ⟨zl9, e_zl9, hF⟩ := hF
      refine loop5 _ zl9 _ _ _ e_zl9 b_q fr (fun hh b_q fr => ?_)
      obtain rfl := Option.some.inj hF
      exact rx_vret C dX3_removeAt_75 (Nat.le_refl _) (Nat.le_refl _) ⟨rfl, b_q, fr⟩
    · rw [if_neg c2] at hF
      obtain rfl := Option.some.inj hF
      exact rx_vret C dX3_removeAt_12 (Nat.le_refl _) (Nat.le_refl _) ⟨rfl, b_q, fr⟩
end GEN
