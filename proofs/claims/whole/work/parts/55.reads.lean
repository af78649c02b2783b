/-! The calls that only read: class and model answer alike. -/
def zR (cls : Option (Int32 × Int32)) (mdl : Option (Int32 × ob)) (om : ob) (K : Int32 → Int32) : Prop :=
  (∃ v : Int32, cls = some (0, v) ∧ mdl = some (v, (upd om.1 0 0, om.2))) ∨ ∃ c b : Int32, (c = 1 ∨ c = 2) ∧ cls = some (c, 0) ∧ mdl = some (b, (upd om.1 0 (K c), om.2))
def zR1 (cls : Option (Int32 × Int32)) (mdl : Option (Int32 × ob)) (om : ob) : Prop :=
  (∃ v : Int32, cls = some (0, v) ∧ mdl = some (v, (upd om.1 0 0, om.2))) ∨ ∃ b : Int32, cls = some (1, 0) ∧ mdl = some (b, (upd om.1 0 1, om.2))
def zV (cls : Option Int32) (mdl : Option (Int32 × ob)) (om : ob) : Prop := ∃ v : Int32, cls = some v ∧ mdl = some (v, (upd om.1 0 0, om.2))
theorem z_h0 {om : ob} : ((upd om.1 0 0, om.2) : ob).1 0 = 0 := by simp [upd]
section READS
variable {P B J : Nat} {os op ow oe oB om : ob} {qw qe : List Nat}
theorem RPos.ra' {g : Nat → Int32} (h : RPos P B J os op ow oe g qw qe) : ∀ p : Nat, p < P → ∃ r : Nat, r < P ∧ g (12 + 8 * p + 4) = nI r := fun p hp => h.ra hp
theorem z_reqP (h : RPos P B J os op ow oe (om.2 1) qw qe) (x : Int32) (cb : Option (Int32 × Int32)) (mb : ob → Option (Int32 × ob))
    (hv : ∀ p : Nat, p < P → x = nI p → ∃ v : Int32, cb = some (0, v) ∧ mb (upd om.1 0 0, om.2) = some (v, (upd om.1 0 0, om.2))) :
    zR1 ((F_X8_requirePerson oB os x).bind fun y1 => if y1 = (0 : Int32) then cb else some (y1, 0)) (rx_le (upd om.1 0 0, om.2) fun o => (F_X9_noOne o x).bind fun y2 => if y2.1 = (0 : Int32) then mb y2.2 else some ((0 : Int32), y2.2)) om := by
  have hP := h.hP
  rcases z_dec x P with hx | ⟨p, hp, -, rfl⟩
  · refine Or.inr ⟨0, ?_, ?_⟩
    · rw [C_rp0 h hx]; rfl
    · rw [z_le, M_no0 (om := (upd om.1 0 0, om.2)) z_h0 h.h8 (by omega) hP.2 hx]
      simp only [Option.bind_some, z_uu]
      rfl
  · obtain ⟨v, h1, h2⟩ := hv p hp rfl
    refine Or.inl ⟨v, ?_, ?_⟩
    · rw [C_rp h hp, Option.bind_some, if_pos rfl, h1]
    · rw [z_le, M_no1 (om := (upd om.1 0 0, om.2)) z_h0 h.h8 hP.2 hp, Option.bind_some, if_pos rfl, h2]
theorem z_reqK (h : RPos P B J os op ow oe (om.2 1) qw qe) (x : Int32) (cb : Option (Int32 × Int32)) (mb : ob → Option (Int32 × ob))
    (hv : ∀ p : Nat, p < P → x = nI p → om.2 1 (12 + 8 * p) = 1 → ∃ v : Int32, cb = some (0, v) ∧ mb (upd om.1 0 0, om.2) = some (v, (upd om.1 0 0, om.2))) :
    zR ((F_X8_requireKing oB os x).bind fun y1 => if y1 = (0 : Int32) then cb else some (y1, 0)) (rx_le (upd om.1 0 0, om.2) fun o => (F_X9_noKing o x).bind fun y2 => if y2.1 = (0 : Int32) then mb y2.2 else some ((0 : Int32), y2.2)) om id := by
  have hP := h.hP
  rcases z_dec x P with hx | ⟨p, hp, -, rfl⟩
  · refine Or.inr ⟨1, 0, Or.inl rfl, ?_, ?_⟩
    · rw [C_rk0 h hx]; rfl
    · rw [z_le, M_nk0 (om := (upd om.1 0 0, om.2)) z_h0 h.h8 (by omega) hP.2 hx]
      simp only [Option.bind_some, z_uu]
      rfl
  · by_cases hk : om.2 1 (12 + 8 * p) = 1
    · obtain ⟨v, h1, h2⟩ := hv p hp rfl hk
      refine Or.inl ⟨v, ?_, ?_⟩
      · rw [C_rk h hp, if_pos hk, Option.bind_some, if_pos rfl, h1]
      · rw [z_le, M_nk1 (om := (upd om.1 0 0, om.2)) z_h0 h.h8 hP.2 hp hk, Option.bind_some, if_pos rfl, h2]
    · refine Or.inr ⟨2, 0, Or.inr rfl, ?_, ?_⟩
      · rw [C_rk h hp, if_neg hk]; rfl
      · rw [z_le, M_nk2 (om := (upd om.1 0 0, om.2)) z_h0 h.h8 hP.2 hp hk]
        simp only [Option.bind_some, z_uu]
        rfl
theorem X_isKing (h : RPos P B J os op ow oe (om.2 1) qw qe) (x : Int32) : zR1 (F_X8_isKing oB os x) (F_X9_isKing om x) om := by
  refine z_reqP h x _ (fun o => (F_X9_isKingNow o x).bind fun y4 => if y4 = (0 : Int32) then some ((0 : Int32), o) else some ((1 : Int32), o)) (fun p hp e => ?_)
  subst e
  have hP := h.hP
  refine ⟨if om.2 1 (12 + 8 * p) = 1 then 1 else 0, by rw [C_hk h hp]; rfl, ?_⟩
  simp only [M_king (om := (upd om.1 0 0, om.2)) (show p < 10 by omega), Option.bind_some, z_10]
  split <;> rfl
theorem X_isEast (h : RPos P B J os op ow oe (om.2 1) qw qe) (x : Int32) : zR1 (F_X8_isEast oB os op x) (F_X9_isEast om x) om := by
  refine z_reqP h x _ (fun o => (F_X9_of o x (1 : Int32)).bind fun y4 => if y4 = (1 : Int32) then some ((1 : Int32), o) else some ((0 : Int32), o)) (fun p hp e => ?_)
  subst e
  have hP := h.hP
  refine ⟨if om.2 1 (12 + 8 * p + 1) = 1 then 1 else 0, ?_, ?_⟩
  · rw [z_at (by omega) (by omega), h.bk hp]; split <;> rfl
  · simp only [M_of1 (om := (upd om.1 0 0, om.2)) (show p < 10 by omega), Option.bind_some]
    split <;> rfl
theorem X_coins (h : RPos P B J os op ow oe (om.2 1) qw qe) (x : Int32) : zR1 (F_X8_coins oB os op x) (F_X9_coins om x) om := by
  have h1 := z_reqP (oB := oB) h x (some ((0 : Int32), rx_at 10 (op.2 6) x)) (fun o => (F_X9_of o x (2 : Int32)).bind fun y4 => some (y4, o)) (fun p hp e => by
    subst e
    have hP := h.hP
    refine ⟨om.2 1 (12 + 8 * p + 2), by rw [z_at (by omega) (by omega), h.pu hp], ?_⟩
    simp only [M_of2 (om := (upd om.1 0 0, om.2)) (show p < 10 by omega), Option.bind_some])
  have h2 : F_X9_coins om x = F_X9_asked om x 2 := by unfold F_X9_coins; cases F_X9_asked om x 2 <;> rfl
  rw [h2]; exact h1
theorem X_pride (h : RPos P B J os op ow oe (om.2 1) qw qe) (x : Int32) : zR1 (F_X8_pride oB os op x) (F_X9_pride om x) om := by
  have h1 := z_reqP (oB := oB) h x (some ((0 : Int32), rx_at 10 (op.2 7) x)) (fun o => (F_X9_of o x (3 : Int32)).bind fun y4 => some (y4, o)) (fun p hp e => by
    subst e
    have hP := h.hP
    refine ⟨om.2 1 (12 + 8 * p + 3), by rw [z_at (by omega) (by omega), h.pr hp], ?_⟩
    simp only [M_of3 (om := (upd om.1 0 0, om.2)) (show p < 10 by omega), Option.bind_some])
  have h2 : F_X9_pride om x = F_X9_asked om x 3 := by unfold F_X9_pride; cases F_X9_asked om x 3 <;> rfl
  rw [h2]; exact h1
theorem X_rags (h : RPos P B J os op ow oe (om.2 1) qw qe) (x : Int32) : zR1 (F_X8_rags oB os op x) (F_X9_rags om x) om := by
  have h1 := z_reqP (oB := oB) h x (some ((0 : Int32), rx_at 10 (op.2 8) x)) (fun o => (F_X9_of o x (4 : Int32)).bind fun y4 => some (y4, o)) (fun p hp e => by
    subst e
    have hP := h.hP
    refine ⟨om.2 1 (12 + 8 * p + 4), by rw [z_at (by omega) (by omega), h.wo hp], ?_⟩
    simp only [M_of4 (om := (upd om.1 0 0, om.2)) (show p < 10 by omega), Option.bind_some])
  have h2 : F_X9_rags om x = F_X9_asked om x 4 := by unfold F_X9_rags; cases F_X9_asked om x 4 <;> rfl
  rw [h2]; exact h1
theorem X_crossings (h : RPos P B J os op ow oe (om.2 1) qw qe) (x : Int32) : zR1 (F_X8_crossings oB os op x) (F_X9_crossings om x) om := by
  have h1 := z_reqP (oB := oB) h x (some ((0 : Int32), rx_at 10 (op.2 9) x)) (fun o => (F_X9_of o x (5 : Int32)).bind fun y4 => some (y4, o)) (fun p hp e => by
    subst e
    have hP := h.hP
    refine ⟨om.2 1 (12 + 8 * p + 5), by rw [z_at (by omega) (by omega), h.cr hp], ?_⟩
    simp only [M_of5 (om := (upd om.1 0 0, om.2)) (show p < 10 by omega), Option.bind_some])
  have h2 : F_X9_crossings om x = F_X9_asked om x 5 := by unfold F_X9_crossings; cases F_X9_asked om x 5 <;> rfl
  rw [h2]; exact h1
theorem X_rank (h : RPos P B J os op ow oe (om.2 1) qw qe) (x : Int32) : zR1 (F_X8_rank oB os x) (F_X9_rank om x) om := by
  refine z_reqP h x _ (fun o => (rx_ald 144 (o.2 1) ((92 : Int32) + x)).bind fun v4 => some (v4, o)) (fun p hp e => ?_)
  subst e
  have hP := h.hP
  refine ⟨om.2 1 (92 + p), by rw [z_at (by omega) (by omega), h.rk hp], ?_⟩
  rw [show (92 : Int32) = nI 92 from rfl, nI_add, z_ald (by omega) (by omega)]
  rfl
theorem X_wearer (h : RPos P B J os op ow oe (om.2 1) qw qe) (x : Int32) : zR1 (F_X8_wearer oB os op x) (F_X9_wearer om x) om := by
  refine z_reqP h x _ (fun o => (F_X9_wearer_17 x 100000 o 0).bind fun zl8 => some (zl8.1, zl8.2)) (fun r hr e => ?_)
  subst e
  have hP := h.hP
  -- the first who wears it
  obtain ⟨p, hp, e⟩ := h.1.2.2.2.2.2.1.2 r hr
  obtain ⟨p0, hp0, e0, hmin⟩ : ∃ p0 : Nat, p0 < P ∧ om.2 1 (12 + 8 * p0 + 4) = nI r ∧ ∀ k : Nat, k < p0 → om.2 1 (12 + 8 * k + 4) ≠ nI r := by
    have : ∀ n : Nat, n ≤ P → (∃ p0 : Nat, p0 < n ∧ om.2 1 (12 + 8 * p0 + 4) = nI r ∧ ∀ k : Nat, k < p0 → om.2 1 (12 + 8 * k + 4) ≠ nI r) ∨ ∀ k : Nat, k < n → om.2 1 (12 + 8 * k + 4) ≠ nI r := by
      intro n
      induction n with
      | zero => intro _; exact Or.inr (fun k hk => by omega)
      | succ n ih =>
        intro hn
        rcases ih (by omega) with ⟨p0, q1, q2, q3⟩ | q
        · exact Or.inl ⟨p0, by omega, q2, q3⟩
        · by_cases hh : om.2 1 (12 + 8 * n + 4) = nI r
          · exact Or.inl ⟨n, by omega, hh, q⟩
          · refine Or.inr (fun k hk => ?_)
            rcases Nat.lt_or_ge k n with q2 | q2
            · exact q k q2
            · obtain rfl : k = n := by omega
              exact hh
    rcases this P (Nat.le_refl _) with q | q
    · exact q
    · exact absurd e (q p hp)
  refine ⟨nI p0, ?_, ?_⟩
  · have h1 : F_X2_wearerOf op os (nI r) = some (nI p0) := z_for p0 (fun fu k (_ : Unit) => F_X2_wearerOf_2 op os (nI r) fu (nI k)) (fun _ => ()) (r := some (nI p0)) (by
      intro fu k hk
      show F_X2_wearerOf_2 op os (nI r) (fu + 1) (nI k) = F_X2_wearerOf_2 op os (nI r) fu (nI (k + 1))
      simp only [F_X2_wearerOf_2, h.s4]
      rw [z_ig (by omega) (by omega), z_at (by omega) (by omega), h.wo (by omega), if_neg (hmin k hk), nI_1]) (by
      intro fu
      show F_X2_wearerOf_2 op os (nI r) (fu + 1) (nI p0) = _
      simp only [F_X2_wearerOf_2, h.s4]
      rw [z_ig (by omega) (by omega), z_at (by omega) (by omega), h.wo (by omega), if_pos e0]) 100000 (by omega) 0 (Nat.zero_le _)
    rw [h1]; rfl
  · have h2 : F_X9_wearer_17 (nI r) 100000 (upd om.1 0 0, om.2) (nI 0) = some (nI p0, (upd om.1 0 0, om.2)) := z_for p0 (fun fu k (_ : Unit) => F_X9_wearer_17 (nI r) fu (upd om.1 0 0, om.2) (nI k)) (fun _ => ()) (r := some (nI p0, (upd om.1 0 0, om.2))) (by
      intro fu k hk
      show F_X9_wearer_17 (nI r) (fu + 1) (upd om.1 0 0, om.2) (nI k) = F_X9_wearer_17 (nI r) fu (upd om.1 0 0, om.2) (nI (k + 1))
      simp only [F_X9_wearer_17, M_of4 (om := (upd om.1 0 0, om.2)) (show k < 10 by omega), Option.bind_some]
      rw [if_neg (hmin k hk), nI_1]) (by
      intro fu
      show F_X9_wearer_17 (nI r) (fu + 1) (upd om.1 0 0, om.2) (nI p0) = _
      simp only [F_X9_wearer_17, M_of4 (om := (upd om.1 0 0, om.2)) (show p0 < 10 by omega), Option.bind_some]
      rw [if_pos e0]) 100000 (by omega) 0 (Nat.zero_le _)
    show (F_X9_wearer_17 (nI r) 100000 (upd om.1 0 0, om.2) (nI 0)).bind _ = _
    rw [h2]; rfl
theorem X_bowToKeeper (h : RPos P B J os op ow oe (om.2 1) qw qe) (x : Int32) : zR1 (F_X8_bowToKeeper oB os op x) (F_X9_bowToKeeper om x) om := by
  refine z_reqP h x _ (fun o => (F_X9_rankOf o x).bind fun y4 => (F_X9_keeperBow o x y4).bind fun y5 => some (y5, o)) (fun p hp e => ?_)
  subst e
  have hP := h.hP
  obtain ⟨r, hr, e⟩ := h.ra hp
  refine ⟨z_kb (om.2 1) p (z_rk (om.2 1) p), by rw [C_ka h hp]; rfl, ?_⟩
  simp only [M_rk (om := (upd om.1 0 0, om.2)) (show p < 10 by omega) e (show r < 10 by omega), ← z_rkE e (show r < 10 by omega), M_kb (om := (upd om.1 0 0, om.2)) (show p < 10 by omega), Option.bind_some]
theorem X_isTaken (h : RPos P B J os op ow oe (om.2 1) qw qe) (x : Int32) : zR1 (F_X8_isTakenForKing oB os op x) (F_X9_isTakenForKing om x) om := by
  refine z_reqP h x _ (fun o => (F_X9_rankOf o x).bind fun y4 => (F_X9_isTaken o x y4).bind fun y5 => if y5 = (0 : Int32) then some ((0 : Int32), o) else some ((1 : Int32), o)) (fun p hp e => ?_)
  subst e
  have hP := h.hP
  obtain ⟨r, hr, e⟩ := h.ra hp
  refine ⟨if z_kb (om.2 1) p (z_rk (om.2 1) p) < om.2 1 1 then 1 else 0, by rw [C_lk h hp]; rfl, ?_⟩
  simp only [M_rk (om := (upd om.1 0 0, om.2)) (show p < 10 by omega) e (show r < 10 by omega), ← z_rkE e (show r < 10 by omega), M_tk (om := (upd om.1 0 0, om.2)) (show p < 10 by omega), Option.bind_some, z_10]
  split <;> rfl
theorem X_tollOf (h : RPos P B J os op ow oe (om.2 1) qw qe) (x : Int32) : zR1 (F_X8_tollOf oB os op x) (F_X9_tollOf om x) om := by
  refine z_reqP h x _ (fun o => (F_X9_rankOf o x).bind fun y4 => (F_X9_tollWith o x y4).bind fun y5 => some (y5, o)) (fun p hp e => ?_)
  subst e
  have hP := h.hP
  obtain ⟨r, hr, e⟩ := h.ra hp
  refine ⟨z_tl (om.2 1) p (z_rk (om.2 1) p), by rw [C_tn h hp]; rfl, ?_⟩
  simp only [M_rk (om := (upd om.1 0 0, om.2)) (show p < 10 by omega) e (show r < 10 by omega), ← z_rkE e (show r < 10 by omega), M_tl (om := (upd om.1 0 0, om.2)) (show p < 10 by omega), Option.bind_some]
theorem X_cheapest (h : RPos P B J os op ow oe (om.2 1) qw qe) (x : Int32) : zR1 (F_X8_cheapestRags oB os op x) (F_X9_cheapestRags om x) om := by
  refine z_reqP h x _ (fun o => (F_X9_cheapestRags_19 x 100000 o 0 1).bind fun zl15 => some (zl15.1, zl15.2.2)) (fun p hp e => ?_)
  subst e
  have hP := h.hP
  refine ⟨_, by rw [C_cheap h hp]; rfl, ?_⟩
  have h2 : F_X9_cheapestRags_19 (nI p) 100000 (upd om.1 0 0, om.2) 0 1 = _ := M_cheap (om := (upd om.1 0 0, om.2)) (B := B) hP h.hB h.h8 h.h9 hp
  rw [h2]
  rfl
theorem X_royalHolder (h : RPos P B J os op ow oe (om.2 1) qw qe) (x : Int32) : zR (F_X8_royalHolder oB os op x) (F_X9_royalHolder om x) om id := by
  refine z_reqK h x _ (fun o => (F_X9_ofRoyal o x (0 : Int32)).bind fun y4 => some (y4, o)) (fun p hp e hk => ?_)
  subst e
  have hP := h.hP
  refine ⟨om.2 1 (102 + 3 * p), by rw [z_at (by omega) (by omega), ((h.2.2.2.1 p hp).1 hk).1], ?_⟩
  simp only [M_ofR0 (om := (upd om.1 0 0, om.2)) (show p < 10 by omega), Option.bind_some]
theorem X_isCounted (h : RPos P B J os op ow oe (om.2 1) qw qe) (x : Int32) : zR (F_X8_isCounted oB os op x) (F_X9_isCounted om x) om id := by
  refine z_reqK h x _ (fun o => (F_X9_ofRoyal o x (2 : Int32)).bind fun y4 => if y4 = (1 : Int32) then some ((1 : Int32), o) else some ((0 : Int32), o)) (fun p hp e hk => ?_)
  subst e
  have hP := h.hP
  refine ⟨if om.2 1 (102 + 3 * p + 2) = 1 then 1 else 0, ?_, ?_⟩
  · rw [z_at (by omega) (by omega), ((h.2.2.2.1 p hp).1 hk).2.1]; split <;> rfl
  · simp only [M_ofR2 (om := (upd om.1 0 0, om.2)) (show p < 10 by omega), Option.bind_some]
    split <;> rfl
theorem z_m1 {q : Nat} (h : q < 2 ^ 31) : nI q ≠ (-1 : Int32) := fun e => by
  have q2 := congrArg Int32.toInt e
  rw [nI_toInt h] at q2
  have : (-1 : Int32).toInt = -1 := rfl
  omega
theorem X_royalEast (h : RPos P B J os op ow oe (om.2 1) qw qe) (x : Int32) : zR (F_X8_isRoyalCoinEast oB os op x) (F_X9_isRoyalCoinEast om x) om id := by
  refine z_reqK h x _ (fun o => (F_X9_ofRoyal o x (0 : Int32)).bind fun y4 => if y4 = (-1 : Int32) then ((F_X9_ofRoyal o x (1 : Int32)).bind fun y8 => if y8 = (1 : Int32) then some ((1 : Int32), o) else some ((0 : Int32), o)) else ((F_X9_of o y4 (1 : Int32)).bind fun y6 => if y6 = (1 : Int32) then some ((1 : Int32), o) else some ((0 : Int32), o))) (fun p hp e hk => ?_)
  subst e
  have hP := h.hP
  have hr := h.2.2.2.1 p hp
  obtain ⟨r1, r2, r3⟩ := hr.1 hk
  rcases (h.1.2.2.2.2.2.2.1 p hp).1 with e | ⟨q, hq, e⟩
  · refine ⟨if om.2 1 (102 + 3 * p + 1) = 1 then 1 else 0, ?_, ?_⟩
    · simp only [F_X2_royalCoinBank, z_le]
      rw [z_at (by omega) (by omega), r1, if_pos e, z_at (by omega) (by omega), r3 e]
      simp only [Option.bind_some]
      split <;> rfl
    · simp only [M_ofR0 (om := (upd om.1 0 0, om.2)) (show p < 10 by omega), M_ofR1 (om := (upd om.1 0 0, om.2)) (show p < 10 by omega), Option.bind_some, e, if_true]
      split <;> rfl
  · have e1 := z_m1 (show q < 2 ^ 31 by omega)
    refine ⟨if om.2 1 (12 + 8 * q + 1) = 1 then 1 else 0, ?_, ?_⟩
    · simp only [F_X2_royalCoinBank, z_le]
      rw [z_at (by omega) (by omega), r1, e, if_neg e1, z_at (by omega) (by omega), h.bk hq]
      simp only [Option.bind_some]
      split <;> rfl
    · simp only [M_ofR0 (om := (upd om.1 0 0, om.2)) (show p < 10 by omega), Option.bind_some, e, if_neg e1, M_of1 (om := (upd om.1 0 0, om.2)) (show q < 10 by omega)]
      split <;> rfl
theorem X_royalCoins (h : RPos P B J os op ow oe (om.2 1) qw qe) (x : Int32) : zR1 (F_X8_royalCoins oB os op x) (F_X9_royalCoins om x) om := by
  refine z_reqP h x _ (fun o => (F_X9_royalsOf o x).bind fun y4 => some (y4, o)) (fun p hp e => ?_)
  subst e
  have hP := h.hP
  refine ⟨_, by rw [C_royals h hp]; rfl, ?_⟩
  simp only [M_royals (om := (upd om.1 0 0, om.2)) (B := B) hP h.hB h.h8 h.h9, Option.bind_some]
theorem X_bowTo (h : RPos P B J os op ow oe (om.2 1) qw qe) (x y : Int32) : zR (F_X8_bowTo oB os op x y) (F_X9_bowTo om x y) om id := by
  have hP := h.hP
  have h0 : (upd om.1 0 0, om.2).1 0 = 0 := z_h0
  simp only [F_X8_bowTo, F_X9_bowTo, z_le]
  rcases z_dec x P with hx | ⟨p, hp, -, rfl⟩
  · refine Or.inr ⟨1, 0, Or.inl rfl, by rw [C_rp0 h hx]; rfl, ?_⟩
    rw [M_no0 (om := (upd om.1 0 0, om.2)) h0 h.h8 (by omega) hP.2 hx]
    simp only [Option.bind_some, z_uu]
    rfl
  rw [C_rp h hp, Option.bind_some, if_pos rfl, M_no1 (om := (upd om.1 0 0, om.2)) h0 h.h8 hP.2 hp, Option.bind_some, if_pos rfl]
  rcases z_dec y P with hx | ⟨q, hq, -, rfl⟩
  · refine Or.inr ⟨1, 0, Or.inl rfl, by rw [C_rp0 h hx]; rfl, ?_⟩
    rw [M_no0 (om := (upd om.1 0 0, om.2)) h0 h.h8 (by omega) hP.2 hx]
    simp only [Option.bind_some, z_uu]
    rfl
  rw [C_rp h hq, Option.bind_some, if_pos rfl, M_no1 (om := (upd om.1 0 0, om.2)) h0 h.h8 hP.2 hq, Option.bind_some, if_pos rfl]
  by_cases e : nI p = nI q
  · refine Or.inr ⟨2, 0, Or.inr rfl, by rw [if_pos e], ?_⟩
    rw [if_pos e, M_f0 h0 (by decide)]
    simp only [Option.bind_some, z_uu]
    rfl
  · rw [if_neg e, if_neg e]
    obtain ⟨r, hr, e1, e2, e3⟩ := C_wo h hp
    obtain ⟨r2, hr2, e4, e5, e6⟩ := C_wo h hq
    refine Or.inl ⟨z_bow (45 + om.2 1 (92 + r2) - om.2 1 (92 + r) - om.2 1 (12 + 8 * p + 3)) (om.2 1 (12 + 8 * p)), ?_, ?_⟩
    · simp only [F_X2_angleTo, e2, e5, z_le, C_bow, Option.bind_some]
      rw [z_at (by omega) (by omega), z_at (by omega) (by omega), z_at (by omega) (by omega), z_at (by omega) (by omega), h.rk hr, h.rk hr2, h.pr hp, h.kg hp]
    · rw [M_f1 h0]
      simp only [Option.bind_some, if_true, M_rk (om := (upd om.1 0 0, om.2)) (show p < 10 by omega) e1 (show r < 10 by omega), M_rk (om := (upd om.1 0 0, om.2)) (show q < 10 by omega) e4 (show r2 < 10 by omega), M_of3 (om := (upd om.1 0 0, om.2)) (show p < 10 by omega), M_king (om := (upd om.1 0 0, om.2)) (show p < 10 by omega), M_bow Iff.rfl]
/-! Reads without a person. -/
theorem X_groundCoins (h : RPos P B J os op ow oe (om.2 1) qw qe) (x : Int32) : zV (F_X8_groundCoins oB op x) (F_X9_groundCoins om x) om := by
  have g0 := h.2.2.1.1.2.2.2.1
  have g1 := h.2.2.1.1.2.2.2.2
  by_cases hx : x = 0
  · refine ⟨om.2 1 6, ?_, ?_⟩
    · simp only [F_X8_groundCoins, F_X8_bankOf, if_pos hx, Option.bind_some]
      rw [show rx_at 2 (op.2 4) 0 = op.2 4 0 from z_at (n := 2) (i := 0) (by omega) (by omega), g0]
    · simp only [F_X9_groundCoins, z_le, M_tru, if_pos hx, Option.bind_some]
      rw [show (6 : Int32) + 0 = 6 from rfl, z_al6]
      rfl
  · refine ⟨om.2 1 7, ?_, ?_⟩
    · simp only [F_X8_groundCoins, F_X8_bankOf, if_neg hx, Option.bind_some]
      rw [show rx_at 2 (op.2 4) 1 = op.2 4 1 from z_at (n := 2) (i := 1) (by omega) (by omega), g1]
    · simp only [F_X9_groundCoins, z_le, M_tru, if_neg hx, Option.bind_some]
      rw [show (6 : Int32) + 1 = 7 from rfl, z_al7]
      rfl
theorem X_turn (h : RPos P B J os op ow oe (om.2 1) qw qe) : zV (F_X8_turn oB op) (F_X9_turn om) om := ⟨om.2 1 0, by rw [F_X8_turn, h.now], by simp only [F_X9_turn, z_le, z_al0, Option.bind_some]⟩
theorem X_limit (h : RPos P B J os op ow oe (om.2 1) qw qe) : zV (F_X8_limitAngle oB op) (F_X9_limitAngle om) om := ⟨om.2 1 1, by rw [F_X8_limitAngle, h.lim], by simp only [F_X9_limitAngle, z_le, z_al1, Option.bind_some]⟩
theorem X_box (h : RPos P B J os op ow oe (om.2 1) qw qe) : zV (F_X8_tollBox oB op) (F_X9_tollBox om) om := ⟨om.2 1 5, by rw [F_X8_tollBox, h.2.2.1.1.2.2.1], by simp only [F_X9_tollBox, z_le, z_al5, Option.bind_some]⟩
theorem X_people (h : RPos P B J os op ow oe (om.2 1) qw qe) : zV (F_X8_personCount oB os) (F_X9_personCount om) om := ⟨om.2 1 8, by rw [F_X8_personCount, h.s4, h.h8], by simp only [F_X9_personCount, z_le, z_al8, Option.bind_some]⟩
theorem X_bridges (h : RPos P B J os op ow oe (om.2 1) qw qe) : zV (F_X8_bridgeCount oB os) (F_X9_bridgeCount om) om := ⟨om.2 1 9, by rw [F_X8_bridgeCount, h.s5, h.h9], by simp only [F_X9_bridgeCount, z_le, z_al9, Option.bind_some]⟩
theorem X_kings (h : RPos P B J os op ow oe (om.2 1) qw qe) : zV (F_X8_kingCount oB os) (F_X9_kingCount om) om := by
  refine ⟨_, by rw [F_X8_kingCount, C_kings h]; rfl, ?_⟩
  simp only [F_X9_kingCount, z_le, M_kings (om := (upd om.1 0 0, om.2)) h.hP h.hB h.h8 h.h9, Option.bind_some]
theorem X_bankCount (h : RPos P B J os op ow oe (om.2 1) qw qe) (x : Int32) : zV (F_X8_bankCount oB os op x) (F_X9_bankCount om x) om := by
  have h2 := M_bankC (om := (upd om.1 0 0, om.2)) (x1 := x) h.hP h.hB h.h8 h.h9
  refine ⟨nI (z_cnt (fun k => decide (om.2 1 (12 + 8 * k + 1) = if x = 0 then 0 else 1)) P), ?_, ?_⟩
  rotate_left
  · simp only [F_X9_bankCount, z_le]
    have h3 : F_X9_bankCount_9 x 100000 (upd om.1 0 0, om.2) 0 0 = _ := h2
    rw [h3]
    rfl
  · simp only [F_X8_bankCount, F_X8_bankOf]
    by_cases hx : x = 0
    · simp only [if_pos hx, Option.bind_some, C_people h]
    · simp only [if_neg hx, Option.bind_some, C_people h]
theorem X_richest (h : RPos P B J os op ow oe (om.2 1) qw qe) : zV (F_X8_richest oB os op) (F_X9_richest om) om := by
  refine ⟨_, by rw [F_X8_richest, C_rich h]; rfl, ?_⟩
  have h3 : F_X9_richest_9 100000 (upd om.1 0 0, om.2) 0 1 = _ := M_rich (om := (upd om.1 0 0, om.2)) h.hP h.hB h.h8 h.h9
  simp only [F_X9_richest, z_le]
  rw [h3]
  rfl
theorem X_wrong (h : RPos P B J os op ow oe (om.2 1) qw qe) : zV (F_X8_wrongGuesses oB os op) (F_X9_wrongGuesses om) om := by
  refine ⟨_, by rw [F_X8_wrongGuesses, C_misj h]; rfl, ?_⟩
  have h3 : F_X9_wrongGuesses_9 100000 (upd om.1 0 0, om.2) 0 0 = _ := M_wrong (om := (upd om.1 0 0, om.2)) h.hP h.hB h.h8 h.h9 h.ra'
  simp only [F_X9_wrongGuesses, z_le]
  rw [h3]
  rfl
theorem X_stiffest (h : RPos P B J os op ow oe (om.2 1) qw qe) : zV (F_X8_stiffest oB os op) (F_X9_stiffest om) om := by
  refine ⟨_, by rw [F_X8_stiffest, C_stiff h]; rfl, ?_⟩
  have h3 : F_X9_stiffest_9 100000 (upd om.1 0 0, om.2) 0 1 = _ := M_stiff (om := (upd om.1 0 0, om.2)) h.hP h.hB h.h8 h.h9 h.ra'
  simp only [F_X9_stiffest, z_le]
  rw [h3]
  rfl
theorem X_countedR (h : RPos P B J os op ow oe (om.2 1) qw qe) : zV (F_X8_countedRoyalCoins oB os op) (F_X9_countedRoyalCoins om) om := by
  refine ⟨_, by rw [F_X8_countedRoyalCoins, C_count h]; rfl, ?_⟩
  simp only [F_X9_countedRoyalCoins, z_le, M_count (om := (upd om.1 0 0, om.2)) h.hP h.hB h.h8 h.h9, Option.bind_some]
theorem X_room (h : RPos P B J os op ow oe (om.2 1) qw qe) : zV (F_X8_room oB os op) (F_X9_room om) om := by
  refine ⟨_, by rw [F_X8_room, h.now, C_room h]; rfl, ?_⟩
  simp only [F_X9_room, z_le, M_room (om := (upd om.1 0 0, om.2)) h.hP h.hB h.h8 h.h9 h.1.2.2.2.2.2.2.2, Option.bind_some]
theorem X_gap (h : RPos P B J os op ow oe (om.2 1) qw qe) : zV (F_X8_coinGap oB os op) (F_X9_coinGap om) om := by
  have h3 : F_X9_coinGap_30 100000 (upd om.1 0 0, om.2) (om.2 1 5 + om.2 1 6 + om.2 1 7) 0 = _ := M_gap (om := (upd om.1 0 0, om.2)) (s0 := om.2 1 5 + om.2 1 6 + om.2 1 7) h.hP h.hB h.h8 h.h9
  have hs : z_su 0 (os.2 8) P = om.2 1 10 := by
    rw [← h.2.1.2.2.2]
    have : ∀ n, z_su 0 (os.2 8) n = z_sum (os.2 8) n := by
      intro n
      induction n with
      | zero => rfl
      | succ n ih => rw [z_su, z_sum, ih]
    exact this P
  refine ⟨_, by simp only [F_X8_coinGap, C_coins h, C_coinsS h, Option.bind_some, z_le, hs]; rfl, ?_⟩
  simp only [F_X9_coinGap, z_le, z_al5, z_al6, z_al7, Option.bind_some]
  rw [h3]
  simp only [z_al10, Option.bind_some, F_X9_plain]
  split
  · rfl
  · rename_i q
    rw [Int32.zero_sub]
    rfl
theorem X_qlen (h : RPos P B J os op ow oe (om.2 1) qw qe) (x : Int32) : zV (F_X8_queueLength oB op ow oe x) (F_X9_queueLength om x) om := by
  have hP := h.hP
  by_cases hx : x = 0
  · refine ⟨nI qw.length, ?_, ?_⟩
    · simp [F_X8_queueLength, F_X8_bankOf, hx, h.hqw.2.1]
    · simp only [F_X9_queueLength, z_le, M_tru, if_pos hx, Option.bind_some, M_len (om := (upd om.1 0 0, om.2)) hP.2 h.h8 h.hqw.1]
  · refine ⟨nI qe.length, ?_, ?_⟩
    · simp [F_X8_queueLength, F_X8_bankOf, hx, h.hqe.2.1]
    · simp only [F_X9_queueLength, z_le, M_tru, if_neg hx, Option.bind_some, M_len (om := (upd om.1 0 0, om.2)) hP.2 h.h8 h.hqe.1]
theorem X_queued (h : RPos P B J os op ow oe (om.2 1) qw qe) (x y : Int32) : zV (F_X8_queued oB op ow oe x y) (F_X9_queued om x y) om := by
  have hP := h.hP
  by_cases hx : x = 0
  · rcases z_dec y qw.length with hy | ⟨i, hi, -, rfl⟩
    · refine ⟨-1, ?_, ?_⟩
      · simp only [F_X8_queued, F_X8_bankOf, if_pos hx, Option.bind_some, C_personO h.hqw hy]; rfl
      · simp only [F_X9_queued, z_le, M_tru, if_pos hx, Option.bind_some, M_atO (om := (upd om.1 0 0, om.2)) hP.2 h.h8 h.hqw.1 hy]
    · refine ⟨nI qw[i], ?_, ?_⟩
      · simp only [F_X8_queued, F_X8_bankOf, if_pos hx, Option.bind_some, C_person hP.2 h.hqw hi]; rfl
      · simp only [F_X9_queued, z_le, M_tru, if_pos hx, Option.bind_some, M_atQ (om := (upd om.1 0 0, om.2)) hP.2 h.h8 h.hqw.1 hi]
  · rcases z_dec y qe.length with hy | ⟨i, hi, -, rfl⟩
    · refine ⟨-1, ?_, ?_⟩
      · simp only [F_X8_queued, F_X8_bankOf, if_neg hx, Option.bind_some, C_personO h.hqe hy]; rfl
      · simp only [F_X9_queued, z_le, M_tru, if_neg hx, Option.bind_some, M_atO (om := (upd om.1 0 0, om.2)) hP.2 h.h8 h.hqe.1 hy]
    · refine ⟨nI qe[i], ?_, ?_⟩
      · simp only [F_X8_queued, F_X8_bankOf, if_neg hx, Option.bind_some, C_person hP.2 h.hqe hi]; rfl
      · simp only [F_X9_queued, z_le, M_tru, if_neg hx, Option.bind_some, M_atQ (om := (upd om.1 0 0, om.2)) hP.2 h.h8 h.hqe.1 hi]
theorem X_isOpen (h : RPos P B J os op ow oe (om.2 1) qw qe) (x : Int32) : zR1 (F_X8_isOpen oB os op x) (F_X9_isOpen om x) om := by
  have hB := h.hB
  have h0 : (upd om.1 0 0, om.2).1 0 = 0 := z_h0
  rcases z_dec x B with hx | ⟨b, hb, -, rfl⟩
  · refine Or.inr ⟨0, ?_, ?_⟩
    · simp only [F_X8_isOpen, h.s5]
      by_cases h1 : x < 0
      · rw [if_pos h1]
      · rw [if_neg h1, if_neg (Int32.not_lt.mpr (hx.resolve_left h1))]
    · simp only [F_X9_isOpen, z_le, z_al9, Option.bind_some, h.h9, M_in]
      rw [z_pm1 (by omega), if_neg (z_inv (by omega) (by omega) hx), M_f0 h0 (by decide)]
      simp only [Option.bind_some, z_uu]
      rfl
  · obtain ⟨q, t, q1, q9, -, e, -, e2⟩ := C_op h hb
    refine Or.inl ⟨if om.2 1 0 - om.2 1 0 / om.2 1 (132 + 3 * b) * om.2 1 (132 + 3 * b) = om.2 1 (132 + 3 * b + 1) then 1 else 0, ?_, ?_⟩
    rotate_left
    · simp only [F_X9_isOpen, z_le, z_al9, Option.bind_some, h.h9, M_in]
      rw [z_pm1 (by omega), if_pos ⟨nI_pos' (by omega), nI_le (by omega) (by omega)⟩, M_f1 h0]
      simp only [Option.bind_some, if_true]
      rw [M_op (om := (upd om.1 0 0, om.2)) hB.2 hb q1 q9 e]
      simp only [Option.bind_some, z_10]
      split <;> rfl
    · simp only [F_X8_isOpen, h.s5]
      rw [if_neg (nI_pos (by omega)), if_pos (nI_lt hb (by omega)), h.now, e2]
      rfl
end READS
