/-! The means, offers, and why one cannot cross. -/
theorem z_div {a b : Nat} (ha : a < 2 ^ 31) (hb : 0 < b) (hb2 : b < 2 ^ 31) : nI a / nI b = nI (a / b) := by
  have h1 : a / b ≤ a := Nat.div_le_self a b
  refine Int32.toInt_inj.mp ?_
  rw [Int32.toInt_div, nI_toInt ha, nI_toInt hb2, nI_toInt (by omega), ← Int.ofNat_tdiv]
  generalize a / b = q at h1 ⊢
  exact Int.bmod_eq_of_le (by omega) (by omega)
theorem z_sub {a b : Nat} (h : b ≤ a) : nI a - nI b = nI (a - b) := by
  have h1 := nI_add (a - b) b
  rw [Nat.sub_add_cancel h] at h1
  grind
theorem z_rem {a b : Nat} (ha : a < 2 ^ 31) (hb : 0 < b) (hb2 : b < 2 ^ 31) : nI a - nI a / nI b * nI b = nI (a % b) := by
  have h1 : a / b * b ≤ a := Nat.div_mul_le_self a b
  rw [z_div ha hb hb2, z_mul, z_sub h1]
  congr 1
  have := Nat.div_add_mod a b
  rw [Nat.mul_comm] at this
  omega
theorem z_mod2 (t : Nat) (h : t < 10001) : nI t - nI t / 2 * 2 = nI (t % 2) := z_rem (b := 2) (by omega) (by omega) (by omega)
theorem z_half (t : Nat) (h : t < 91) : nI t / 2 = nI (t / 2) := z_div (b := 2) (by omega) (by omega) (by omega)
theorem z_bowB {raw k : Int32} : ∃ q : Nat, q ≤ 90 ∧ z_bow raw k = nI q := by
  have h1 : ∃ q : Nat, q ≤ 90 ∧ (if 0 ≤ raw then (if raw ≤ 90 then raw else 90) else 0) = nI q := by
    by_cases h : 0 ≤ raw
    · rw [if_pos h]
      by_cases h2 : raw ≤ 90
      · rw [if_pos h2]
        exact nI_of2 (n := 90) rfl (Int32.not_lt.mpr h) h2
      · rw [if_neg h2]; exact ⟨90, by omega, rfl⟩
    · rw [if_neg h]; exact ⟨0, by omega, rfl⟩
  obtain ⟨q, hq, e⟩ := h1
  unfold z_bow
  rw [e]
  by_cases hk : k = 1
  · rw [if_pos hk, z_half q (by omega)]; exact ⟨q / 2, by omega, rfl⟩
  · rw [if_neg hk]; exact ⟨q, hq, rfl⟩
theorem z_suB {f : Nat → Int32} {m n : Nat} (h : ∀ k : Nat, k < n → ∃ q : Nat, q ≤ m ∧ f k = nI q) : ∃ q : Nat, q ≤ m * n ∧ z_su 0 f n = nI q := by
  induction n with
  | zero => exact ⟨0, by omega, rfl⟩
  | succ n ih =>
    obtain ⟨q, hq, e⟩ := ih (fun k hk => h k (by omega))
    obtain ⟨r, hr, e2⟩ := h n (by omega)
    exact ⟨q + r, by rw [Nat.mul_succ]; omega, by rw [z_su, e, e2, nI_add]⟩
section READS2
variable {P B J : Nat} {os op ow oe oB om : ob} {qw qe : List Nat}
theorem X_mean (h : RPos P B J os op ow oe (om.2 1) qw qe) : ∃ v : UInt64, F_X8_meanBow oB os op = some v ∧ F_X9_meanBow om = some (v, (upd om.1 0 0, om.2)) := by
  have hP := h.hP
  obtain ⟨q, hq, e⟩ := z_suB (f := fun k => z_kb (om.2 1) k (z_rk (om.2 1) k)) (m := 90) (n := P) (fun k hk => z_bowB)
  have hv : rx_ddv (FP.i2d (z_su 0 (fun k => z_kb (om.2 1) k (z_rk (om.2 1) k)) P)) (FP.i2d (nI P)) = some (FP.ddiv (FP.i2d (nI q)) (FP.i2d (nI P))) := by
    rw [e, rx_ddv, if_pos (fp_mean P (by omega) hP.1 q (by omega))]
  refine ⟨FP.ddiv (FP.i2d (nI q)) (FP.i2d (nI P)), ?_, ?_⟩
  rotate_left
  · have h3 : F_X9_meanBow_9 100000 (upd om.1 0 0, om.2) 0 0 = _ := M_mean (om := (upd om.1 0 0, om.2)) h.hP h.hB h.h8 h.h9 h.ra'
    simp only [F_X9_meanBow, z_le]
    rw [h3]
    simp only [Option.bind_some, z_al8, h.h8]
    rw [hv]
    rfl
  · simp only [F_X8_meanBow, h.s4]
    rw [if_neg (nI_ne0 (by omega) (by omega)), C_sumA h, Option.bind_some, hv]
    rfl
theorem X_share (h : RPos P B J os op ow oe (om.2 1) qw qe) : ∃ (v : UInt32) (w : UInt64), F_X8_countedShare oB os op = some v ∧ F_X9_countedShare om = some (v, (upd om.1 0 0, om.2)) ∧ rx_f2v v = some w := by
  have hP := h.hP
  obtain ⟨q, hq, e⟩ := z_suB (f := fun k => om.2 1 (12 + 8 * k)) (m := 1) (n := P) (fun k hk => by
    rcases h.k01 hk with r | r
    · exact ⟨0, by omega, r⟩
    · exact ⟨1, by omega, r⟩)
  obtain ⟨c, hc, e2⟩ := z_suB (f := fun k => if om.2 1 (12 + 8 * k) = 1 then om.2 1 (102 + 3 * k + 2) else 0) (m := 1) (n := P) (fun k hk => by
    split
    · rcases (h.1.2.2.2.2.2.2.1 k hk).2.2 with r | r
      · exact ⟨0, by omega, r⟩
      · exact ⟨1, by omega, r⟩
    · exact ⟨0, by omega, rfl⟩)
  have m1 := M_kings (om := (upd om.1 0 0, om.2)) (B := B) h.hP h.hB h.h8 h.h9
  have m2 := M_count (om := (upd om.1 0 0, om.2)) (B := B) h.hP h.hB h.h8 h.h9
  have c1 := C_kings h
  have c2 := C_count h
  dsimp only at m1 m2
  rw [e] at m1 c1
  rw [e2] at m2 c2
  by_cases hq0 : q = 0
  · subst hq0
    refine ⟨FP.fconst0, FP.f2d FP.fconst0, ?_, ?_, ?_⟩
    · simp only [F_X8_countedShare, c1, Option.bind_some]; rfl
    · simp only [F_X9_countedShare, z_le, m1, Option.bind_some]; rfl
    · rw [rx_f2v, if_pos (by decide +kernel)]
  · obtain ⟨f1, f2⟩ := fp_share q (by omega) (by omega) c (by omega)
    have hv : rx_fdv (FP.i2f (nI c)) (FP.i2f (nI q)) = some (FP.fdiv (FP.i2f (nI c)) (FP.i2f (nI q))) := by rw [rx_fdv, if_pos f1]
    refine ⟨FP.fdiv (FP.i2f (nI c)) (FP.i2f (nI q)), FP.f2d (FP.fdiv (FP.i2f (nI c)) (FP.i2f (nI q))), ?_, ?_, ?_⟩
    · simp only [F_X8_countedShare, c1, c2, Option.bind_some]
      rw [if_neg (nI_ne0 (by omega) (by omega)), hv]
      rfl
    · simp only [F_X9_countedShare, z_le, m1, m2, Option.bind_some]
      rw [if_neg (nI_ne0 (by omega) (by omega)), hv]
      rfl
    · rw [rx_f2v, if_pos f2]
/-- a person's offer, in the queue of its bank or not -/
theorem C_offerQ {g : Nat → Int32} {o : ob} {e : Int32} {ql : List Nat} {p : Nat} (hP : P ≤ 10) (h : RQ P o g e ql) (hp : p < P) (he : g (12 + 8 * p + 1) = e) (h0 : 0 ≤ g (12 + 8 * p + 6)) : ∃ y : Int32, F_X3_placeOf o (nI p) = some y ∧ F_X3_offerAt o y = some (g (12 + 8 * p + 6) - 1) := by
  by_cases hm : p ∈ ql
  · obtain ⟨i, hi, e2⟩ := List.mem_iff_getElem.mp hm
    refine ⟨nI i, ?_, ?_⟩
    · rw [← e2]; exact C_place hP h hi
    · rw [C_offer hP h hi, e2]
  · refine ⟨-1, C_placeO hP h hp hm, ?_⟩
    rw [C_offerO h (Or.inl (by decide))]
    have : ¬ 0 < g (12 + 8 * p + 6) := fun q => hm ((h.1.1 p).mpr ⟨hp, by simp only [z_lof, z_qd, Bool.and_eq_true, decide_eq_true_eq]; exact ⟨q, he⟩⟩)
    have e3 : g (12 + 8 * p + 6) = 0 := Int32.le_antisymm (Int32.not_lt.mp this) h0
    rw [e3]; rfl
theorem C_offerOf {g : Nat → Int32} (h : RPos P B J os op ow oe g qw qe) {p : Nat} (hp : p < P) : F_X2_offerOf op ow oe (nI p) = some (g (12 + 8 * p + 6) - 1) := by
  have hP := h.hP
  simp only [F_X2_offerOf]
  rw [z_at (by omega) (by omega), h.bk hp]
  rcases h.b01 hp with e | e
  · obtain ⟨y, h1, h2⟩ := C_offerQ hP.2 h.hqw hp e (h.of hp).1
    rw [e, if_neg (by decide), h1, Option.bind_some, h2]
    rfl
  · obtain ⟨y, h1, h2⟩ := C_offerQ hP.2 h.hqe hp e (h.of hp).1
    rw [e, if_pos rfl, h1, Option.bind_some, h2]
    rfl
theorem X_offer (h : RPos P B J os op ow oe (om.2 1) qw qe) (x : Int32) : zR1 (F_X8_offer oB os op ow oe x) (F_X9_offer om x) om := by
  refine z_reqP h x _ (fun o => (F_X9_of o x (6 : Int32)).bind fun y4 => some ((y4 - (1 : Int32)), o)) (fun p hp e => ?_)
  subst e
  have hP := h.hP
  refine ⟨om.2 1 (12 + 8 * p + 6) - 1, by rw [C_offerOf h hp]; rfl, ?_⟩
  simp only [M_of6 (om := (upd om.1 0 0, om.2)) (show p < 10 by omega), Option.bind_some]
/-- the greatest of what some people have -/
def z_mx (f : Nat → Int32) (c : Nat → Bool) : Nat → Int32
  | 0 => 0
  | k + 1 => if c k = true ∧ z_mx f c k < f k then f k else z_mx f c k
theorem z_mxE {f : Nat → Int32} {c : Nat → Bool} {n : Nat} {v : Int32} (h1 : ∀ k : Nat, k < n → c k = true → f k ≤ v) (h2 : 0 ≤ v) (h3 : v = 0 ∨ ∃ k : Nat, k < n ∧ c k = true ∧ f k = v) : z_mx f c n = v := by
  have a1 : ∀ n : Nat, (∀ k : Nat, k < n → c k = true → f k ≤ v) → z_mx f c n ≤ v := by
    intro n
    induction n with
    | zero => intro _; exact h2
    | succ n ih =>
      intro h
      rw [z_mx]
      split
      · rename_i q; exact h n (by omega) q.1
      · exact ih (fun k hk => h k (by omega))
  have a2 : ∀ n k : Nat, k < n → c k = true → f k ≤ z_mx f c n := by
    intro n
    induction n with
    | zero => intro k hk; omega
    | succ n ih =>
      intro k hk hc
      rw [z_mx]
      by_cases e : k = n
      · subst e
        split
        · exact Int32.le_refl _
        · rename_i q; exact Int32.not_lt.mp (fun r => q ⟨hc, r⟩)
      · have := ih k (by omega) hc
        split
        · rename_i q; exact Int32.le_trans this (Int32.le_of_lt q.2)
        · exact this
  have a3 : ∀ n : Nat, 0 ≤ z_mx f c n := by
    intro n
    induction n with
    | zero => exact Int32.le_refl _
    | succ n ih =>
      rw [z_mx]
      split
      · rename_i q; exact Int32.le_trans ih (Int32.le_of_lt q.2)
      · exact ih
  refine Int32.le_antisymm (a1 n h1) ?_
  rcases h3 with rfl | ⟨k, hk, hc, rfl⟩
  · exact a3 n
  · exact a2 n k hk hc
theorem M_fpo {p : Nat} (hP : P ≤ 10) (h8 : om.2 1 8 = nI P) (hp : p < P) : F_X9_firstPlaceOffer_19 (nI p) 100000 om 0 (nI 0) = some (z_mx (fun k => om.2 1 (12 + 8 * k + 6)) (fun k => decide (k ≠ p) && decide (om.2 1 (12 + 8 * k + 1) = om.2 1 (12 + 8 * p + 1))) P, nI P, om) := by
  exact z_for P (fun fu k (s : Int32) => F_X9_firstPlaceOffer_19 (nI p) fu om s (nI k)) (fun k => z_mx (fun k => om.2 1 (12 + 8 * k + 6)) (fun k => decide (k ≠ p) && decide (om.2 1 (12 + 8 * k + 1) = om.2 1 (12 + 8 * p + 1))) k) (by
    intro fu k hk
    show F_X9_firstPlaceOffer_19 (nI p) (fu + 1) om (z_mx (fun k => om.2 1 (12 + 8 * k + 6)) (fun k => decide (k ≠ p) && decide (om.2 1 (12 + 8 * k + 1) = om.2 1 (12 + 8 * p + 1))) k) (nI k) = F_X9_firstPlaceOffer_19 (nI p) fu om (z_mx (fun k => om.2 1 (12 + 8 * k + 6)) (fun k => decide (k ≠ p) && decide (om.2 1 (12 + 8 * k + 1) = om.2 1 (12 + 8 * p + 1))) (k + 1)) (nI (k + 1))
    simp only [F_X9_firstPlaceOffer_19, z_al8, Option.bind_some, h8]
    rw [z_ig hk (by omega)]
    simp only [M_of1 (show k < 10 by omega), M_of1 (show p < 10 by omega), M_of6 (show k < 10 by omega), Option.bind_some, nI_1, nI_eq (show k < 2 ^ 31 by omega) (show p < 2 ^ 31 by omega), z_mx]
    generalize z_mx (fun k => om.2 1 (12 + 8 * k + 6)) (fun k => decide (k ≠ p) && decide (om.2 1 (12 + 8 * k + 1) = om.2 1 (12 + 8 * p + 1))) k = s
    by_cases q1 : k = p
    · simp [q1]
    · by_cases q2 : om.2 1 (12 + 8 * k + 1) = om.2 1 (12 + 8 * p + 1)
      · by_cases q3 : s < om.2 1 (12 + 8 * k + 6)
        · simp [q1, q2, q3, Int32.not_le.mpr q3]
        · simp [q1, q2, q3, Int32.not_lt.mp q3]
      · simp [q1, q2]) (by
    intro fu
    show F_X9_firstPlaceOffer_19 (nI p) (fu + 1) om _ (nI P) = _
    simp only [F_X9_firstPlaceOffer_19, z_al8, Option.bind_some, h8]
    rw [z_il (Nat.le_refl _) (by omega)]) 100000 (by omega) 0 (Nat.zero_le _)
/-- what the class answers: one more than the offer of the first other in the queue -/
theorem C_lead {g : Nat → Int32} {o : ob} {e : Int32} {ql : List Nat} {p : Nat} (hP : P ≤ 10) (h : RQ P o g e ql) (hp : p < P) (he : g (12 + 8 * p + 1) = e) (ho : ∀ k : Nat, k < P → 0 ≤ g (12 + 8 * k + 6) ∧ g (12 + 8 * k + 6) ≤ 100) :
    F_X3_offerToLead o (nI p) = some (if z_mx (fun k => g (12 + 8 * k + 6)) (fun k => decide (k ≠ p) && decide (g (12 + 8 * k + 1) = g (12 + 8 * p + 1))) P ≤ 99 then z_mx (fun k => g (12 + 8 * k + 6)) (fun k => decide (k ≠ p) && decide (g (12 + 8 * k + 1) = g (12 + 8 * p + 1))) P else -1) := by
  have hl := h.1.lenP
  have hpw := List.pairwise_iff_getElem.mp h.1.2
  -- the first at or behind place i, if all ahead of it are p
  have key : ∀ i : Nat, (∀ (j : Nat) (hj : j < ql.length), j < i → ql[j] = p) → (∀ hi : i < ql.length, ql[i] ≠ p) → (∃ w : Int32, F_X3_offerAt o (nI i) = some w ∧ w + 1 = z_mx (fun k => g (12 + 8 * k + 6)) (fun k => decide (k ≠ p) && decide (g (12 + 8 * k + 1) = g (12 + 8 * p + 1))) P) ∨ 2 ^ 31 ≤ i := by
    intro i hj hne
    by_cases hbig : 2 ^ 31 ≤ i
    · exact Or.inr hbig
    refine Or.inl ?_
    by_cases hi : i < ql.length
    · refine ⟨_, C_offer hP h hi, ?_⟩
      have hb := h.1.bank hi
      have ha := h.1.at hi
      rw [show g (12 + 8 * ql[i] + 6) - 1 + 1 = g (12 + 8 * ql[i] + 6) by grind]
      refine (z_mxE (fun k hk hc => ?_) (ho _ ha.1).1 (Or.inr ⟨ql[i], ha.1, ?_, rfl⟩)).symm
      · simp only [Bool.and_eq_true, decide_eq_true_eq] at hc
        by_cases hq : 0 < g (12 + 8 * k + 6)
        · have hm : k ∈ ql := (h.1.1 k).mpr ⟨hk, by simp only [z_lof, z_qd, Bool.and_eq_true, decide_eq_true_eq]; exact ⟨hq, hc.2.trans he⟩⟩
          obtain ⟨m, hm2, e2⟩ := List.mem_iff_getElem.mp hm
          rcases Nat.lt_trichotomy m i with r | r | r
          · exact absurd (e2.symm.trans (hj m hm2 r)) hc.1
          · subst r; rw [e2]; exact Int32.le_refl _
          · have h3 := hpw i m hi hm2 r
            rw [e2] at h3
            simp only [z_ah, Bool.or_eq_true, Bool.and_eq_true, decide_eq_true_eq] at h3
            rcases h3 with h3 | h3
            · exact Int32.le_of_lt h3
            · rw [h3.1]; exact Int32.le_refl _
        · exact Int32.le_trans (Int32.not_lt.mp hq) (ho _ ha.1).1
      · simp only [Bool.and_eq_true, decide_eq_true_eq]
        exact ⟨hne hi, hb.1.trans he.symm⟩
    · refine ⟨-1, C_offerO h (Or.inr (nI_le (by omega) (by omega))), ?_⟩
      rw [show (-1 : Int32) + 1 = 0 from rfl]
      refine (z_mxE (fun k hk hc => ?_) (Int32.le_refl _) (Or.inl rfl)).symm
      simp only [Bool.and_eq_true, decide_eq_true_eq] at hc
      by_cases hq : 0 < g (12 + 8 * k + 6)
      · have hm : k ∈ ql := (h.1.1 k).mpr ⟨hk, by simp only [z_lof, z_qd, Bool.and_eq_true, decide_eq_true_eq]; exact ⟨hq, hc.2.trans he⟩⟩
        obtain ⟨m, hm2, e2⟩ := List.mem_iff_getElem.mp hm
        exact absurd (e2.symm.trans (hj m hm2 (by omega))) hc.1
      · exact Int32.not_lt.mp hq
  generalize z_mx (fun k => g (12 + 8 * k + 6)) (fun k => decide (k ≠ p) && decide (g (12 + 8 * k + 1) = g (12 + 8 * p + 1))) P = v at key ⊢
  simp only [F_X3_offerToLead, z_le]
  by_cases h0 : ∃ hi : 0 < ql.length, ql[0] = p
  · obtain ⟨hi, e0⟩ := h0
    have e1 : F_X3_personAt o 0 = some (nI ql[0]) := C_person hP h hi
    rw [e1, Option.bind_some, e0, if_pos rfl]
    rcases key 1 (fun j hj hj1 => by obtain rfl : j = 0 := by omega
                                     exact e0) (fun hi1 e => by have := h.1.inj hi1 hi (e.trans e0.symm); omega) with ⟨w, k1, k2⟩ | k
    · have k1 : F_X3_offerAt o 1 = some w := k1
      rw [k1, Option.bind_some, k2, z_ss]
    · omega
  · have hk := key 0 (fun j hj hj1 => by omega) (fun hi e => h0 ⟨hi, e⟩)
    rcases hk with ⟨w, k1, k2⟩ | k
    · have k1 : F_X3_offerAt o 0 = some w := k1
      have e1 : ∃ u : Int32, F_X3_personAt o 0 = some u ∧ u ≠ nI p := by
        by_cases hi : 0 < ql.length
        · refine ⟨nI ql[0], C_person hP h hi, fun e => h0 ⟨hi, ?_⟩⟩
          have := (h.1.at hi).1
          exact (nI_eq (by omega) (by omega)).mp e
        · exact ⟨-1, C_personO h (Or.inr (by rw [show ql.length = 0 by omega]; exact Int32.le_refl _)), fun e => z_m1 (show p < 2 ^ 31 by omega) e.symm⟩
      obtain ⟨u, e2, e3⟩ := e1
      rw [e2, Option.bind_some, if_neg e3, k1, Option.bind_some, k2, z_ss]
    · omega
theorem X_fpo (h : RPos P B J os op ow oe (om.2 1) qw qe) (x : Int32) : zR1 (F_X8_firstPlaceOffer oB os op ow oe x) (F_X9_firstPlaceOffer om x) om := by
  refine z_reqP h x _ (fun o => (F_X9_firstPlaceOffer_19 x 100000 o 0 0).bind fun zl17 => if zl17.1 ≤ (99 : Int32) then some (zl17.1, zl17.2.2) else some ((-1 : Int32), zl17.2.2)) (fun p hp e => ?_)
  subst e
  have hP := h.hP
  have ho : ∀ k : Nat, k < P → 0 ≤ om.2 1 (12 + 8 * k + 6) ∧ om.2 1 (12 + 8 * k + 6) ≤ 100 := fun k hk => h.of hk
  refine ⟨if z_mx (fun k => om.2 1 (12 + 8 * k + 6)) (fun k => decide (k ≠ p) && decide (om.2 1 (12 + 8 * k + 1) = om.2 1 (12 + 8 * p + 1))) P ≤ 99 then z_mx (fun k => om.2 1 (12 + 8 * k + 6)) (fun k => decide (k ≠ p) && decide (om.2 1 (12 + 8 * k + 1) = om.2 1 (12 + 8 * p + 1))) P else -1, ?_, ?_⟩
  rotate_left
  · have h2 : F_X9_firstPlaceOffer_19 (nI p) 100000 (upd om.1 0 0, om.2) 0 0 = _ := M_fpo (om := (upd om.1 0 0, om.2)) hP.2 h.h8 hp
    rw [h2]
    simp only [Option.bind_some]
    split <;> rfl
  · rw [z_at (by omega) (by omega), h.bk hp]
    rcases h.b01 hp with e | e
    · rw [if_neg (by rw [e]; decide), C_lead hP.2 h.hqw hp e ho]; rfl
    · rw [if_pos e, C_lead hP.2 h.hqe hp e ho]; rfl
theorem C_dep {g : Nat → Int32} (h : RPos P B J os op ow oe g qw qe) : ∃ t : Nat, t ≤ 10000 ∧ g 0 = nI t ∧ F_X2_departureBank op = some (nI (t % 2)) ∧ g 0 - g 0 / 2 * 2 = nI (t % 2) := by
  obtain ⟨t, ht, e, -⟩ := h.1.2.1
  refine ⟨t, ht, e, ?_, by rw [e]; exact z_mod2 t (by omega)⟩
  simp only [F_X2_departureBank, h.now, e, z_mod2 t (by omega)]
  rcases Nat.mod_two_eq_zero_or_one t with r | r
  · rw [r]; rfl
  · rw [r]; rfl
theorem X_obst (h : RPos P B J os op ow oe (om.2 1) qw qe) (x : Int32) : zR1 (F_X8_crossingObstacle oB os op ow oe x) (F_X9_crossingObstacle om x) om := by
  refine z_reqP h x _ (fun o => (rx_ald 144 (o.2 1) ((0 : Int32))).bind fun v4 => if v4 = (10000 : Int32) then (some ((1 : Int32), o)) else ((F_X9_of o x ((1 : Int32))).bind fun y6 => (rx_ald 144 (o.2 1) ((0 : Int32))).bind fun v7 => if y6 = (v7 - v7 / (2 : Int32) * (2 : Int32)) then ((F_X9_roomNow o).bind fun y9 => if y9 = (0 : Int32) then (some ((3 : Int32), o)) else ((F_X9_isQueued o x).bind fun y11 => if y11 = (0 : Int32) then ((F_X9_of o x ((2 : Int32))).bind fun y13 => (F_X9_rankOf o x).bind fun y14 => (F_X9_tollWith o x y14).bind fun y15 => if (y15 + (0 : Int32)) ≤ y13 then (some ((0 : Int32), o)) else (some ((4 : Int32), o))) else ((F_X9_of o x ((6 : Int32))).bind fun y17 => rx_le ((y17 - (1 : Int32))) fun v18 => (F_X9_of o x ((2 : Int32))).bind fun y19 => (F_X9_rankOf o x).bind fun y20 => (F_X9_tollWith o x y20).bind fun y21 => if (y21 + v18) ≤ y19 then (some ((0 : Int32), o)) else (some ((4 : Int32), o))))) else (some ((2 : Int32), o)))) (fun p hp e => ?_)
  subst e
  have hP := h.hP
  obtain ⟨t, ht, e0, d1, d2⟩ := C_dep h
  obtain ⟨r, hr, er⟩ := h.ra hp
  have ho := h.of hp
  have k1 : (nI t = 10000) ↔ ¬ nI t ≤ 9999 := by
    rw [show (10000 : Int32) = nI 10000 from rfl, show (9999 : Int32) = nI 9999 from rfl, nI_eq (by omega) (by omega), nI_leI (by omega) (by omega)]
    omega
  simp only [h.now, d1, C_room h, C_tn h hp, C_offerOf h hp, Option.bind_some, z_le, z_al0, M_of1 (om := (upd om.1 0 0, om.2)) (show p < 10 by omega), M_room (om := (upd om.1 0 0, om.2)) h.hP h.hB h.h8 h.h9 h.1.2.2.2.2.2.2.2, M_qd (om := (upd om.1 0 0, om.2)) (show p < 10 by omega), M_of2 (om := (upd om.1 0 0, om.2)) (show p < 10 by omega), M_of6 (om := (upd om.1 0 0, om.2)) (show p < 10 by omega), M_rk (om := (upd om.1 0 0, om.2)) (show p < 10 by omega) er (show r < 10 by omega), ← z_rkE er (show r < 10 by omega), M_tl (om := (upd om.1 0 0, om.2)) (show p < 10 by omega), z_10, z_qd, decide_eq_true_eq]
  rw [z_at (by omega) (by omega), z_at (by omega) (by omega), h.bk hp, h.pu hp, d2]
  simp only [e0]
  by_cases c1 : nI t ≤ 9999
  · rw [if_pos c1, if_neg (fun q => k1.mp q c1)]
    by_cases c2 : om.2 1 (12 + 8 * p + 1) = nI (t % 2)
    · rw [if_pos c2, if_pos c2]
      by_cases c3 : z_su 0 (z_opw (om.2 1)) B = 0
      · exact ⟨3, by rw [if_pos c3], by rw [if_pos c3]⟩
      · rw [if_neg c3, if_neg c3]
        by_cases c4 : 0 < om.2 1 (12 + 8 * p + 6)
        · rw [if_pos c4]
          have e5 : (if 0 < om.2 1 (12 + 8 * p + 6) - 1 then om.2 1 (12 + 8 * p + 6) - 1 else 0) = om.2 1 (12 + 8 * p + 6) - 1 := by
            split
            · rfl
            · grind
          rw [e5]
          by_cases c5 : z_tl (om.2 1) p (z_rk (om.2 1) p) + (om.2 1 (12 + 8 * p + 6) - 1) ≤ om.2 1 (12 + 8 * p + 2)
          · exact ⟨0, by rw [if_pos c5], by rw [if_pos c5]⟩
          · exact ⟨4, by rw [if_neg c5], by rw [if_neg c5]⟩
        · rw [if_neg c4]
          have e5 : (if 0 < om.2 1 (12 + 8 * p + 6) - 1 then om.2 1 (12 + 8 * p + 6) - 1 else 0) = 0 := by
            rw [if_neg]
            grind
          rw [e5]
          by_cases c5 : z_tl (om.2 1) p (z_rk (om.2 1) p) + 0 ≤ om.2 1 (12 + 8 * p + 2)
          · exact ⟨0, by rw [if_pos c5], by rw [if_pos c5]⟩
          · exact ⟨4, by rw [if_neg c5], by rw [if_neg c5]⟩
    · exact ⟨2, by rw [if_neg c2], by rw [if_neg c2]⟩
  · exact ⟨1, by rw [if_neg c1], by rw [if_pos (k1.mpr c1)]⟩
end READS2
