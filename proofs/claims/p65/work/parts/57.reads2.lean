/-! The means, offers, and why one cannot cross. -/
theorem z_div {a b : Nat} (ha : a < 2 ^ 31) (hb : 0 < b) (hb2 : b < 2 ^ 31) : nI a / nI b = nI (a / b) := by
  have h1 : a / b ≤ a := Nat.div_le_self a b
  refine Int32.toInt_inj.mp ?_
  rw [Int32.toInt_div, nI_toInt ha, nI_toInt hb2, nI_toInt (by omega), ← Int.ofNat_tdiv]
  generalize a / b = q at h1 ⊢
  exact Int.bmod_eq_of_le (by omega) (by omega)
theorem z_sub {a b : Nat} (h : b ≤ a) : nI a - nI b = nI (a - b) := by
  have h1 := nI_add (a - b) b
  rw [Nat.sub_add_cancel h] at h1
  grind
theorem z_rem {a b : Nat} (ha : a < 2 ^ 31) (hb : 0 < b) (hb2 : b < 2 ^ 31) : nI a - nI a / nI b * nI b = nI (a % b) := by
  have h1 : a / b * b ≤ a := Nat.div_mul_le_self a b
  rw [z_div ha hb hb2, z_mul, z_sub h1]
  congr 1
  have := Nat.div_add_mod a b
  rw [Nat.mul_comm] at this
  omega
theorem z_mod2 (t : Nat) (h : t < 10001) : nI t - nI t / 2 * 2 = nI (t % 2) := z_rem (b := 2) (by omega) (by omega) (by omega)
theorem z_half (t : Nat) (h : t < 91) : nI t / 2 = nI (t / 2) := z_div (b := 2) (by omega) (by omega) (by omega)
theorem z_bowB {raw k : Int32} : ∃ q : Nat, q ≤ 90 ∧ z_bow raw k = nI q := by
  have h1 : ∃ q : Nat, q ≤ 90 ∧ (if 0 ≤ raw then (if raw ≤ 90 then raw else 90) else 0) = nI q := by
    by_cases h : 0 ≤ raw
    · rw [if_pos h]
      by_cases h2 : raw ≤ 90
      · rw [if_pos h2]
        exact nI_of2 (n := 90) rfl (Int32.not_lt.mpr h) h2
      · rw [if_neg h2]; exact ⟨90, by omega, rfl⟩
    · rw [if_neg h]; exact ⟨0, by omega, rfl⟩
  obtain ⟨q, hq, e⟩ := h1
  unfold z_bow
  rw [e]
  by_cases hk : k = 1
  · rw [if_pos hk, z_half q (by omega)]; exact ⟨q / 2, by omega, rfl⟩
  · rw [if_neg hk]; exact ⟨q, hq, rfl⟩
theorem z_suB {f : Nat → Int32} {m n : Nat} (h : ∀ k : Nat, k < n → ∃ q : Nat, q ≤ m ∧ f k = nI q) : ∃ q : Nat, q ≤ m * n ∧ z_su 0 f n = nI q := by
  induction n with
  | zero => exact ⟨0, by omega, rfl⟩
  | succ n ih =>
    obtain ⟨q, hq, e⟩ := ih (fun k hk => h k (by omega))
    obtain ⟨r, hr, e2⟩ := h n (by omega)
    exact ⟨q + r, by rw [Nat.mul_succ]; omega, by rw [z_su, e, e2, nI_add]⟩
section READS2
variable {P B J : Nat} {os op ow oe oB : ob} {qw qe : List Nat}
/-- a person's offer, in the queue of its bank or not -/
theorem C_offerQ {g : Nat → Int32} {o : ob} {e : Int32} {ql : List Nat} {p : Nat} (hP : P ≤ 10) (h : RQ P o g e ql) (hp : p < P) (he : g (12 + 8 * p + 1) = e) (h0 : 0 ≤ g (12 + 8 * p + 6)) : ∃ y : Int32, F_X3_placeOf o (nI p) = some y ∧ F_X3_offerAt o y = some (g (12 + 8 * p + 6) - 1) := by
  by_cases hm : p ∈ ql
  · obtain ⟨i, hi, e2⟩ := List.mem_iff_getElem.mp hm
    refine ⟨nI i, ?_, ?_⟩
    · rw [← e2]; exact C_place hP h hi
    · rw [C_offer hP h hi, e2]
  · refine ⟨-1, C_placeO hP h hp hm, ?_⟩
    rw [C_offerO h (Or.inl (by decide))]
    have : ¬ 0 < g (12 + 8 * p + 6) := fun q => hm ((h.1.1 p).mpr ⟨hp, by simp only [z_lof, z_qd, Bool.and_eq_true, decide_eq_true_eq]; exact ⟨q, he⟩⟩)
    have e3 : g (12 + 8 * p + 6) = 0 := Int32.le_antisymm (Int32.not_lt.mp this) h0
    rw [e3]; rfl
theorem C_offerOf {g : Nat → Int32} (h : RPos P B J os op ow oe g qw qe) {p : Nat} (hp : p < P) : F_X2_offerOf op ow oe (nI p) = some (g (12 + 8 * p + 6) - 1) := by
  have hP := h.hP
  simp only [F_X2_offerOf]
  rw [z_at (by omega) (by omega), h.bk hp]
  rcases h.b01 hp with e | e
  · obtain ⟨y, h1, h2⟩ := C_offerQ hP.2 h.hqw hp e (h.of hp).1
    rw [e, if_neg (by decide), h1, Option.bind_some, h2]
    rfl
  · obtain ⟨y, h1, h2⟩ := C_offerQ hP.2 h.hqe hp e (h.of hp).1
    rw [e, if_pos rfl, h1, Option.bind_some, h2]
    rfl
/-- the greatest of what some people have -/
def z_mx (f : Nat → Int32) (c : Nat → Bool) : Nat → Int32
  | 0 => 0
  | k + 1 => if c k = true ∧ z_mx f c k < f k then f k else z_mx f c k
theorem z_mxE {f : Nat → Int32} {c : Nat → Bool} {n : Nat} {v : Int32} (h1 : ∀ k : Nat, k < n → c k = true → f k ≤ v) (h2 : 0 ≤ v) (h3 : v = 0 ∨ ∃ k : Nat, k < n ∧ c k = true ∧ f k = v) : z_mx f c n = v := by
  have a1 : ∀ n : Nat, (∀ k : Nat, k < n → c k = true → f k ≤ v) → z_mx f c n ≤ v := by
    intro n
    induction n with
    | zero => intro _; exact h2
    | succ n ih =>
      intro h
      rw [z_mx]
      split
      · rename_i q; exact h n (by omega) q.1
      · exact ih (fun k hk => h k (by omega))
  have a2 : ∀ n k : Nat, k < n → c k = true → f k ≤ z_mx f c n := by
    intro n
    induction n with
    | zero => intro k hk; omega
    | succ n ih =>
      intro k hk hc
      rw [z_mx]
      by_cases e : k = n
      · subst e
        split
        · exact Int32.le_refl _
        · rename_i q; exact Int32.not_lt.mp (fun r => q ⟨hc, r⟩)
      · have := ih k (by omega) hc
        split
        · rename_i q; exact Int32.le_trans this (Int32.le_of_lt q.2)
        · exact this
  have a3 : ∀ n : Nat, 0 ≤ z_mx f c n := by
    intro n
    induction n with
    | zero => exact Int32.le_refl _
    | succ n ih =>
      rw [z_mx]
      split
      · rename_i q; exact Int32.le_trans ih (Int32.le_of_lt q.2)
      · exact ih
  refine Int32.le_antisymm (a1 n h1) ?_
  rcases h3 with rfl | ⟨k, hk, hc, rfl⟩
  · exact a3 n
  · exact a2 n k hk hc
theorem C_dep {g : Nat → Int32} (h : RPos P B J os op ow oe g qw qe) : ∃ t : Nat, t ≤ 10000 ∧ g 0 = nI t ∧ F_X2_departureBank op = some (nI (t % 2)) ∧ g 0 - g 0 / 2 * 2 = nI (t % 2) := by
  obtain ⟨t, ht, e, -⟩ := h.1.2.1
  refine ⟨t, ht, e, ?_, by rw [e]; exact z_mod2 t (by omega)⟩
  simp only [F_X2_departureBank, h.now, e, z_mod2 t (by omega)]
  rcases Nat.mod_two_eq_zero_or_one t with r | r
  · rw [r]; rfl
  · rw [r]; rfl
end READS2
