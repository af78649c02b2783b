/-! Texts: the pieces that class and model read. -/
theorem z_first {p : Nat → Prop} {n E : Nat} (h : n ≤ E) : ∃ m : Nat, n ≤ m ∧ m ≤ E ∧ (∀ k : Nat, n ≤ k → k < m → ¬ p k) ∧ (m < E → p m) := by
  have key : ∀ d n : Nat, n + d = E → ∃ m : Nat, n ≤ m ∧ m ≤ E ∧ (∀ k : Nat, n ≤ k → k < m → ¬ p k) ∧ (m < E → p m) := by
    intro d
    induction d with
    | zero => intro n hn; exact ⟨n, by omega, by omega, fun k h1 h2 => by omega, fun q => by omega⟩
    | succ d ih =>
      intro n hn
      by_cases q : p n
      · exact ⟨n, by omega, by omega, fun k h1 h2 => by omega, fun _ => q⟩
      · obtain ⟨m, h1, h2, h3, h4⟩ := ih (n + 1) (by omega)
        refine ⟨m, by omega, h2, fun k k1 k2 => ?_, h4⟩
        by_cases r : k = n
        · subst r; exact q
        · exact h3 k (by omega) k2
  exact key (E - n) n (by omega)
/-- a loop from n on that ends at m -/
theorem z_run {τ : Type} {L : Nat → Nat → Option τ} {r : Option τ} {n m : Nat} (h : n ≤ m) (hs : ∀ fu k : Nat, n ≤ k → k < m → L (fu + 1) k = L fu (k + 1)) (he : ∀ fu : Nat, L (fu + 1) m = r) {fu : Nat} (hf : m < fu) : L fu n = r := by
  have key : ∀ d k fu : Nat, k + d = m → n ≤ k → d < fu → L fu k = r := by
    intro d
    induction d with
    | zero =>
      intro k fu h1 h2 h3
      obtain ⟨fu, rfl⟩ : ∃ q, fu = q + 1 := ⟨fu - 1, by omega⟩
      obtain rfl : k = m := by omega
      exact he fu
    | succ d ih =>
      intro k fu h1 h2 h3
      obtain ⟨fu, rfl⟩ : ∃ q, fu = q + 1 := ⟨fu - 1, by omega⟩
      rw [hs fu k h2 (by omega)]
      exact ih (k + 1) fu (by omega) (by omega) (by omega)
  exact key (m - n) n fu (by omega) (Nat.le_refl _) (by omega)
theorem z_uid {f : Nat → Int32} {i : Nat} : upd f i (f i) = f := by
  funext j
  by_cases q : j = i
  · subst q; rw [z_us]
  · rw [z_un q]
theorem z_uid2 {f : Nat → Int32} {i : Nat} {v : Int32} (h : f i = v) : upd f i v = f := by subst h; exact z_uid
/-- digits: the class's number is the model's, but not beyond 1000 -/
def z_vm (b : Nat → Int32) (s : Nat) : Nat → Int32
  | 0 => 0
  | j + 1 => if z_vm b s j ≤ 9999999 then (10 * z_vm b s j + b (s + j)) - 48 else z_vm b s j
def z_vc (b : Nat → Int32) (s : Nat) : Nat → Int32
  | 0 => 0
  | j + 1 => if (z_vc b s j * 10 + b (s + j)) - 48 < 1000 then (z_vc b s j * 10 + b (s + j)) - 48 else 1000
theorem z_dig {x : Int32} (h : ¬ x < 48) (h2 : ¬ 57 < x) : ∃ d : Nat, d ≤ 9 ∧ x = nI (48 + d) := by
  obtain ⟨q, hq, rfl⟩ := nI_of2 (n := 57) (x := x) rfl (by have := Int32.not_lt.mp h; exact Int32.not_lt.mpr (Int32.le_trans (by decide) this)) (Int32.not_lt.mp h2)
  rw [Int32.not_lt, show (48 : Int32) = nI 48 from rfl, nI_leI (by omega) (by omega)] at h
  exact ⟨q - 48, by omega, by rw [show 48 + (q - 48) = q by omega]⟩
theorem z_vmc {b : Nat → Int32} {s : Nat} : ∀ j : Nat, (∀ k : Nat, k < j → ¬ b (s + k) < 48 ∧ ¬ 57 < b (s + k)) → ∃ v : Nat, v < 100000000 ∧ z_vm b s j = nI v ∧ z_vc b s j = nI (min 1000 v) := by
  intro j
  induction j with
  | zero => intro _; exact ⟨0, by omega, rfl, rfl⟩
  | succ j ih =>
    intro h
    obtain ⟨v, hv, e1, e2⟩ := ih (fun k hk => h k (by omega))
    obtain ⟨d, hd, ed⟩ := z_dig (h j (by omega)).1 (h j (by omega)).2
    have c1 : z_vc b s (j + 1) = nI (min 1000 (10 * min 1000 v + d)) := by
      have : z_vc b s j * 10 + b (s + j) - 48 = nI (10 * min 1000 v + d) := by
        rw [e2, ed, show (10 : Int32) = nI 10 from rfl, show (48 : Int32) = nI 48 from rfl, z_mul, nI_add, z_sub (by omega)]
        congr 1; omega
      rw [z_vc, this, show (1000 : Int32) = nI 1000 from rfl]
      by_cases q : 10 * min 1000 v + d < 1000
      · rw [if_pos (nI_lt q (by omega))]
        congr 1; omega
      · rw [if_neg (Int32.not_lt.mpr (nI_le (by omega) (by omega)))]
        congr 1; omega
    by_cases q : v ≤ 9999999
    · refine ⟨10 * v + d, by omega, ?_, ?_⟩
      · rw [z_vm, e1, show (9999999 : Int32) = nI 9999999 from rfl, if_pos (nI_le q (by omega)), ed, show (10 : Int32) = nI 10 from rfl, show (48 : Int32) = nI 48 from rfl, z_mul, nI_add, z_sub (by omega)]
        congr 1; omega
      · rw [c1]; congr 1; omega
    · refine ⟨v, hv, ?_, ?_⟩
      · rw [z_vm, e1, show (9999999 : Int32) = nI 9999999 from rfl, if_neg (nI_ge (by omega) (by omega))]
      · rw [c1]; congr 1; omega
theorem C_ltr {x : Int32} : F_X6_isLetter x = some (if 97 ≤ x ∧ x ≤ 122 then 1 else 0) := by
  unfold F_X6_isLetter
  by_cases h1 : x < 97
  · rw [if_pos h1, if_neg (fun q => Int32.not_le.mpr h1 q.1)]
  · rw [if_neg h1]
    by_cases h2 : 122 < x
    · rw [if_pos h2, if_neg (fun q => Int32.not_le.mpr h2 q.2)]
    · rw [if_neg h2, if_pos ⟨Int32.not_lt.mp h1, Int32.not_lt.mp h2⟩]
theorem M_ltr {x : Int32} : F_X9_isLetter x = some (if 97 ≤ x ∧ x ≤ 122 then 1 else 0) := C_ltr
theorem C_dgt {x : Int32} : F_X6_isDigit x = some (if 48 ≤ x ∧ x ≤ 57 then 1 else 0) := by
  unfold F_X6_isDigit
  by_cases h1 : x < 48
  · rw [if_pos h1, if_neg (fun q => Int32.not_le.mpr h1 q.1)]
  · rw [if_neg h1]
    by_cases h2 : 57 < x
    · rw [if_pos h2, if_neg (fun q => Int32.not_le.mpr h2 q.2)]
    · rw [if_neg h2, if_pos ⟨Int32.not_lt.mp h1, Int32.not_lt.mp h2⟩]
theorem M_dgt {x : Int32} : F_X9_isFigure x = some (if 48 ≤ x ∧ x ≤ 57 then 1 else 0) := C_dgt
theorem C_blk {x : Int32} : F_X6_isBlank x = some (if x = 32 ∨ x = 10 then 1 else 0) := by
  unfold F_X6_isBlank
  by_cases h1 : x = 32 <;> by_cases h2 : x = 10 <;> simp [h1, h2]
section TOK
variable {ot om : ob} {E n s : Nat}
theorem M_by {k : Nat} (h10 : om.1 10 = nI E) (hE : E ≤ 500) (hk : k < E) : F_X9_byteAt om (nI k) = some (om.2 8 k) := by
  simp only [F_X9_byteAt, h10]
  rw [z_ig hk (by omega), z_ald (by omega) (by omega)]
  rfl
theorem M_byE (h10 : om.1 10 = nI E) : F_X9_byteAt om (nI E) = some (-1) := by
  simp only [F_X9_byteAt, h10]
  rw [if_pos (Int32.le_refl _)]
/-- blanks -/
theorem T_skip (hE : E ≤ 500) (hn : n ≤ E) (h2 : ot.1 2 = nI E) (h10 : om.1 10 = nI E) (hb : ∀ i : Nat, i < E → ot.2 0 i = om.2 8 i) (h5 : ot.1 4 = nI n) (h11 : om.1 11 = nI n) : ∃ m : Nat, n ≤ m ∧ m ≤ E ∧ F_X6_advance_16 100000 ot = some (upd ot.1 4 (nI m), ot.2) ∧ F_X9_next_0 100000 om = some (upd om.1 11 (nI m), om.2) := by
  obtain ⟨m, m1, m2, m3, m4⟩ := z_first (p := fun k => ¬ (ot.2 0 k = 32 ∨ ot.2 0 k = 10)) hn
  refine ⟨m, m1, m2, ?_, ?_⟩
  · have h := z_run (L := fun fu k => F_X6_advance_16 fu (upd ot.1 4 (nI k), ot.2)) (r := some (upd ot.1 4 (nI m), ot.2)) m1 (by
      intro fu k k1 k2
      show F_X6_advance_16 (fu + 1) (upd ot.1 4 (nI k), ot.2) = F_X6_advance_16 fu (upd ot.1 4 (nI (k + 1)), ot.2)
      simp only [F_X6_advance_16, z_leN, z_us, z_un (show (2 : Nat) ≠ 4 by omega), h2, C_blk, z_bsN]
      rw [z_ig (by omega) (by omega), z_at (by omega) (by omega), if_pos (Decidable.not_not.mp (m3 k k1 k2)), if_neg (by decide), z_uu, nI_1]) (by
      intro fu
      show F_X6_advance_16 (fu + 1) (upd ot.1 4 (nI m), ot.2) = _
      simp only [F_X6_advance_16, z_leN, z_us, z_un (show (2 : Nat) ≠ 4 by omega), h2, C_blk, z_bsN]
      by_cases q : m = E
      · rw [z_il (by omega) (by omega)]
      · rw [z_ig (by omega) (by omega), z_at (by omega) (by omega), if_neg (m4 (by omega)), if_pos rfl]) (fu := 100000) (by omega)
    have h : F_X6_advance_16 100000 (upd ot.1 4 (nI n), ot.2) = _ := h
    rw [z_uid2 h5] at h
    exact h
  · have h := z_run (L := fun fu k => F_X9_next_0 fu (upd om.1 11 (nI k), om.2)) (r := some (upd om.1 11 (nI m), om.2)) m1 (by
      intro fu k k1 k2
      show F_X9_next_0 (fu + 1) (upd om.1 11 (nI k), om.2) = F_X9_next_0 fu (upd om.1 11 (nI (k + 1)), om.2)
      have hy := M_by (om := (upd om.1 11 (nI k), om.2)) (E := E) (k := k) (by dsimp only; rw [z_un (by omega)]; exact h10) hE (by omega)
      have hq := Decidable.not_not.mp (m3 k k1 k2)
      rw [hb k (by omega)] at hq
      simp only [F_X9_next_0, z_leN, z_us, hy, z_bsN, z_uu, nI_1]
      rcases hq with r | r
      · rw [if_pos r]
      · rw [if_neg (by rw [r]; decide), if_pos r]) (by
      intro fu
      show F_X9_next_0 (fu + 1) (upd om.1 11 (nI m), om.2) = _
      by_cases q : m = E
      · have hy := M_byE (om := (upd om.1 11 (nI m), om.2)) (E := E) (by dsimp only; rw [z_un (by omega)]; exact h10)
        subst q
        simp only [F_X9_next_0, z_us, hy, z_bsN]
        rw [if_neg (by decide), if_neg (by decide)]
      · have hy := M_by (om := (upd om.1 11 (nI m), om.2)) (E := E) (k := m) (by dsimp only; rw [z_un (by omega)]; exact h10) hE (by omega)
        have hq := m4 (by omega)
        rw [hb m (by omega)] at hq
        simp only [F_X9_next_0, z_us, hy, z_bsN]
        rw [if_neg (fun r => hq (Or.inl r)), if_neg (fun r => hq (Or.inr r))]) (fu := 100000) (by omega)
    have h : F_X9_next_0 100000 (upd om.1 11 (nI n), om.2) = _ := h
    rw [z_uid2 h11] at h
    exact h
/-- letters -/
theorem T_word (hE : E ≤ 500) (hn : n ≤ E) (h2 : ot.1 2 = nI E) (h10 : om.1 10 = nI E) (hb : ∀ i : Nat, i < E → ot.2 0 i = om.2 8 i) (h5 : ot.1 5 = nI n) (h11 : om.1 11 = nI n) : ∃ m : Nat, n ≤ m ∧ m ≤ E ∧ F_X6_scanWord_5 100000 ot = some (upd ot.1 5 (nI m), ot.2) ∧ F_X9_next_81 100000 om = some (upd om.1 11 (nI m), om.2) := by
  obtain ⟨m, m1, m2, m3, m4⟩ := z_first (p := fun k => ¬ (97 ≤ ot.2 0 k ∧ ot.2 0 k ≤ 122)) hn
  refine ⟨m, m1, m2, ?_, ?_⟩
  · have h := z_run (L := fun fu k => F_X6_scanWord_5 fu (upd ot.1 5 (nI k), ot.2)) (r := some (upd ot.1 5 (nI m), ot.2)) m1 (by
      intro fu k k1 k2
      show F_X6_scanWord_5 (fu + 1) (upd ot.1 5 (nI k), ot.2) = F_X6_scanWord_5 fu (upd ot.1 5 (nI (k + 1)), ot.2)
      simp only [F_X6_scanWord_5, z_leN, z_us, z_un (show (2 : Nat) ≠ 5 by omega), h2, C_ltr, z_bsN]
      rw [z_ig (by omega) (by omega), z_at (by omega) (by omega), if_pos (Decidable.not_not.mp (m3 k k1 k2)), if_neg (by decide), z_uu, nI_1]) (by
      intro fu
      show F_X6_scanWord_5 (fu + 1) (upd ot.1 5 (nI m), ot.2) = _
      simp only [F_X6_scanWord_5, z_leN, z_us, z_un (show (2 : Nat) ≠ 5 by omega), h2, C_ltr, z_bsN]
      by_cases q : m = E
      · rw [z_il (by omega) (by omega)]
      · rw [z_ig (by omega) (by omega), z_at (by omega) (by omega), if_neg (m4 (by omega)), if_pos rfl]) (fu := 100000) (by omega)
    have h : F_X6_scanWord_5 100000 (upd ot.1 5 (nI n), ot.2) = _ := h
    rw [z_uid2 h5] at h
    exact h
  · have h := z_run (L := fun fu k => F_X9_next_81 fu (upd om.1 11 (nI k), om.2)) (r := some (upd om.1 11 (nI m), om.2)) m1 (by
      intro fu k k1 k2
      show F_X9_next_81 (fu + 1) (upd om.1 11 (nI k), om.2) = F_X9_next_81 fu (upd om.1 11 (nI (k + 1)), om.2)
      have hy := M_by (om := (upd om.1 11 (nI k), om.2)) (E := E) (k := k) (by dsimp only; rw [z_un (by omega)]; exact h10) hE (by omega)
      have hq := Decidable.not_not.mp (m3 k k1 k2)
      rw [hb k (by omega)] at hq
      simp only [F_X9_next_81, z_leN, z_us, hy, z_bsN, z_uu, nI_1, M_ltr]
      rw [if_pos hq, if_neg (by decide)]) (by
      intro fu
      show F_X9_next_81 (fu + 1) (upd om.1 11 (nI m), om.2) = _
      by_cases q : m = E
      · have hy := M_byE (om := (upd om.1 11 (nI m), om.2)) (E := E) (by dsimp only; rw [z_un (by omega)]; exact h10)
        subst q
        simp only [F_X9_next_81, z_us, hy, z_bsN, M_ltr]
        rw [if_pos (by decide)]
      · have hy := M_by (om := (upd om.1 11 (nI m), om.2)) (E := E) (k := m) (by dsimp only; rw [z_un (by omega)]; exact h10) hE (by omega)
        have hq := m4 (by omega)
        rw [hb m (by omega)] at hq
        simp only [F_X9_next_81, z_us, hy, z_bsN, M_ltr]
        rw [if_neg hq, if_pos rfl]) (fu := 100000) (by omega)
    have h : F_X9_next_81 100000 (upd om.1 11 (nI n), om.2) = _ := h
    rw [z_uid2 h11] at h
    exact h
/-- digits -/
theorem T_num (hE : E ≤ 500) (hn : n ≤ E) (h2 : ot.1 2 = nI E) (h10 : om.1 10 = nI E) (hb : ∀ i : Nat, i < E → ot.2 0 i = om.2 8 i) (h5 : ot.1 5 = nI n) (h11 : om.1 11 = nI n) (h6 : ot.1 6 = 0) (h14 : om.1 14 = 0) : ∃ m v : Nat, n ≤ m ∧ m ≤ E ∧ v < 100000000 ∧ F_X6_scanNumber_10 100000 ot = some (upd (upd ot.1 6 (nI (min 1000 v))) 5 (nI m), ot.2) ∧ F_X9_readsNumber_5 100000 om = some (upd (upd om.1 14 (nI v)) 11 (nI m), om.2) := by
  obtain ⟨m, m1, m2, m3, m4⟩ := z_first (p := fun k => ¬ (48 ≤ ot.2 0 k ∧ ot.2 0 k ≤ 57)) hn
  obtain ⟨v, hv, e1, e2⟩ := z_vmc (b := ot.2 0) (s := n) (m - n) (fun k hk => by
    have := Decidable.not_not.mp (m3 (n + k) (by omega) (by omega))
    exact ⟨Int32.not_lt.mpr this.1, Int32.not_lt.mpr this.2⟩)
  refine ⟨m, v, m1, m2, hv, ?_, ?_⟩
  · have h := z_run (L := fun fu k => F_X6_scanNumber_10 fu (upd (upd ot.1 6 (z_vc (ot.2 0) n (k - n))) 5 (nI k), ot.2)) (r := some (upd (upd ot.1 6 (z_vc (ot.2 0) n (m - n))) 5 (nI m), ot.2)) m1 (by
      intro fu k k1 k2
      show F_X6_scanNumber_10 (fu + 1) (upd (upd ot.1 6 (z_vc (ot.2 0) n (k - n))) 5 (nI k), ot.2) = F_X6_scanNumber_10 fu (upd (upd ot.1 6 (z_vc (ot.2 0) n (k + 1 - n))) 5 (nI (k + 1)), ot.2)
      have hs : z_vc (ot.2 0) n (k + 1 - n) = if (z_vc (ot.2 0) n (k - n) * 10 + ot.2 0 k) - 48 < 1000 then (z_vc (ot.2 0) n (k - n) * 10 + ot.2 0 k) - 48 else 1000 := by
        rw [show k + 1 - n = (k - n) + 1 by omega, z_vc, show n + (k - n) = k by omega]
      have hf : ∀ w x : Int32, upd (upd (upd (upd ot.1 6 (z_vc (ot.2 0) n (k - n))) 5 (nI k)) 6 w) 5 x = upd (upd ot.1 6 w) 5 x := by
        intro w x
        funext j
        by_cases q5 : j = 5
        · subst q5; rw [z_us, z_us]
        · by_cases q6 : j = 6
          · subst q6; rw [z_un (by omega), z_us, z_un (by omega), z_us]
          · rw [z_un q5, z_un q6, z_un q5, z_un q6, z_un q5, z_un q6]
      rw [hs]
      simp only [F_X6_scanNumber_10, z_leN, z_us, z_un (show (2 : Nat) ≠ 5 by omega), z_un (show (2 : Nat) ≠ 6 by omega), z_un (show (5 : Nat) ≠ 6 by omega), z_un (show (6 : Nat) ≠ 5 by omega), h2, C_dgt, z_bsN]
      rw [z_ig (by omega) (by omega), z_at (by omega) (by omega), if_pos (Decidable.not_not.mp (m3 k k1 k2)), if_neg (by decide), hf, nI_1]) (by
      intro fu
      show F_X6_scanNumber_10 (fu + 1) (upd (upd ot.1 6 (z_vc (ot.2 0) n (m - n))) 5 (nI m), ot.2) = _
      simp only [F_X6_scanNumber_10, z_leN, z_us, z_un (show (2 : Nat) ≠ 5 by omega), z_un (show (2 : Nat) ≠ 6 by omega), h2, C_dgt, z_bsN]
      by_cases q : m = E
      · rw [z_il (by omega) (by omega)]
      · rw [z_ig (by omega) (by omega), z_at (by omega) (by omega), if_neg (m4 (by omega)), if_pos rfl]) (fu := 100000) (by omega)
    have h : F_X6_scanNumber_10 100000 (upd (upd ot.1 6 (z_vc (ot.2 0) n (n - n))) 5 (nI n), ot.2) = _ := h
    rw [Nat.sub_self, z_vc, z_uid2 h6, z_uid2 h5, e2] at h
    exact h
  · have hbb : ∀ j : Nat, j ≤ m - n → z_vm (om.2 8) n j = z_vm (ot.2 0) n j := by
      intro j
      induction j with
      | zero => intro _; rfl
      | succ j ih => intro hj; rw [z_vm, z_vm, ih (by omega), hb (n + j) (by omega)]
    have h := z_run (L := fun fu k => F_X9_readsNumber_5 fu (upd (upd om.1 14 (z_vm (om.2 8) n (k - n))) 11 (nI k), om.2)) (r := some (upd (upd om.1 14 (z_vm (om.2 8) n (m - n))) 11 (nI m), om.2)) m1 (by
      intro fu k k1 k2
      show F_X9_readsNumber_5 (fu + 1) (upd (upd om.1 14 (z_vm (om.2 8) n (k - n))) 11 (nI k), om.2) = F_X9_readsNumber_5 fu (upd (upd om.1 14 (z_vm (om.2 8) n (k + 1 - n))) 11 (nI (k + 1)), om.2)
      have hy := M_by (om := (upd (upd om.1 14 (z_vm (om.2 8) n (k - n))) 11 (nI k), om.2)) (E := E) (k := k) (by dsimp only; rw [z_un (by omega), z_un (by omega)]; exact h10) hE (by omega)
      have hq := Decidable.not_not.mp (m3 k k1 k2)
      rw [hb k (by omega)] at hq
      have hs : z_vm (om.2 8) n (k + 1 - n) = if z_vm (om.2 8) n (k - n) ≤ 9999999 then (10 * z_vm (om.2 8) n (k - n) + om.2 8 k) - 48 else z_vm (om.2 8) n (k - n) := by
        rw [show k + 1 - n = (k - n) + 1 by omega, z_vm, show n + (k - n) = k by omega]
      have hf : ∀ w x : Int32, upd (upd (upd (upd om.1 14 (z_vm (om.2 8) n (k - n))) 11 (nI k)) 14 w) 11 x = upd (upd om.1 14 w) 11 x := by
        intro w x
        funext j
        by_cases q5 : j = 11
        · subst q5; rw [z_us, z_us]
        · by_cases q6 : j = 14
          · subst q6; rw [z_un (by omega), z_us, z_un (by omega), z_us]
          · rw [z_un q5, z_un q6, z_un q5, z_un q6, z_un q5, z_un q6]
      rw [hs]
      simp only [F_X9_readsNumber_5, z_leN, z_us, hy, z_bsN, z_un (show (11 : Nat) ≠ 14 by omega), z_un (show (14 : Nat) ≠ 11 by omega), M_dgt]
      rw [if_pos hq, if_neg (by decide), z_ald (by omega) (by omega), z_bsN, nI_1, hf, hf]
      by_cases r : z_vm (om.2 8) n (k - n) ≤ 9999999
      · rw [if_pos r, if_pos r]
      · rw [if_neg r, if_neg r]) (by
      intro fu
      show F_X9_readsNumber_5 (fu + 1) (upd (upd om.1 14 (z_vm (om.2 8) n (m - n))) 11 (nI m), om.2) = _
      by_cases q : m = E
      · have hy := M_byE (om := (upd (upd om.1 14 (z_vm (om.2 8) n (m - n))) 11 (nI m), om.2)) (E := E) (by dsimp only; rw [z_un (by omega), z_un (by omega)]; exact h10)
        subst q
        simp only [F_X9_readsNumber_5, z_us, hy, z_bsN, M_dgt]
        rw [if_pos (by decide)]
      · have hy := M_by (om := (upd (upd om.1 14 (z_vm (om.2 8) n (m - n))) 11 (nI m), om.2)) (E := E) (k := m) (by dsimp only; rw [z_un (by omega), z_un (by omega)]; exact h10) hE (by omega)
        have hq := m4 (by omega)
        rw [hb m (by omega)] at hq
        simp only [F_X9_readsNumber_5, z_us, hy, z_bsN, M_dgt]
        rw [if_neg hq, if_pos rfl]) (fu := 100000) (by omega)
    have h : F_X9_readsNumber_5 100000 (upd (upd om.1 14 (z_vm (om.2 8) n (n - n))) 11 (nI n), om.2) = _ := h
    rw [Nat.sub_self, z_vm, z_uid2 h14, z_uid2 h11, hbb (m - n) (Nat.le_refl _), e1] at h
    exact h
end TOK
