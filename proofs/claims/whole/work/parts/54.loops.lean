/-! Loops of the class and of the model in closed form. -/
theorem z_uu {f : Nat → Int32} {i : Nat} {a b : Int32} : upd (upd f i a) i b = upd f i b := by
  funext j
  by_cases h : j = i
  · subst h; rw [z_us, z_us]
  · rw [z_un h, z_un h, z_un h]
def z_su (s : Int32) (f : Nat → Int32) : Nat → Int32
  | 0 => s
  | k + 1 => z_su s f k + f k
theorem z_su_congr {s : Int32} {f g : Nat → Int32} {n : Nat} (h : ∀ k : Nat, k < n → f k = g k) : z_su s f n = z_su s g n := by
  induction n with
  | zero => rfl
  | succ n ih => rw [z_su, z_su, ih (fun k hk => h k (by omega)), h n (by omega)]
theorem z_for1 {σ τ : Type} (N : Nat) (L : Nat → Nat → σ → Option τ) (S : Nat → σ) {r : Option τ} (hs : ∀ fu k, 1 ≤ k → k < N → L (fu + 1) k (S k) = L fu (k + 1) (S (k + 1))) (he : ∀ fu, L (fu + 1) N (S N) = r) (fu : Nat) (hf : N < fu) (hk : 1 ≤ N) : L fu 1 (S 1) = r := by
  have key : ∀ d k fu : Nat, 1 ≤ k → k + d = N → d < fu → L fu k (S k) = r := by
    intro d
    induction d with
    | zero =>
      intro k fu h0 h1 h2
      obtain rfl : k = N := by omega
      cases fu with
      | zero => omega
      | succ fu => exact he fu
    | succ d ih =>
      intro k fu h0 h1 h2
      cases fu with
      | zero => omega
      | succ fu => rw [hs fu k h0 (by omega)]; exact ih (k + 1) fu (by omega) (by omega) (by omega)
  exact key (N - 1) 1 fu (Nat.le_refl _) (by omega) (by omega)
theorem M_tru {x : Int32} : F_X9_truth x = some (if x = 0 then 0 else 1) := by
  unfold F_X9_truth
  rw [z_ss]
section LOOPS
variable {P B J : Nat} {os op ow oe oB om : ob} {g : Nat → Int32} {qw qe : List Nat}
theorem C_kings (h : RPos P B J os op ow oe g qw qe) : F_X5_kingsInAll os = some (z_su 0 (fun k => g (12 + 8 * k)) P) := by
  have hP := h.hP
  have hB := h.hB
  have h9 := z_for (P) (fun fu k (s : Int32) => F_X5_kingsInAll_4 os fu s (nI k)) (fun k => z_su 0 (fun k => g (12 + 8 * k)) k) (r := some (z_su 0 (fun k => g (12 + 8 * k)) P, nI P)) (by
    intro fu k hk
    show F_X5_kingsInAll_4 os (fu + 1) ((fun k => z_su 0 (fun k => g (12 + 8 * k)) k) k) (nI k) = F_X5_kingsInAll_4 os fu ((fun k => z_su 0 (fun k => g (12 + 8 * k)) k) (k + 1)) (nI (k + 1))
    simp only [F_X5_kingsInAll_4, h.s4]
    rw [z_ig hk (by omega)]
    rw [z_at (by omega) (by omega), h.kg hk, z_le, nI_1]
    rfl) (by
    intro fu
    show F_X5_kingsInAll_4 os (fu + 1) ((fun k => z_su 0 (fun k => g (12 + 8 * k)) k) (P)) (nI (P)) = _
    simp only [F_X5_kingsInAll_4, h.s4]
    rw [z_il (Nat.le_refl _) (by omega)]) 100000 (by omega) 0 (by omega)
  show (F_X5_kingsInAll_4 os 100000 0 (nI 0)).bind _ = _
  have h9 : F_X5_kingsInAll_4 os 100000 0 (nI 0) = _ := h9
  rw [h9]
  rfl
theorem C_coinsS (h : RPos P B J os op ow oe g qw qe) : F_X5_coinsInAll os = some (z_su 0 (os.2 8) P) := by
  have hP := h.hP
  have hB := h.hB
  have h9 := z_for (P) (fun fu k (s : Int32) => F_X5_coinsInAll_4 os fu s (nI k)) (fun k => z_su 0 (os.2 8) k) (r := some (z_su 0 (os.2 8) P, nI P)) (by
    intro fu k hk
    show F_X5_coinsInAll_4 os (fu + 1) ((fun k => z_su 0 (os.2 8) k) k) (nI k) = F_X5_coinsInAll_4 os fu ((fun k => z_su 0 (os.2 8) k) (k + 1)) (nI (k + 1))
    simp only [F_X5_coinsInAll_4, h.s4]
    rw [z_ig hk (by omega)]
    rw [z_at (by omega) (by omega), z_le, nI_1]
    rfl) (by
    intro fu
    show F_X5_coinsInAll_4 os (fu + 1) ((fun k => z_su 0 (os.2 8) k) (P)) (nI (P)) = _
    simp only [F_X5_coinsInAll_4, h.s4]
    rw [z_il (Nat.le_refl _) (by omega)]) 100000 (by omega) 0 (by omega)
  show (F_X5_coinsInAll_4 os 100000 0 (nI 0)).bind _ = _
  have h9 : F_X5_coinsInAll_4 os 100000 0 (nI 0) = _ := h9
  rw [h9]
  rfl
theorem C_count (h : RPos P B J os op ow oe g qw qe) : F_X2_countedInAll op os = some (z_su 0 (fun k => if g (12 + 8 * k) = 1 then g (102 + 3 * k + 2) else 0) P) := by
  have hP := h.hP
  have hB := h.hB
  have h9 := z_for (P) (fun fu k (s : Int32) => F_X2_countedInAll_4 op os fu s (nI k)) (fun k => z_su 0 (fun k => if g (12 + 8 * k) = 1 then g (102 + 3 * k + 2) else 0) k) (r := some (z_su 0 (fun k => if g (12 + 8 * k) = 1 then g (102 + 3 * k + 2) else 0) P, nI P)) (by
    intro fu k hk
    show F_X2_countedInAll_4 op os (fu + 1) ((fun k => z_su 0 (fun k => if g (12 + 8 * k) = 1 then g (102 + 3 * k + 2) else 0) k) k) (nI k) = F_X2_countedInAll_4 op os fu ((fun k => z_su 0 (fun k => if g (12 + 8 * k) = 1 then g (102 + 3 * k + 2) else 0) k) (k + 1)) (nI (k + 1))
    simp only [F_X2_countedInAll_4, h.s4]
    rw [z_ig hk (by omega)]
    have hk9 : op.2 12 k = if g (12 + 8 * k) = 1 then g (102 + 3 * k + 2) else 0 := by
      rcases h.k01 hk with e | e
      · rw [((h.2.2.2.1 k hk).2 e).2, if_neg (by rw [e]; decide)]
      · rw [((h.2.2.2.1 k hk).1 e).2.1, if_pos e]
    rw [z_at (by omega) (by omega), hk9, z_le, nI_1]
    rfl) (by
    intro fu
    show F_X2_countedInAll_4 op os (fu + 1) ((fun k => z_su 0 (fun k => if g (12 + 8 * k) = 1 then g (102 + 3 * k + 2) else 0) k) (P)) (nI (P)) = _
    simp only [F_X2_countedInAll_4, h.s4]
    rw [z_il (Nat.le_refl _) (by omega)]) 100000 (by omega) 0 (by omega)
  show (F_X2_countedInAll_4 op os 100000 0 (nI 0)).bind _ = _
  have h9 : F_X2_countedInAll_4 op os 100000 0 (nI 0) = _ := h9
  rw [h9]
  rfl
theorem C_sumA (h : RPos P B J os op ow oe g qw qe) : F_X2_sumOfAngles op os = some (z_su 0 (fun k => z_kb g k (z_rk g k)) P) := by
  have hP := h.hP
  have hB := h.hB
  have h9 := z_for (P) (fun fu k (s : Int32) => F_X2_sumOfAngles_4 op os fu s (nI k)) (fun k => z_su 0 (fun k => z_kb g k (z_rk g k)) k) (r := some (z_su 0 (fun k => z_kb g k (z_rk g k)) P, nI P)) (by
    intro fu k hk
    show F_X2_sumOfAngles_4 op os (fu + 1) ((fun k => z_su 0 (fun k => z_kb g k (z_rk g k)) k) k) (nI k) = F_X2_sumOfAngles_4 op os fu ((fun k => z_su 0 (fun k => z_kb g k (z_rk g k)) k) (k + 1)) (nI (k + 1))
    simp only [F_X2_sumOfAngles_4, h.s4]
    rw [z_ig hk (by omega)]
    rw [C_ka h hk, Option.bind_some, z_le, nI_1]
    rfl) (by
    intro fu
    show F_X2_sumOfAngles_4 op os (fu + 1) ((fun k => z_su 0 (fun k => z_kb g k (z_rk g k)) k) (P)) (nI (P)) = _
    simp only [F_X2_sumOfAngles_4, h.s4]
    rw [z_il (Nat.le_refl _) (by omega)]) 100000 (by omega) 0 (by omega)
  show (F_X2_sumOfAngles_4 op os 100000 0 (nI 0)).bind _ = _
  have h9 : F_X2_sumOfAngles_4 op os 100000 0 (nI 0) = _ := h9
  rw [h9]
  rfl
theorem C_coins (h : RPos P B J os op ow oe g qw qe) : F_X2_coinsInAll op os = some (z_su (g 5 + g 6 + g 7) (fun k => g (12 + 8 * k + 2)) P) := by
  have hP := h.hP
  have h9 := z_for (P) (fun fu k (s : Int32) => F_X2_coinsInAll_25 op os fu s (nI k)) (fun k => z_su (g 5 + g 6 + g 7) (fun k => g (12 + 8 * k + 2)) k) (r := some (z_su (g 5 + g 6 + g 7) (fun k => g (12 + 8 * k + 2)) P, nI P)) (by
    intro fu k hk
    show F_X2_coinsInAll_25 op os (fu + 1) ((fun k => z_su (g 5 + g 6 + g 7) (fun k => g (12 + 8 * k + 2)) k) k) (nI k) = F_X2_coinsInAll_25 op os fu ((fun k => z_su (g 5 + g 6 + g 7) (fun k => g (12 + 8 * k + 2)) k) (k + 1)) (nI (k + 1))
    simp only [F_X2_coinsInAll_25, h.s4]
    rw [z_ig hk (by omega), z_at (by omega) (by omega), h.pu hk, z_le, nI_1]
    rfl) (by
    intro fu
    show F_X2_coinsInAll_25 op os (fu + 1) ((fun k => z_su (g 5 + g 6 + g 7) (fun k => g (12 + 8 * k + 2)) k) (P)) (nI (P)) = _
    simp only [F_X2_coinsInAll_25, h.s4]
    rw [z_il (Nat.le_refl _) (by omega)]) 100000 (by omega) 0 (by omega)
  simp only [F_X2_coinsInAll, z_le]
  rw [show rx_at 2 (op.2 4) 0 = g 6 from (z_at (n := 2) (i := 0) (by omega) (by omega)).trans h.2.2.1.1.2.2.2.1, show rx_at 2 (op.2 4) 1 = g 7 from (z_at (n := 2) (i := 1) (by omega) (by omega)).trans h.2.2.1.1.2.2.2.2, h.2.2.1.1.2.2.1]
  have h9 : F_X2_coinsInAll_25 op os 100000 (g 5 + g 6 + g 7) 0 = _ := h9
  rw [h9]
  rfl
def z_opn (g : Nat → Int32) (b : Nat) : Prop := g 0 - g 0 / g (132 + 3 * b) * g (132 + 3 * b) = g (132 + 3 * b + 1)
def z_opw (g : Nat → Int32) (b : Nat) : Int32 := if g 0 - g 0 / g (132 + 3 * b) * g (132 + 3 * b) = g (132 + 3 * b + 1) then g (132 + 3 * b + 2) else 0
theorem C_room (h : RPos P B J os op ow oe g qw qe) : F_X5_roomIn os (g 0) = some (z_su 0 (z_opw g) B) := by
  have hB := h.hB
  have h9 := z_for (B) (fun fu k (s : Int32) => F_X5_roomIn_4 os (g 0) fu s (nI k)) (fun k => z_su 0 (z_opw g) k) (r := some (z_su 0 (z_opw g) B, nI B)) (by
    intro fu k hk
    show F_X5_roomIn_4 os (g 0) (fu + 1) ((fun k => z_su 0 (z_opw g) k) k) (nI k) = F_X5_roomIn_4 os (g 0) fu ((fun k => z_su 0 (z_opw g) k) (k + 1)) (nI (k + 1))
    obtain ⟨q, t, -, -, -, -, -, e⟩ := C_op h hk
    simp only [F_X5_roomIn_4, h.s5]
    rw [z_ig hk (by omega), e, Option.bind_some, z_at (by omega) (by omega), (h.2.1.2.2.1 k hk).2.2]
    simp only [z_10, z_le, nI_1, z_su, z_opw]
    split <;> simp) (by
    intro fu
    show F_X5_roomIn_4 os (g 0) (fu + 1) ((fun k => z_su 0 (z_opw g) k) (B)) (nI (B)) = _
    simp only [F_X5_roomIn_4, h.s5]
    rw [z_il (Nat.le_refl _) (by omega)]) 100000 (by omega) 0 (by omega)
  show (F_X5_roomIn_4 os (g 0) 100000 0 (nI 0)).bind _ = _
  have h9 : F_X5_roomIn_4 os (g 0) 100000 0 (nI 0) = _ := h9
  rw [h9]
  rfl
theorem C_people (h : RPos P B J os op ow oe g qw qe) {e : Int32} : F_X2_peopleOn op os e = some (nI (z_cnt (fun k => decide (g (12 + 8 * k + 1) = e)) P)) := by
  have hP := h.hP
  have h9 := z_for (P) (fun fu k (s : Int32) => F_X2_peopleOn_4 op os e fu s (nI k)) (fun k => nI (z_cnt (fun k => decide (g (12 + 8 * k + 1) = e)) k)) (r := some (nI (z_cnt (fun k => decide (g (12 + 8 * k + 1) = e)) P), nI P)) (by
    intro fu k hk
    show F_X2_peopleOn_4 op os e (fu + 1) ((fun k => nI (z_cnt (fun k => decide (g (12 + 8 * k + 1) = e)) k)) k) (nI k) = F_X2_peopleOn_4 op os e fu ((fun k => nI (z_cnt (fun k => decide (g (12 + 8 * k + 1) = e)) k)) (k + 1)) (nI (k + 1))
    simp only [F_X2_peopleOn_4, h.s4]
    rw [z_ig hk (by omega)]
    rw [z_at (by omega) (by omega), h.bk hk]
    simp only [nI_1, z_cnt]
    by_cases q : g (12 + 8 * k + 1) = e <;> simp [q, nI_1]) (by
    intro fu
    show F_X2_peopleOn_4 op os e (fu + 1) ((fun k => nI (z_cnt (fun k => decide (g (12 + 8 * k + 1) = e)) k)) (P)) (nI (P)) = _
    simp only [F_X2_peopleOn_4, h.s4]
    rw [z_il (Nat.le_refl _) (by omega)]) 100000 (by omega) 0 (by omega)
  show (F_X2_peopleOn_4 op os e 100000 0 (nI 0)).bind _ = _
  have h9 : F_X2_peopleOn_4 op os e 100000 0 (nI 0) = _ := h9
  rw [h9]
  rfl
theorem C_royals (h : RPos P B J os op ow oe g qw qe) {p : Nat} (hp : p < P) : F_X2_royalCoinsOf op os (nI p) = some (nI (z_cnt (fun k => decide (g (12 + 8 * k) = 1) && decide (g (102 + 3 * k) = nI p)) P)) := by
  have hP := h.hP
  have h9 := z_for (P) (fun fu k (s : Int32) => F_X2_royalCoinsOf_4 op os (nI p) fu s (nI k)) (fun k => nI (z_cnt (fun k => decide (g (12 + 8 * k) = 1) && decide (g (102 + 3 * k) = nI p)) k)) (r := some (nI (z_cnt (fun k => decide (g (12 + 8 * k) = 1) && decide (g (102 + 3 * k) = nI p)) P), nI P)) (by
    intro fu k hk
    show F_X2_royalCoinsOf_4 op os (nI p) (fu + 1) ((fun k => nI (z_cnt (fun k => decide (g (12 + 8 * k) = 1) && decide (g (102 + 3 * k) = nI p)) k)) k) (nI k) = F_X2_royalCoinsOf_4 op os (nI p) fu ((fun k => nI (z_cnt (fun k => decide (g (12 + 8 * k) = 1) && decide (g (102 + 3 * k) = nI p)) k)) (k + 1)) (nI (k + 1))
    simp only [F_X2_royalCoinsOf_4, h.s4]
    rw [z_ig hk (by omega)]
    rw [z_at (by omega) (by omega)]
    simp only [nI_1, z_cnt]
    rcases h.k01 hk with e | e
    · rw [((h.2.2.2.1 k hk).2 e).1]
      have q : ¬ (-1 : Int32) = nI p := fun q => by
        have q2 := congrArg Int32.toInt q
        rw [nI_toInt (by omega)] at q2
        have : (-1 : Int32).toInt = -1 := rfl
        omega
      simp [e, q]
    · rw [((h.2.2.2.1 k hk).1 e).1]
      by_cases q : g (102 + 3 * k) = nI p <;> simp [e, q, nI_1]) (by
    intro fu
    show F_X2_royalCoinsOf_4 op os (nI p) (fu + 1) ((fun k => nI (z_cnt (fun k => decide (g (12 + 8 * k) = 1) && decide (g (102 + 3 * k) = nI p)) k)) (P)) (nI (P)) = _
    simp only [F_X2_royalCoinsOf_4, h.s4]
    rw [z_il (Nat.le_refl _) (by omega)]) 100000 (by omega) 0 (by omega)
  show (F_X2_royalCoinsOf_4 op os (nI p) 100000 0 (nI 0)).bind _ = _
  have h9 : F_X2_royalCoinsOf_4 op os (nI p) 100000 0 (nI 0) = _ := h9
  rw [h9]
  rfl
theorem C_misj (h : RPos P B J os op ow oe g qw qe) : F_X2_misjudgedPeople op os = some (nI (z_cnt (fun k => decide (z_kb g k (z_rk g k) < g 1) != decide (g (12 + 8 * k) = 1)) P)) := by
  have hP := h.hP
  have h9 := z_for (P) (fun fu k (s : Int32) => F_X2_misjudgedPeople_4 op os fu s (nI k)) (fun k => nI (z_cnt (fun k => decide (z_kb g k (z_rk g k) < g 1) != decide (g (12 + 8 * k) = 1)) k)) (r := some (nI (z_cnt (fun k => decide (z_kb g k (z_rk g k) < g 1) != decide (g (12 + 8 * k) = 1)) P), nI P)) (by
    intro fu k hk
    show F_X2_misjudgedPeople_4 op os (fu + 1) ((fun k => nI (z_cnt (fun k => decide (z_kb g k (z_rk g k) < g 1) != decide (g (12 + 8 * k) = 1)) k)) k) (nI k) = F_X2_misjudgedPeople_4 op os fu ((fun k => nI (z_cnt (fun k => decide (z_kb g k (z_rk g k) < g 1) != decide (g (12 + 8 * k) = 1)) k)) (k + 1)) (nI (k + 1))
    simp only [F_X2_misjudgedPeople_4, h.s4]
    rw [z_ig hk (by omega)]
    rw [C_lk h hk, Option.bind_some, C_hk h hk, Option.bind_some]
    simp only [nI_1, z_cnt]
    by_cases q : z_kb g k (z_rk g k) < g 1 <;> by_cases r : g (12 + 8 * k) = 1 <;> simp [q, r, nI_1]) (by
    intro fu
    show F_X2_misjudgedPeople_4 op os (fu + 1) ((fun k => nI (z_cnt (fun k => decide (z_kb g k (z_rk g k) < g 1) != decide (g (12 + 8 * k) = 1)) k)) (P)) (nI (P)) = _
    simp only [F_X2_misjudgedPeople_4, h.s4]
    rw [z_il (Nat.le_refl _) (by omega)]) 100000 (by omega) 0 (by omega)
  show (F_X2_misjudgedPeople_4 op os 100000 0 (nI 0)).bind _ = _
  have h9 : F_X2_misjudgedPeople_4 op os 100000 0 (nI 0) = _ := h9
  rw [h9]
  rfl
theorem C_rich (h : RPos P B J os op ow oe g qw qe) : F_X2_richestPerson op os = some (nI (z_arg (fun k b => decide (g (12 + 8 * b + 2) < g (12 + 8 * k + 2))) (P - 1))) := by
  have hP := h.hP
  have h9 := z_for1 (P) (fun fu k (s : Int32) => F_X2_richestPerson_4 op os fu s (nI k)) (fun k => nI (z_arg (fun k b => decide (g (12 + 8 * b + 2) < g (12 + 8 * k + 2))) (k - 1))) (r := some (nI (z_arg (fun k b => decide (g (12 + 8 * b + 2) < g (12 + 8 * k + 2))) (P - 1)), nI P)) (by
    intro fu k hk0 hk
    show F_X2_richestPerson_4 op os (fu + 1) ((fun k => nI (z_arg (fun k b => decide (g (12 + 8 * b + 2) < g (12 + 8 * k + 2))) (k - 1))) k) (nI k) = F_X2_richestPerson_4 op os fu ((fun k => nI (z_arg (fun k b => decide (g (12 + 8 * b + 2) < g (12 + 8 * k + 2))) (k - 1))) (k + 1)) (nI (k + 1))
    obtain ⟨j, rfl⟩ : ∃ j, k = j + 1 := ⟨k - 1, by omega⟩
    have hb : z_arg (fun k b => decide (g (12 + 8 * b + 2) < g (12 + 8 * k + 2))) j ≤ j := z_arg_le
    simp only [Nat.add_sub_cancel]
    rw [z_arg]
    generalize z_arg (fun k b => decide (g (12 + 8 * b + 2) < g (12 + 8 * k + 2))) j = b at hb ⊢
    simp only [F_X2_richestPerson_4, h.s4]
    rw [z_ig hk (by omega)]
    rw [z_at (by omega) (by omega), z_at (by omega) (by omega), h.pu hk, h.pu (show b < P by omega)]
    by_cases q : g (12 + 8 * b + 2) < g (12 + 8 * (j + 1) + 2)
    · rw [if_neg (Int32.not_le.mpr q), if_pos (by simpa using q), nI_1]
    · rw [if_pos (Int32.not_lt.mp q), if_neg (by simpa using q), nI_1]) (by
    intro fu
    show F_X2_richestPerson_4 op os (fu + 1) ((fun k => nI (z_arg (fun k b => decide (g (12 + 8 * b + 2) < g (12 + 8 * k + 2))) (k - 1))) (P)) (nI (P)) = _
    simp only [F_X2_richestPerson_4, h.s4]
    rw [z_il (Nat.le_refl _) (by omega)]) 100000 (by omega) (by omega)
  show (F_X2_richestPerson_4 op os 100000 0 (nI 1)).bind _ = _
  have h9 : F_X2_richestPerson_4 op os 100000 0 (nI 1) = _ := h9
  rw [h9]
  rfl
theorem C_stiff (h : RPos P B J os op ow oe g qw qe) : F_X2_stiffestPerson op os = some (nI (z_arg (fun k b => decide (z_kb g k (z_rk g k) < z_kb g b (z_rk g b))) (P - 1))) := by
  have hP := h.hP
  have h9 := z_for1 (P) (fun fu k (s : Int32) => F_X2_stiffestPerson_4 op os fu s (nI k)) (fun k => nI (z_arg (fun k b => decide (z_kb g k (z_rk g k) < z_kb g b (z_rk g b))) (k - 1))) (r := some (nI (z_arg (fun k b => decide (z_kb g k (z_rk g k) < z_kb g b (z_rk g b))) (P - 1)), nI P)) (by
    intro fu k hk0 hk
    show F_X2_stiffestPerson_4 op os (fu + 1) ((fun k => nI (z_arg (fun k b => decide (z_kb g k (z_rk g k) < z_kb g b (z_rk g b))) (k - 1))) k) (nI k) = F_X2_stiffestPerson_4 op os fu ((fun k => nI (z_arg (fun k b => decide (z_kb g k (z_rk g k) < z_kb g b (z_rk g b))) (k - 1))) (k + 1)) (nI (k + 1))
    obtain ⟨j, rfl⟩ : ∃ j, k = j + 1 := ⟨k - 1, by omega⟩
    have hb : z_arg (fun k b => decide (z_kb g k (z_rk g k) < z_kb g b (z_rk g b))) j ≤ j := z_arg_le
    simp only [Nat.add_sub_cancel]
    rw [z_arg]
    generalize z_arg (fun k b => decide (z_kb g k (z_rk g k) < z_kb g b (z_rk g b))) j = b at hb ⊢
    simp only [F_X2_stiffestPerson_4, h.s4]
    rw [z_ig hk (by omega)]
    rw [C_ka h hk, Option.bind_some, C_ka h (show b < P by omega), Option.bind_some]
    by_cases q : z_kb g (j + 1) (z_rk g (j + 1)) < z_kb g b (z_rk g b)
    · rw [if_neg (Int32.not_le.mpr q), if_pos (by simpa using q), nI_1]
    · rw [if_pos (Int32.not_lt.mp q), if_neg (by simpa using q), nI_1]) (by
    intro fu
    show F_X2_stiffestPerson_4 op os (fu + 1) ((fun k => nI (z_arg (fun k b => decide (z_kb g k (z_rk g k) < z_kb g b (z_rk g b))) (k - 1))) (P)) (nI (P)) = _
    simp only [F_X2_stiffestPerson_4, h.s4]
    rw [z_il (Nat.le_refl _) (by omega)]) 100000 (by omega) (by omega)
  show (F_X2_stiffestPerson_4 op os 100000 0 (nI 1)).bind _ = _
  have h9 : F_X2_stiffestPerson_4 op os 100000 0 (nI 1) = _ := h9
  rw [h9]
  rfl
theorem C_cheap (h : RPos P B J os op ow oe g qw qe) {p : Nat} (hp : p < P) : F_X2_cheapestSet op os (nI p) = some (nI (z_arg (fun k b => decide (z_tl g p (g (92 + k)) < z_tl g p (g (92 + b)))) (P - 1))) := by
  have hP := h.hP
  have h9 := z_for1 (P) (fun fu k (s : Int32) => F_X2_cheapestSet_4 op os (nI p) fu s (nI k)) (fun k => nI (z_arg (fun k b => decide (z_tl g p (g (92 + k)) < z_tl g p (g (92 + b)))) (k - 1))) (r := some (nI (z_arg (fun k b => decide (z_tl g p (g (92 + k)) < z_tl g p (g (92 + b)))) (P - 1)), nI P)) (by
    intro fu k hk0 hk
    show F_X2_cheapestSet_4 op os (nI p) (fu + 1) ((fun k => nI (z_arg (fun k b => decide (z_tl g p (g (92 + k)) < z_tl g p (g (92 + b)))) (k - 1))) k) (nI k) = F_X2_cheapestSet_4 op os (nI p) fu ((fun k => nI (z_arg (fun k b => decide (z_tl g p (g (92 + k)) < z_tl g p (g (92 + b)))) (k - 1))) (k + 1)) (nI (k + 1))
    obtain ⟨j, rfl⟩ : ∃ j, k = j + 1 := ⟨k - 1, by omega⟩
    have hb : z_arg (fun k b => decide (z_tl g p (g (92 + k)) < z_tl g p (g (92 + b)))) j ≤ j := z_arg_le
    simp only [Nat.add_sub_cancel]
    rw [z_arg]
    generalize z_arg (fun k b => decide (z_tl g p (g (92 + k)) < z_tl g p (g (92 + b)))) j = b at hb ⊢
    simp only [F_X2_cheapestSet_4, h.s4]
    rw [z_ig hk (by omega)]
    rw [C_tl h hp hk, Option.bind_some, C_tl h hp (show b < P by omega), Option.bind_some]
    by_cases q : z_tl g p (g (92 + (j + 1))) < z_tl g p (g (92 + b))
    · rw [if_neg (Int32.not_le.mpr q), if_pos (by simpa using q), nI_1]
    · rw [if_pos (Int32.not_lt.mp q), if_neg (by simpa using q), nI_1]) (by
    intro fu
    show F_X2_cheapestSet_4 op os (nI p) (fu + 1) ((fun k => nI (z_arg (fun k b => decide (z_tl g p (g (92 + k)) < z_tl g p (g (92 + b)))) (k - 1))) (P)) (nI (P)) = _
    simp only [F_X2_cheapestSet_4, h.s4]
    rw [z_il (Nat.le_refl _) (by omega)]) 100000 (by omega) (by omega)
  show (F_X2_cheapestSet_4 op os (nI p) 100000 0 (nI 1)).bind _ = _
  have h9 : F_X2_cheapestSet_4 op os (nI p) 100000 0 (nI 1) = _ := h9
  rw [h9]
  rfl
theorem M_kings (hP : 3 ≤ P ∧ P ≤ 10) (hB : 1 ≤ B ∧ B ≤ 4) (h8 : om.2 1 8 = nI P) (h9b : om.2 1 9 = nI B) : F_X9_kings om = some (z_su 0 (fun k => om.2 1 (12 + 8 * k)) P) := by

  have h9 := z_for (P) (fun fu k (s : Int32) => F_X9_kings_4 om fu s (nI k)) (fun k => z_su 0 (fun k => om.2 1 (12 + 8 * k)) k) (r := some (z_su 0 (fun k => om.2 1 (12 + 8 * k)) P, nI P)) (by
    intro fu k hk
    show F_X9_kings_4 om (fu + 1) ((fun k => z_su 0 (fun k => om.2 1 (12 + 8 * k)) k) k) (nI k) = F_X9_kings_4 om fu ((fun k => z_su 0 (fun k => om.2 1 (12 + 8 * k)) k) (k + 1)) (nI (k + 1))
    simp only [F_X9_kings_4, z_al8, z_al9, Option.bind_some, h8]
    rw [z_ig hk (by omega)]
    simp only [M_of0 (show k < 10 by omega), Option.bind_some, z_le, nI_1, z_su]) (by
    intro fu
    show F_X9_kings_4 om (fu + 1) ((fun k => z_su 0 (fun k => om.2 1 (12 + 8 * k)) k) (P)) (nI (P)) = _
    simp only [F_X9_kings_4, z_al8, z_al9, Option.bind_some, h8]
    rw [z_il (Nat.le_refl _) (by omega)]) 100000 (by omega) 0 (by omega)
  show (F_X9_kings_4 om 100000 0 (nI 0)).bind _ = _
  have h9 : F_X9_kings_4 om 100000 0 (nI 0) = _ := h9
  rw [h9]
  rfl
theorem M_count (hP : 3 ≤ P ∧ P ≤ 10) (hB : 1 ≤ B ∧ B ≤ 4) (h8 : om.2 1 8 = nI P) (h9b : om.2 1 9 = nI B) : F_X9_counted om = some (z_su 0 (fun k => if om.2 1 (12 + 8 * k) = 1 then om.2 1 (102 + 3 * k + 2) else 0) P) := by

  have h9 := z_for (P) (fun fu k (s : Int32) => F_X9_counted_4 om fu s (nI k)) (fun k => z_su 0 (fun k => if om.2 1 (12 + 8 * k) = 1 then om.2 1 (102 + 3 * k + 2) else 0) k) (r := some (z_su 0 (fun k => if om.2 1 (12 + 8 * k) = 1 then om.2 1 (102 + 3 * k + 2) else 0) P, nI P)) (by
    intro fu k hk
    show F_X9_counted_4 om (fu + 1) ((fun k => z_su 0 (fun k => if om.2 1 (12 + 8 * k) = 1 then om.2 1 (102 + 3 * k + 2) else 0) k) k) (nI k) = F_X9_counted_4 om fu ((fun k => z_su 0 (fun k => if om.2 1 (12 + 8 * k) = 1 then om.2 1 (102 + 3 * k + 2) else 0) k) (k + 1)) (nI (k + 1))
    simp only [F_X9_counted_4, z_al8, z_al9, Option.bind_some, h8]
    rw [z_ig hk (by omega)]
    simp only [M_king (show k < 10 by omega), M_ofR2 (show k < 10 by omega), Option.bind_some, z_le, nI_1, z_su, z_10]
    split <;> rfl) (by
    intro fu
    show F_X9_counted_4 om (fu + 1) ((fun k => z_su 0 (fun k => if om.2 1 (12 + 8 * k) = 1 then om.2 1 (102 + 3 * k + 2) else 0) k) (P)) (nI (P)) = _
    simp only [F_X9_counted_4, z_al8, z_al9, Option.bind_some, h8]
    rw [z_il (Nat.le_refl _) (by omega)]) 100000 (by omega) 0 (by omega)
  show (F_X9_counted_4 om 100000 0 (nI 0)).bind _ = _
  have h9 : F_X9_counted_4 om 100000 0 (nI 0) = _ := h9
  rw [h9]
  rfl
theorem M_room (hP : 3 ≤ P ∧ P ≤ 10) (hB : 1 ≤ B ∧ B ≤ 4) (h8 : om.2 1 8 = nI P) (h9b : om.2 1 9 = nI B) (hbr : ∀ b : Nat, b < B → ∃ q : Nat, 1 ≤ q ∧ q ≤ 9 ∧ om.2 1 (132 + 3 * b) = nI q) : F_X9_roomNow om = some (z_su 0 (z_opw (om.2 1)) B) := by

  have h9 := z_for (B) (fun fu k (s : Int32) => F_X9_roomNow_4 om fu s (nI k)) (fun k => z_su 0 (z_opw (om.2 1)) k) (r := some (z_su 0 (z_opw (om.2 1)) B, nI B)) (by
    intro fu k hk
    show F_X9_roomNow_4 om (fu + 1) ((fun k => z_su 0 (z_opw (om.2 1)) k) k) (nI k) = F_X9_roomNow_4 om fu ((fun k => z_su 0 (z_opw (om.2 1)) k) (k + 1)) (nI (k + 1))
    obtain ⟨q, q1, q9, eq⟩ := hbr k hk
    have e := M_op (om := om) (B := B) hB.2 hk q1 q9 eq
    simp only [F_X9_roomNow_4, z_al8, z_al9, Option.bind_some, h9b]
    rw [z_ig hk (by omega)]
    simp only [e, M_ofB2 (show k < 4 by omega), Option.bind_some, z_le, nI_1, z_su, z_10, z_opw]
    split <;> rfl) (by
    intro fu
    show F_X9_roomNow_4 om (fu + 1) ((fun k => z_su 0 (z_opw (om.2 1)) k) (B)) (nI (B)) = _
    simp only [F_X9_roomNow_4, z_al8, z_al9, Option.bind_some, h9b]
    rw [z_il (Nat.le_refl _) (by omega)]) 100000 (by omega) 0 (by omega)
  show (F_X9_roomNow_4 om 100000 0 (nI 0)).bind _ = _
  have h9 : F_X9_roomNow_4 om 100000 0 (nI 0) = _ := h9
  rw [h9]
  rfl
theorem M_royals (hP : 3 ≤ P ∧ P ≤ 10) (hB : 1 ≤ B ∧ B ≤ 4) (h8 : om.2 1 8 = nI P) (h9b : om.2 1 9 = nI B) {p : Nat} : F_X9_royalsOf om (nI p) = some (nI (z_cnt (fun k => decide (om.2 1 (12 + 8 * k) = 1) && decide (om.2 1 (102 + 3 * k) = nI p)) P)) := by

  have h9 := z_for (P) (fun fu k (s : Int32) => F_X9_royalsOf_4 om (nI p) fu s (nI k)) (fun k => nI (z_cnt (fun k => decide (om.2 1 (12 + 8 * k) = 1) && decide (om.2 1 (102 + 3 * k) = nI p)) k)) (r := some (nI (z_cnt (fun k => decide (om.2 1 (12 + 8 * k) = 1) && decide (om.2 1 (102 + 3 * k) = nI p)) P), nI P)) (by
    intro fu k hk
    show F_X9_royalsOf_4 om (nI p) (fu + 1) ((fun k => nI (z_cnt (fun k => decide (om.2 1 (12 + 8 * k) = 1) && decide (om.2 1 (102 + 3 * k) = nI p)) k)) k) (nI k) = F_X9_royalsOf_4 om (nI p) fu ((fun k => nI (z_cnt (fun k => decide (om.2 1 (12 + 8 * k) = 1) && decide (om.2 1 (102 + 3 * k) = nI p)) k)) (k + 1)) (nI (k + 1))
    simp only [F_X9_royalsOf_4, z_al8, Option.bind_some, h8]
    rw [z_ig hk (by omega)]
    simp only [M_king (show k < 10 by omega), M_ofR0 (show k < 10 by omega), M_t0, M_t1, Option.bind_some, z_le, nI_1, z_10, z_cnt]
    by_cases q : om.2 1 (12 + 8 * k) = 1 <;> by_cases r : om.2 1 (102 + 3 * k) = nI p <;> simp [q, r, nI_1]) (by
    intro fu
    show F_X9_royalsOf_4 om (nI p) (fu + 1) ((fun k => nI (z_cnt (fun k => decide (om.2 1 (12 + 8 * k) = 1) && decide (om.2 1 (102 + 3 * k) = nI p)) k)) (P)) (nI (P)) = _
    simp only [F_X9_royalsOf_4, z_al8, z_al9, Option.bind_some, h8]
    rw [z_il (Nat.le_refl _) (by omega)]) 100000 (by omega) 0 (by omega)
  show (F_X9_royalsOf_4 om (nI p) 100000 0 (nI 0)).bind _ = _
  have h9 : F_X9_royalsOf_4 om (nI p) 100000 0 (nI 0) = _ := h9
  rw [h9]
  rfl
theorem M_bankC (hP : 3 ≤ P ∧ P ≤ 10) (hB : 1 ≤ B ∧ B ≤ 4) (h8 : om.2 1 8 = nI P) (h9b : om.2 1 9 = nI B) {x1 : Int32} : F_X9_bankCount_9 x1 100000 om 0 (nI 0) = some (nI (z_cnt (fun k => decide (om.2 1 (12 + 8 * k + 1) = if x1 = 0 then 0 else 1)) P), nI P, om) := by

  have h9 := z_for (P) (fun fu k (s : Int32) => F_X9_bankCount_9 x1 fu om s (nI k)) (fun k => nI (z_cnt (fun k => decide (om.2 1 (12 + 8 * k + 1) = if x1 = 0 then 0 else 1)) k)) (r := some (nI (z_cnt (fun k => decide (om.2 1 (12 + 8 * k + 1) = if x1 = 0 then 0 else 1)) P), nI P, om)) (by
    intro fu k hk
    show F_X9_bankCount_9 x1 (fu + 1) om ((fun k => nI (z_cnt (fun k => decide (om.2 1 (12 + 8 * k + 1) = if x1 = 0 then 0 else 1)) k)) k) (nI k) = F_X9_bankCount_9 x1 fu om ((fun k => nI (z_cnt (fun k => decide (om.2 1 (12 + 8 * k + 1) = if x1 = 0 then 0 else 1)) k)) (k + 1)) (nI (k + 1))
    simp only [F_X9_bankCount_9, z_al8, Option.bind_some, h8]
    rw [z_ig hk (by omega)]
    simp only [M_of1 (show k < 10 by omega), M_t0, M_t1, M_tru, Option.bind_some, z_le, nI_1, z_cnt]
    by_cases q : om.2 1 (12 + 8 * k + 1) = if x1 = 0 then 0 else 1 <;> simp [q, nI_1]) (by
    intro fu
    show F_X9_bankCount_9 x1 (fu + 1) om ((fun k => nI (z_cnt (fun k => decide (om.2 1 (12 + 8 * k + 1) = if x1 = 0 then 0 else 1)) k)) (P)) (nI (P)) = _
    simp only [F_X9_bankCount_9, z_al8, z_al9, Option.bind_some, h8]
    rw [z_il (Nat.le_refl _) (by omega)]) 100000 (by omega) 0 (by omega)
  exact h9
theorem M_wrong (hP : 3 ≤ P ∧ P ≤ 10) (hB : 1 ≤ B ∧ B ≤ 4) (h8 : om.2 1 8 = nI P) (h9b : om.2 1 9 = nI B) (hra : ∀ p : Nat, p < P → ∃ r : Nat, r < P ∧ om.2 1 (12 + 8 * p + 4) = nI r) : F_X9_wrongGuesses_9  100000 om 0 (nI 0) = some (nI (z_cnt (fun k => decide (z_kb (om.2 1) k (z_rk (om.2 1) k) < om.2 1 1) != decide (om.2 1 (12 + 8 * k) = 1)) P), nI P, om) := by

  have h9 := z_for (P) (fun fu k (s : Int32) => F_X9_wrongGuesses_9  fu om s (nI k)) (fun k => nI (z_cnt (fun k => decide (z_kb (om.2 1) k (z_rk (om.2 1) k) < om.2 1 1) != decide (om.2 1 (12 + 8 * k) = 1)) k)) (r := some (nI (z_cnt (fun k => decide (z_kb (om.2 1) k (z_rk (om.2 1) k) < om.2 1 1) != decide (om.2 1 (12 + 8 * k) = 1)) P), nI P, om)) (by
    intro fu k hk
    show F_X9_wrongGuesses_9  (fu + 1) om ((fun k => nI (z_cnt (fun k => decide (z_kb (om.2 1) k (z_rk (om.2 1) k) < om.2 1 1) != decide (om.2 1 (12 + 8 * k) = 1)) k)) k) (nI k) = F_X9_wrongGuesses_9  fu om ((fun k => nI (z_cnt (fun k => decide (z_kb (om.2 1) k (z_rk (om.2 1) k) < om.2 1 1) != decide (om.2 1 (12 + 8 * k) = 1)) k)) (k + 1)) (nI (k + 1))
    simp only [F_X9_wrongGuesses_9, z_al8, Option.bind_some, h8]
    rw [z_ig hk (by omega)]
    obtain ⟨r, hr, e⟩ := hra k hk
    simp only [M_rk (show k < 10 by omega) e (show r < 10 by omega), ← z_rkE e (show r < 10 by omega), M_tk (show k < 10 by omega), M_king (show k < 10 by omega), M_t0, M_t1, Option.bind_some, z_le, nI_1, z_cnt]
    by_cases q : z_kb (om.2 1) k (z_rk (om.2 1) k) < om.2 1 1 <;> by_cases r : om.2 1 (12 + 8 * k) = 1 <;> simp [q, r, nI_1]) (by
    intro fu
    show F_X9_wrongGuesses_9  (fu + 1) om ((fun k => nI (z_cnt (fun k => decide (z_kb (om.2 1) k (z_rk (om.2 1) k) < om.2 1 1) != decide (om.2 1 (12 + 8 * k) = 1)) k)) (P)) (nI (P)) = _
    simp only [F_X9_wrongGuesses_9, z_al8, z_al9, Option.bind_some, h8]
    rw [z_il (Nat.le_refl _) (by omega)]) 100000 (by omega) 0 (by omega)
  exact h9
theorem M_mean (hP : 3 ≤ P ∧ P ≤ 10) (hB : 1 ≤ B ∧ B ≤ 4) (h8 : om.2 1 8 = nI P) (h9b : om.2 1 9 = nI B) (hra : ∀ p : Nat, p < P → ∃ r : Nat, r < P ∧ om.2 1 (12 + 8 * p + 4) = nI r) : F_X9_meanBow_9  100000 om 0 (nI 0) = some (z_su 0 (fun k => z_kb (om.2 1) k (z_rk (om.2 1) k)) P, nI P, om) := by

  have h9 := z_for (P) (fun fu k (s : Int32) => F_X9_meanBow_9  fu om s (nI k)) (fun k => z_su 0 (fun k => z_kb (om.2 1) k (z_rk (om.2 1) k)) k) (r := some (z_su 0 (fun k => z_kb (om.2 1) k (z_rk (om.2 1) k)) P, nI P, om)) (by
    intro fu k hk
    show F_X9_meanBow_9  (fu + 1) om ((fun k => z_su 0 (fun k => z_kb (om.2 1) k (z_rk (om.2 1) k)) k) k) (nI k) = F_X9_meanBow_9  fu om ((fun k => z_su 0 (fun k => z_kb (om.2 1) k (z_rk (om.2 1) k)) k) (k + 1)) (nI (k + 1))
    simp only [F_X9_meanBow_9, z_al8, Option.bind_some, h8]
    rw [z_ig hk (by omega)]
    obtain ⟨r, hr, e⟩ := hra k hk
    simp only [M_rk (show k < 10 by omega) e (show r < 10 by omega), ← z_rkE e (show r < 10 by omega), M_kb (show k < 10 by omega), Option.bind_some, z_le, nI_1, z_su]) (by
    intro fu
    show F_X9_meanBow_9  (fu + 1) om ((fun k => z_su 0 (fun k => z_kb (om.2 1) k (z_rk (om.2 1) k)) k) (P)) (nI (P)) = _
    simp only [F_X9_meanBow_9, z_al8, z_al9, Option.bind_some, h8]
    rw [z_il (Nat.le_refl _) (by omega)]) 100000 (by omega) 0 (by omega)
  exact h9
theorem M_gap (hP : 3 ≤ P ∧ P ≤ 10) (hB : 1 ≤ B ∧ B ≤ 4) (h8 : om.2 1 8 = nI P) (h9b : om.2 1 9 = nI B) {s0 : Int32} : F_X9_coinGap_30  100000 om s0 (nI 0) = some (z_su s0 (fun k => om.2 1 (12 + 8 * k + 2)) P, nI P, om) := by

  have h9 := z_for (P) (fun fu k (s : Int32) => F_X9_coinGap_30  fu om s (nI k)) (fun k => z_su s0 (fun k => om.2 1 (12 + 8 * k + 2)) k) (r := some (z_su s0 (fun k => om.2 1 (12 + 8 * k + 2)) P, nI P, om)) (by
    intro fu k hk
    show F_X9_coinGap_30  (fu + 1) om ((fun k => z_su s0 (fun k => om.2 1 (12 + 8 * k + 2)) k) k) (nI k) = F_X9_coinGap_30  fu om ((fun k => z_su s0 (fun k => om.2 1 (12 + 8 * k + 2)) k) (k + 1)) (nI (k + 1))
    simp only [F_X9_coinGap_30, z_al8, Option.bind_some, h8]
    rw [z_ig hk (by omega)]
    simp only [M_of2 (show k < 10 by omega), Option.bind_some, z_le, nI_1, z_su]) (by
    intro fu
    show F_X9_coinGap_30  (fu + 1) om ((fun k => z_su s0 (fun k => om.2 1 (12 + 8 * k + 2)) k) (P)) (nI (P)) = _
    simp only [F_X9_coinGap_30, z_al8, z_al9, Option.bind_some, h8]
    rw [z_il (Nat.le_refl _) (by omega)]) 100000 (by omega) 0 (by omega)
  exact h9
theorem M_rich (hP : 3 ≤ P ∧ P ≤ 10) (hB : 1 ≤ B ∧ B ≤ 4) (h8 : om.2 1 8 = nI P) (h9b : om.2 1 9 = nI B) : F_X9_richest_9  100000 om 0 (nI 1) = some (nI (z_arg (fun k b => decide (om.2 1 (12 + 8 * b + 2) < om.2 1 (12 + 8 * k + 2))) (P - 1)), nI P, om) := by

  have h9 := z_for1 (P) (fun fu k (s : Int32) => F_X9_richest_9  fu om s (nI k)) (fun k => nI (z_arg (fun k b => decide (om.2 1 (12 + 8 * b + 2) < om.2 1 (12 + 8 * k + 2))) (k - 1))) (r := some (nI (z_arg (fun k b => decide (om.2 1 (12 + 8 * b + 2) < om.2 1 (12 + 8 * k + 2))) (P - 1)), nI P, om)) (by
    intro fu k hk0 hk
    show F_X9_richest_9  (fu + 1) om ((fun k => nI (z_arg (fun k b => decide (om.2 1 (12 + 8 * b + 2) < om.2 1 (12 + 8 * k + 2))) (k - 1))) k) (nI k) = F_X9_richest_9  fu om ((fun k => nI (z_arg (fun k b => decide (om.2 1 (12 + 8 * b + 2) < om.2 1 (12 + 8 * k + 2))) (k - 1))) (k + 1)) (nI (k + 1))
    obtain ⟨j, rfl⟩ : ∃ j, k = j + 1 := ⟨k - 1, by omega⟩
    have hb : z_arg (fun k b => decide (om.2 1 (12 + 8 * b + 2) < om.2 1 (12 + 8 * k + 2))) j ≤ j := z_arg_le
    simp only [Nat.add_sub_cancel]
    rw [z_arg]
    generalize z_arg (fun k b => decide (om.2 1 (12 + 8 * b + 2) < om.2 1 (12 + 8 * k + 2))) j = b at hb ⊢
    simp only [F_X9_richest_9, z_al8, Option.bind_some, h8]
    rw [z_ig hk (by omega)]
    simp only [M_of2 (show j + 1 < 10 by omega), M_of2 (show b < 10 by omega), Option.bind_some]
    by_cases q : om.2 1 (12 + 8 * b + 2) < om.2 1 (12 + 8 * (j + 1) + 2)
    · rw [if_neg (Int32.not_le.mpr q), if_pos (by simpa using q), Option.bind_some, nI_1]
    · rw [if_pos (Int32.not_lt.mp q), if_neg (by simpa using q), Option.bind_some, nI_1]) (by
    intro fu
    show F_X9_richest_9  (fu + 1) om ((fun k => nI (z_arg (fun k b => decide (om.2 1 (12 + 8 * b + 2) < om.2 1 (12 + 8 * k + 2))) (k - 1))) (P)) (nI (P)) = _
    simp only [F_X9_richest_9, z_al8, z_al9, Option.bind_some, h8]
    rw [z_il (Nat.le_refl _) (by omega)]) 100000 (by omega) (by omega)
  exact h9
theorem M_stiff (hP : 3 ≤ P ∧ P ≤ 10) (hB : 1 ≤ B ∧ B ≤ 4) (h8 : om.2 1 8 = nI P) (h9b : om.2 1 9 = nI B) (hra : ∀ p : Nat, p < P → ∃ r : Nat, r < P ∧ om.2 1 (12 + 8 * p + 4) = nI r) : F_X9_stiffest_9  100000 om 0 (nI 1) = some (nI (z_arg (fun k b => decide (z_kb (om.2 1) k (z_rk (om.2 1) k) < z_kb (om.2 1) b (z_rk (om.2 1) b))) (P - 1)), nI P, om) := by

  have h9 := z_for1 (P) (fun fu k (s : Int32) => F_X9_stiffest_9  fu om s (nI k)) (fun k => nI (z_arg (fun k b => decide (z_kb (om.2 1) k (z_rk (om.2 1) k) < z_kb (om.2 1) b (z_rk (om.2 1) b))) (k - 1))) (r := some (nI (z_arg (fun k b => decide (z_kb (om.2 1) k (z_rk (om.2 1) k) < z_kb (om.2 1) b (z_rk (om.2 1) b))) (P - 1)), nI P, om)) (by
    intro fu k hk0 hk
    show F_X9_stiffest_9  (fu + 1) om ((fun k => nI (z_arg (fun k b => decide (z_kb (om.2 1) k (z_rk (om.2 1) k) < z_kb (om.2 1) b (z_rk (om.2 1) b))) (k - 1))) k) (nI k) = F_X9_stiffest_9  fu om ((fun k => nI (z_arg (fun k b => decide (z_kb (om.2 1) k (z_rk (om.2 1) k) < z_kb (om.2 1) b (z_rk (om.2 1) b))) (k - 1))) (k + 1)) (nI (k + 1))
    obtain ⟨j, rfl⟩ : ∃ j, k = j + 1 := ⟨k - 1, by omega⟩
    have hb : z_arg (fun k b => decide (z_kb (om.2 1) k (z_rk (om.2 1) k) < z_kb (om.2 1) b (z_rk (om.2 1) b))) j ≤ j := z_arg_le
    simp only [Nat.add_sub_cancel]
    rw [z_arg]
    generalize z_arg (fun k b => decide (z_kb (om.2 1) k (z_rk (om.2 1) k) < z_kb (om.2 1) b (z_rk (om.2 1) b))) j = b at hb ⊢
    simp only [F_X9_stiffest_9, z_al8, Option.bind_some, h8]
    rw [z_ig hk (by omega)]
    obtain ⟨r, hr, e⟩ := hra (j + 1) hk
    obtain ⟨r2, hr2, e2⟩ := hra b (by omega)
    simp only [M_rk (show j + 1 < 10 by omega) e (show r < 10 by omega), M_rk (show b < 10 by omega) e2 (show r2 < 10 by omega), ← z_rkE e (show r < 10 by omega), ← z_rkE e2 (show r2 < 10 by omega), M_kb (show j + 1 < 10 by omega), M_kb (show b < 10 by omega), Option.bind_some]
    by_cases q : z_kb (om.2 1) (j + 1) (z_rk (om.2 1) (j + 1)) < z_kb (om.2 1) b (z_rk (om.2 1) b)
    · rw [if_neg (Int32.not_le.mpr q), if_pos (by simpa using q), Option.bind_some, nI_1]
    · rw [if_pos (Int32.not_lt.mp q), if_neg (by simpa using q), Option.bind_some, nI_1]) (by
    intro fu
    show F_X9_stiffest_9  (fu + 1) om ((fun k => nI (z_arg (fun k b => decide (z_kb (om.2 1) k (z_rk (om.2 1) k) < z_kb (om.2 1) b (z_rk (om.2 1) b))) (k - 1))) (P)) (nI (P)) = _
    simp only [F_X9_stiffest_9, z_al8, z_al9, Option.bind_some, h8]
    rw [z_il (Nat.le_refl _) (by omega)]) 100000 (by omega) (by omega)
  exact h9
theorem M_cheap (hP : 3 ≤ P ∧ P ≤ 10) (hB : 1 ≤ B ∧ B ≤ 4) (h8 : om.2 1 8 = nI P) (h9b : om.2 1 9 = nI B) {p : Nat} (hp : p < P) : F_X9_cheapestRags_19 (nI p) 100000 om 0 (nI 1) = some (nI (z_arg (fun k b => decide (z_tl (om.2 1) p (om.2 1 (92 + k)) < z_tl (om.2 1) p (om.2 1 (92 + b)))) (P - 1)), nI P, om) := by

  have h9 := z_for1 (P) (fun fu k (s : Int32) => F_X9_cheapestRags_19 (nI p) fu om s (nI k)) (fun k => nI (z_arg (fun k b => decide (z_tl (om.2 1) p (om.2 1 (92 + k)) < z_tl (om.2 1) p (om.2 1 (92 + b)))) (k - 1))) (r := some (nI (z_arg (fun k b => decide (z_tl (om.2 1) p (om.2 1 (92 + k)) < z_tl (om.2 1) p (om.2 1 (92 + b)))) (P - 1)), nI P, om)) (by
    intro fu k hk0 hk
    show F_X9_cheapestRags_19 (nI p) (fu + 1) om ((fun k => nI (z_arg (fun k b => decide (z_tl (om.2 1) p (om.2 1 (92 + k)) < z_tl (om.2 1) p (om.2 1 (92 + b)))) (k - 1))) k) (nI k) = F_X9_cheapestRags_19 (nI p) fu om ((fun k => nI (z_arg (fun k b => decide (z_tl (om.2 1) p (om.2 1 (92 + k)) < z_tl (om.2 1) p (om.2 1 (92 + b)))) (k - 1))) (k + 1)) (nI (k + 1))
    obtain ⟨j, rfl⟩ : ∃ j, k = j + 1 := ⟨k - 1, by omega⟩
    have hb : z_arg (fun k b => decide (z_tl (om.2 1) p (om.2 1 (92 + k)) < z_tl (om.2 1) p (om.2 1 (92 + b)))) j ≤ j := z_arg_le
    simp only [Nat.add_sub_cancel]
    rw [z_arg]
    generalize z_arg (fun k b => decide (z_tl (om.2 1) p (om.2 1 (92 + k)) < z_tl (om.2 1) p (om.2 1 (92 + b)))) j = b at hb ⊢
    simp only [F_X9_cheapestRags_19, z_al8, Option.bind_some, h8]
    rw [z_ig hk (by omega)]
    rw [show (92 : Int32) = nI 92 from rfl, nI_add, nI_add, z_ald (by omega) (by omega), Option.bind_some, M_tl (show p < 10 by omega), Option.bind_some, z_ald (by omega) (by omega), Option.bind_some, M_tl (show p < 10 by omega), Option.bind_some]
    by_cases q : z_tl (om.2 1) p (om.2 1 (92 + (j + 1))) < z_tl (om.2 1) p (om.2 1 (92 + b))
    · rw [if_neg (Int32.not_le.mpr q), if_pos (by simpa using q), Option.bind_some, nI_1]
    · rw [if_pos (Int32.not_lt.mp q), if_neg (by simpa using q), Option.bind_some, nI_1]) (by
    intro fu
    show F_X9_cheapestRags_19 (nI p) (fu + 1) om ((fun k => nI (z_arg (fun k b => decide (z_tl (om.2 1) p (om.2 1 (92 + k)) < z_tl (om.2 1) p (om.2 1 (92 + b)))) (k - 1))) (P)) (nI (P)) = _
    simp only [F_X9_cheapestRags_19, z_al8, z_al9, Option.bind_some, h8]
    rw [z_il (Nat.le_refl _) (by omega)]) 100000 (by omega) (by omega)
  exact h9
end LOOPS
