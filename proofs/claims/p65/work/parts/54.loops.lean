/-! Loops of the class and of the model in closed form. -/
theorem z_uu {f : Nat → Int32} {i : Nat} {a b : Int32} : upd (upd f i a) i b = upd f i b := by
  funext j
  by_cases h : j = i
  · subst h; rw [z_us, z_us]
  · rw [z_un h, z_un h, z_un h]
def z_su (s : Int32) (f : Nat → Int32) : Nat → Int32
  | 0 => s
  | k + 1 => z_su s f k + f k
theorem z_su_congr {s : Int32} {f g : Nat → Int32} {n : Nat} (h : ∀ k : Nat, k < n → f k = g k) : z_su s f n = z_su s g n := by
  induction n with
  | zero => rfl
  | succ n ih => rw [z_su, z_su, ih (fun k hk => h k (by omega)), h n (by omega)]
theorem z_for1 {σ τ : Type} (N : Nat) (L : Nat → Nat → σ → Option τ) (S : Nat → σ) {r : Option τ} (hs : ∀ fu k, 1 ≤ k → k < N → L (fu + 1) k (S k) = L fu (k + 1) (S (k + 1))) (he : ∀ fu, L (fu + 1) N (S N) = r) (fu : Nat) (hf : N < fu) (hk : 1 ≤ N) : L fu 1 (S 1) = r := by
  have key : ∀ d k fu : Nat, 1 ≤ k → k + d = N → d < fu → L fu k (S k) = r := by
    intro d
    induction d with
    | zero =>
      intro k fu h0 h1 h2
      obtain rfl : k = N := by omega
      cases fu with
      | zero => omega
      | succ fu => exact he fu
    | succ d ih =>
      intro k fu h0 h1 h2
      cases fu with
      | zero => omega
      | succ fu => rw [hs fu k h0 (by omega)]; exact ih (k + 1) fu (by omega) (by omega) (by omega)
  exact key (N - 1) 1 fu (Nat.le_refl _) (by omega) (by omega)
section LOOPS
variable {P B J : Nat} {os op ow oe oB : ob} {g : Nat → Int32} {qw qe : List Nat}
theorem C_kings (h : RPos P B J os op ow oe g qw qe) : F_X5_kingsInAll os = some (z_su 0 (fun k => g (12 + 8 * k)) P) := by
  have hP := h.hP
  have hB := h.hB
  have h9 := z_for (P) (fun fu k (s : Int32) => F_X5_kingsInAll_4 os fu s (nI k)) (fun k => z_su 0 (fun k => g (12 + 8 * k)) k) (r := some (z_su 0 (fun k => g (12 + 8 * k)) P, nI P)) (by
    intro fu k hk
    show F_X5_kingsInAll_4 os (fu + 1) ((fun k => z_su 0 (fun k => g (12 + 8 * k)) k) k) (nI k) = F_X5_kingsInAll_4 os fu ((fun k => z_su 0 (fun k => g (12 + 8 * k)) k) (k + 1)) (nI (k + 1))
    simp only [F_X5_kingsInAll_4, h.s4]
    rw [z_ig hk (by omega)]
    rw [z_at (by omega) (by omega), h.kg hk, z_le, nI_1]
    rfl) (by
    intro fu
    show F_X5_kingsInAll_4 os (fu + 1) ((fun k => z_su 0 (fun k => g (12 + 8 * k)) k) (P)) (nI (P)) = _
    simp only [F_X5_kingsInAll_4, h.s4]
    rw [z_il (Nat.le_refl _) (by omega)]) 100000 (by omega) 0 (by omega)
  show (F_X5_kingsInAll_4 os 100000 0 (nI 0)).bind _ = _
  have h9 : F_X5_kingsInAll_4 os 100000 0 (nI 0) = _ := h9
  rw [h9]
  rfl
theorem C_coinsS (h : RPos P B J os op ow oe g qw qe) : F_X5_coinsInAll os = some (z_su 0 (os.2 8) P) := by
  have hP := h.hP
  have hB := h.hB
  have h9 := z_for (P) (fun fu k (s : Int32) => F_X5_coinsInAll_4 os fu s (nI k)) (fun k => z_su 0 (os.2 8) k) (r := some (z_su 0 (os.2 8) P, nI P)) (by
    intro fu k hk
    show F_X5_coinsInAll_4 os (fu + 1) ((fun k => z_su 0 (os.2 8) k) k) (nI k) = F_X5_coinsInAll_4 os fu ((fun k => z_su 0 (os.2 8) k) (k + 1)) (nI (k + 1))
    simp only [F_X5_coinsInAll_4, h.s4]
    rw [z_ig hk (by omega)]
    rw [z_at (by omega) (by omega), z_le, nI_1]
    rfl) (by
    intro fu
    show F_X5_coinsInAll_4 os (fu + 1) ((fun k => z_su 0 (os.2 8) k) (P)) (nI (P)) = _
    simp only [F_X5_coinsInAll_4, h.s4]
    rw [z_il (Nat.le_refl _) (by omega)]) 100000 (by omega) 0 (by omega)
  show (F_X5_coinsInAll_4 os 100000 0 (nI 0)).bind _ = _
  have h9 : F_X5_coinsInAll_4 os 100000 0 (nI 0) = _ := h9
  rw [h9]
  rfl
theorem C_count (h : RPos P B J os op ow oe g qw qe) : F_X2_countedInAll op os = some (z_su 0 (fun k => if g (12 + 8 * k) = 1 then g (102 + 3 * k + 2) else 0) P) := by
  have hP := h.hP
  have hB := h.hB
  have h9 := z_for (P) (fun fu k (s : Int32) => F_X2_countedInAll_4 op os fu s (nI k)) (fun k => z_su 0 (fun k => if g (12 + 8 * k) = 1 then g (102 + 3 * k + 2) else 0) k) (r := some (z_su 0 (fun k => if g (12 + 8 * k) = 1 then g (102 + 3 * k + 2) else 0) P, nI P)) (by
    intro fu k hk
    show F_X2_countedInAll_4 op os (fu + 1) ((fun k => z_su 0 (fun k => if g (12 + 8 * k) = 1 then g (102 + 3 * k + 2) else 0) k) k) (nI k) = F_X2_countedInAll_4 op os fu ((fun k => z_su 0 (fun k => if g (12 + 8 * k) = 1 then g (102 + 3 * k + 2) else 0) k) (k + 1)) (nI (k + 1))
    simp only [F_X2_countedInAll_4, h.s4]
    rw [z_ig hk (by omega)]
    have hk9 : op.2 12 k = if g (12 + 8 * k) = 1 then g (102 + 3 * k + 2) else 0 := by
      rcases h.k01 hk with e | e
      · rw [((h.2.2.2.1 k hk).2 e).2, if_neg (by rw [e]; decide)]
      · rw [((h.2.2.2.1 k hk).1 e).2.1, if_pos e]
    rw [z_at (by omega) (by omega), hk9, z_le, nI_1]
    rfl) (by
    intro fu
    show F_X2_countedInAll_4 op os (fu + 1) ((fun k => z_su 0 (fun k => if g (12 + 8 * k) = 1 then g (102 + 3 * k + 2) else 0) k) (P)) (nI (P)) = _
    simp only [F_X2_countedInAll_4, h.s4]
    rw [z_il (Nat.le_refl _) (by omega)]) 100000 (by omega) 0 (by omega)
  show (F_X2_countedInAll_4 op os 100000 0 (nI 0)).bind _ = _
  have h9 : F_X2_countedInAll_4 op os 100000 0 (nI 0) = _ := h9
  rw [h9]
  rfl
theorem C_coins (h : RPos P B J os op ow oe g qw qe) : F_X2_coinsInAll op os = some (z_su (g 5 + g 6 + g 7) (fun k => g (12 + 8 * k + 2)) P) := by
  have hP := h.hP
  have h9 := z_for (P) (fun fu k (s : Int32) => F_X2_coinsInAll_25 op os fu s (nI k)) (fun k => z_su (g 5 + g 6 + g 7) (fun k => g (12 + 8 * k + 2)) k) (r := some (z_su (g 5 + g 6 + g 7) (fun k => g (12 + 8 * k + 2)) P, nI P)) (by
    intro fu k hk
    show F_X2_coinsInAll_25 op os (fu + 1) ((fun k => z_su (g 5 + g 6 + g 7) (fun k => g (12 + 8 * k + 2)) k) k) (nI k) = F_X2_coinsInAll_25 op os fu ((fun k => z_su (g 5 + g 6 + g 7) (fun k => g (12 + 8 * k + 2)) k) (k + 1)) (nI (k + 1))
    simp only [F_X2_coinsInAll_25, h.s4]
    rw [z_ig hk (by omega), z_at (by omega) (by omega), h.pu hk, z_le, nI_1]
    rfl) (by
    intro fu
    show F_X2_coinsInAll_25 op os (fu + 1) ((fun k => z_su (g 5 + g 6 + g 7) (fun k => g (12 + 8 * k + 2)) k) (P)) (nI (P)) = _
    simp only [F_X2_coinsInAll_25, h.s4]
    rw [z_il (Nat.le_refl _) (by omega)]) 100000 (by omega) 0 (by omega)
  simp only [F_X2_coinsInAll, z_le]
  rw [show rx_at 2 (op.2 4) 0 = g 6 from (z_at (n := 2) (i := 0) (by omega) (by omega)).trans h.2.2.1.1.2.2.2.1, show rx_at 2 (op.2 4) 1 = g 7 from (z_at (n := 2) (i := 1) (by omega) (by omega)).trans h.2.2.1.1.2.2.2.2, h.2.2.1.1.2.2.1]
  have h9 : F_X2_coinsInAll_25 op os 100000 (g 5 + g 6 + g 7) 0 = _ := h9
  rw [h9]
  rfl
def z_opn (g : Nat → Int32) (b : Nat) : Prop := g 0 - g 0 / g (132 + 3 * b) * g (132 + 3 * b) = g (132 + 3 * b + 1)
def z_opw (g : Nat → Int32) (b : Nat) : Int32 := if g 0 - g 0 / g (132 + 3 * b) * g (132 + 3 * b) = g (132 + 3 * b + 1) then g (132 + 3 * b + 2) else 0
theorem C_people (h : RPos P B J os op ow oe g qw qe) {e : Int32} : F_X2_peopleOn op os e = some (nI (z_cnt (fun k => decide (g (12 + 8 * k + 1) = e)) P)) := by
  have hP := h.hP
  have h9 := z_for (P) (fun fu k (s : Int32) => F_X2_peopleOn_4 op os e fu s (nI k)) (fun k => nI (z_cnt (fun k => decide (g (12 + 8 * k + 1) = e)) k)) (r := some (nI (z_cnt (fun k => decide (g (12 + 8 * k + 1) = e)) P), nI P)) (by
    intro fu k hk
    show F_X2_peopleOn_4 op os e (fu + 1) ((fun k => nI (z_cnt (fun k => decide (g (12 + 8 * k + 1) = e)) k)) k) (nI k) = F_X2_peopleOn_4 op os e fu ((fun k => nI (z_cnt (fun k => decide (g (12 + 8 * k + 1) = e)) k)) (k + 1)) (nI (k + 1))
    simp only [F_X2_peopleOn_4, h.s4]
    rw [z_ig hk (by omega)]
    rw [z_at (by omega) (by omega), h.bk hk]
    simp only [nI_1, z_cnt]
    by_cases q : g (12 + 8 * k + 1) = e <;> simp [q, nI_1]) (by
    intro fu
    show F_X2_peopleOn_4 op os e (fu + 1) ((fun k => nI (z_cnt (fun k => decide (g (12 + 8 * k + 1) = e)) k)) (P)) (nI (P)) = _
    simp only [F_X2_peopleOn_4, h.s4]
    rw [z_il (Nat.le_refl _) (by omega)]) 100000 (by omega) 0 (by omega)
  show (F_X2_peopleOn_4 op os e 100000 0 (nI 0)).bind _ = _
  have h9 : F_X2_peopleOn_4 op os e 100000 0 (nI 0) = _ := h9
  rw [h9]
  rfl
theorem C_royals (h : RPos P B J os op ow oe g qw qe) {p : Nat} (hp : p < P) : F_X2_royalCoinsOf op os (nI p) = some (nI (z_cnt (fun k => decide (g (12 + 8 * k) = 1) && decide (g (102 + 3 * k) = nI p)) P)) := by
  have hP := h.hP
  have h9 := z_for (P) (fun fu k (s : Int32) => F_X2_royalCoinsOf_4 op os (nI p) fu s (nI k)) (fun k => nI (z_cnt (fun k => decide (g (12 + 8 * k) = 1) && decide (g (102 + 3 * k) = nI p)) k)) (r := some (nI (z_cnt (fun k => decide (g (12 + 8 * k) = 1) && decide (g (102 + 3 * k) = nI p)) P), nI P)) (by
    intro fu k hk
    show F_X2_royalCoinsOf_4 op os (nI p) (fu + 1) ((fun k => nI (z_cnt (fun k => decide (g (12 + 8 * k) = 1) && decide (g (102 + 3 * k) = nI p)) k)) k) (nI k) = F_X2_royalCoinsOf_4 op os (nI p) fu ((fun k => nI (z_cnt (fun k => decide (g (12 + 8 * k) = 1) && decide (g (102 + 3 * k) = nI p)) k)) (k + 1)) (nI (k + 1))
    simp only [F_X2_royalCoinsOf_4, h.s4]
    rw [z_ig hk (by omega)]
    rw [z_at (by omega) (by omega)]
    simp only [nI_1, z_cnt]
    rcases h.k01 hk with e | e
    · rw [((h.2.2.2.1 k hk).2 e).1]
      have q : ¬ (-1 : Int32) = nI p := fun q => by
        have q2 := congrArg Int32.toInt q
        rw [nI_toInt (by omega)] at q2
        have : (-1 : Int32).toInt = -1 := rfl
        omega
      simp [e, q]
    · rw [((h.2.2.2.1 k hk).1 e).1]
      by_cases q : g (102 + 3 * k) = nI p <;> simp [e, q, nI_1]) (by
    intro fu
    show F_X2_royalCoinsOf_4 op os (nI p) (fu + 1) ((fun k => nI (z_cnt (fun k => decide (g (12 + 8 * k) = 1) && decide (g (102 + 3 * k) = nI p)) k)) (P)) (nI (P)) = _
    simp only [F_X2_royalCoinsOf_4, h.s4]
    rw [z_il (Nat.le_refl _) (by omega)]) 100000 (by omega) 0 (by omega)
  show (F_X2_royalCoinsOf_4 op os (nI p) 100000 0 (nI 0)).bind _ = _
  have h9 : F_X2_royalCoinsOf_4 op os (nI p) 100000 0 (nI 0) = _ := h9
  rw [h9]
  rfl
end LOOPS
