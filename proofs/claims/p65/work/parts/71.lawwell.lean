/-! All is well: the law's long reading. -/
def zN (f : Nat → Nat) : Nat → Nat
  | 0 => 0
  | n + 1 => zN f n + f n
theorem zN_add {f h : Nat → Nat} {n : Nat} : zN (fun p => f p + h p) n = zN f n + zN h n := by
  induction n with
  | zero => rfl
  | succ n ih => rw [zN, zN, zN, ih]; omega
theorem zN_0 {n : Nat} : zN (fun _ => 0) n = 0 := by
  induction n with
  | zero => rfl
  | succ n ih => rw [zN, ih]
theorem zN_one {q n : Nat} (hn : n ≤ 10) (hq : q < 2 ^ 31) : zN (fun p => if nI q = nI p then 1 else 0) n = if q < n then 1 else 0 := by
  induction n with
  | zero => rw [if_neg (by omega)]; rfl
  | succ n ih =>
    rw [zN, ih (by omega)]
    by_cases c : q = n
    · subst c; rw [if_neg (by omega), if_pos rfl, if_pos (by omega)]
    · rw [if_neg (fun z => c ((nI_eq hq (by omega)).mp z))]
      by_cases d : q < n
      · rw [if_pos d, if_pos (by omega)]
      · rw [if_neg d, if_neg (by omega)]
/-- held coins, counted by coins and by people -/
theorem z_dc {P : Nat} (hP : P ≤ 10) {K : Nat → Bool} {H : Nat → Int32} : ∀ m : Nat, (∀ k : Nat, k < m → H k = -1 ∨ ∃ q : Nat, q < P ∧ H k = nI q) → zN (fun p => z_cnt (fun k => K k && decide (H k = nI p)) m) P = z_cnt (fun k => K k && decide (H k ≠ -1)) m := by
  intro m
  induction m with
  | zero => intro _; exact zN_0
  | succ m ih =>
    intro hH
    have h1 := ih (fun k hk => hH k (by omega))
    have h2 : (fun p => z_cnt (fun k => K k && decide (H k = nI p)) (m + 1)) = fun p => z_cnt (fun k => K k && decide (H k = nI p)) m + (if (K m && decide (H m = nI p)) = true then 1 else 0) := rfl
    rw [h2, zN_add, h1, z_cnt]
    congr 1
    cases hK : K m with
    | false => simp only [Bool.false_and, Bool.false_eq_true, if_false]; exact zN_0
    | true =>
      rcases hH m (by omega) with e | ⟨q, hq, e⟩
      · simp only [Bool.true_and, decide_eq_true_eq, e]
        have : (fun p : Nat => if (-1 : Int32) = nI p then 1 else 0) = fun p => if p < 2 ^ 31 then 0 else (if (-1 : Int32) = nI p then 1 else 0) := by
          funext p
          by_cases c : p < 2 ^ 31
          · rw [if_pos c, if_neg (fun z => z_m1 c z.symm)]
          · rw [if_neg c]
        rw [this]
        have key : ∀ n : Nat, n ≤ P → zN (fun p => if p < 2 ^ 31 then 0 else (if (-1 : Int32) = nI p then 1 else 0)) n = 0 := by
          intro n
          induction n with
          | zero => intro _; rfl
          | succ n ih2 => intro hn; rw [zN, ih2 (by omega), if_pos (by omega)]
        rw [key P (Nat.le_refl _)]
        rfl
      · simp only [Bool.true_and, decide_eq_true_eq, e]
        rw [zN_one hP (by omega), if_pos hq, if_pos (z_m1 (by omega))]
def wK (g : Nat → Int32) : Nat → Int32 := fun k => g (12 + 8 * k)
def wC (g : Nat → Int32) : Nat → Int32 := fun k => if g (12 + 8 * k) = 1 then g (102 + 3 * k + 2) else 0
def wH (g : Nat → Int32) : Nat → Bool := fun k => decide (g (12 + 8 * k) = 1) && decide (g (102 + 3 * k) ≠ -1)
def wR (P : Nat) (g : Nat → Int32) : Nat → Nat := fun p => z_cnt (fun k => decide (g (12 + 8 * k) = 1) && decide (g (102 + 3 * k) = nI p)) P
section WELL
variable {P B J C t : Nat} {os op ow oe oB om : ob} {g : Nat → Int32} {qw qe : List Nat}
theorem V_rags (h : RPos P B J os op ow oe g qw qe) {p : Nat} (hp : p < P) : F_X8_rags oB os op (nI p) = some (g (12 + 8 * p + 4)) := by
  have hP := h.hP
  simp only [F_X8_rags, C_rp h hp, z_bsN]
  rw [z_at (by omega) (by omega), h.wo hp]
theorem V_wearer (h : RPos P B J os op ow oe g qw qe) (hi : gI P g) {p r : Nat} (hp : p < P) (hr : r < P) (e : g (12 + 8 * p + 4) = nI r) : F_X8_wearer oB os op (nI r) = some (nI p) := by
  have hP := h.hP
  have h1 : F_X2_wearerOf op os (nI r) = some (nI p) := z_for p (fun fu k (_ : Unit) => F_X2_wearerOf_2 op os (nI r) fu (nI k)) (fun _ => ()) (r := some (nI p)) (by
    intro fu k hk
    show F_X2_wearerOf_2 op os (nI r) (fu + 1) (nI k) = F_X2_wearerOf_2 op os (nI r) fu (nI (k + 1))
    simp only [F_X2_wearerOf_2, h.s4]
    rw [z_ig (by omega) (by omega), z_at (by omega) (by omega), h.wo (by omega), if_neg (fun z => by have := hi k p (by omega) hp (z.trans e.symm); omega), nI_1]) (by
    intro fu
    show F_X2_wearerOf_2 op os (nI r) (fu + 1) (nI p) = _
    simp only [F_X2_wearerOf_2, h.s4]
    rw [z_ig hp (by omega), z_at (by omega) (by omega), h.wo hp, if_pos e]) 100000 (by omega) 0 (by omega)
  simp only [F_X8_wearer, C_rp h hr, h1, z_bsN]
theorem V_isCounted (h : RPos P B J os op ow oe g qw qe) {k : Nat} (hk : k < P) (h1 : g (12 + 8 * k) = 1) : F_X8_isCounted oB os op (nI k) = some (g (102 + 3 * k + 2)) := by
  have hP := h.hP
  simp only [F_X8_isCounted, C_rk h hk h1, z_bsN]
  rw [z_at (by omega) (by omega), ((h.2.2.2.1 k hk).1 h1).2.1]
  rcases (h.1.2.2.2.2.2.2.1 k hk).2.2 with e | e <;> rw [e] <;> rfl
theorem V_royals (h : RPos P B J os op ow oe g qw qe) {p : Nat} (hp : p < P) : F_X8_royalCoins oB os op (nI p) = some (nI (wR P g p)) := by
  simp only [F_X8_royalCoins, C_rp h hp, C_royals h hp, z_bsN, wR]
theorem W_step (h : RPos P B J os op ow oe g qw qe) (hx : XI P C g) (hm : om.1 3 = nI P) {fu k : Nat} (hk : k < P) : F_L_isWell_13 om oB os op ow oe (fu + 1) (z_su 0 (wK g) k) (z_su 0 (wC g) k) (nI (z_cnt (wH g) k)) (nI (zN (wR P g) k)) (nI k) = F_L_isWell_13 om oB os op ow oe fu (z_su 0 (wK g) (k + 1)) (z_su 0 (wC g) (k + 1)) (nI (z_cnt (wH g) (k + 1))) (nI (zN (wR P g) (k + 1))) (nI (k + 1)) := by
  have hP := h.hP
  have n2 : z_su 0 (wK g) (k + 1) = z_su 0 (wK g) k + g (12 + 8 * k) := rfl
  have n3 : z_su 0 (wC g) (k + 1) = z_su 0 (wC g) k + (if g (12 + 8 * k) = 1 then g (102 + 3 * k + 2) else 0) := rfl
  have n4 : nI (z_cnt (wH g) (k + 1)) = nI (z_cnt (wH g) k) + (if g (12 + 8 * k) = 1 ∧ g (102 + 3 * k) ≠ -1 then 1 else 0) := by
    rw [z_cnt]
    by_cases c : g (12 + 8 * k) = 1 ∧ g (102 + 3 * k) ≠ -1
    · rw [if_pos c, if_pos (by simp [wH, c.1, c.2]), nI_1]
    · rw [if_neg c, if_neg (fun z => c (by simpa [wH] using z)), Int32.add_zero]; rfl
  have n5 : nI (zN (wR P g) (k + 1)) = nI (zN (wR P g) k) + nI (wR P g k) := (nI_add _ _).symm
  rw [n2, n3, n4, n5]
  generalize z_su 0 (wK g) k = a2
  generalize z_su 0 (wC g) k = a3
  generalize nI (z_cnt (wH g) k) = a4
  generalize nI (zN (wR P g) k) = a5
  obtain ⟨r, hr, er⟩ := h.ra hk
  obtain ⟨p, hp, ep⟩ := h.1.2.2.2.2.2.1.2 k hk
  simp only [F_L_isWell_13, hm]
  rw [z_ig hk (by omega), V_rags h hk, z_bsN, er, V_wearer h hx.2.2 hk hr er, z_bsN, if_pos rfl, V_wearer h hx.2.2 hp hk ep, z_bsN, V_rags h hp, z_bsN, ep, if_pos rfl, V_royals h hk, z_bsN, z_leN, V_isKing h hk, z_bsN]
  by_cases c1 : g (12 + 8 * k) = 1
  · have hcc := V_isCounted (oB := oB) h hk c1
    have hc01 := (h.1.2.2.2.2.2.2.1 k hk).2.2
    have hh01 := (h.1.2.2.2.2.2.2.1 k hk).1
    rw [if_neg (by rw [if_pos c1]; decide), hcc, z_bsN, V_holder h hk c1, if_pos c1, c1]
    rcases hh01 with e | ⟨q, hq, e⟩
    · rw [if_neg (show ¬ ((1 : Int32) = 1 ∧ g (102 + 3 * k) ≠ -1) from fun z => z.2 e)]
      simp only [e, z_bsN, z_leN, if_true, nI_1]
      rcases hc01 with f | f
      · rw [f, if_pos rfl]
      · rw [f, if_neg (by decide)]
    · have hm1 : ¬ nI q = (-1 : Int32) := z_m1 (by omega)
      rw [if_pos (show ((1 : Int32) = 1 ∧ g (102 + 3 * k) ≠ -1) from ⟨rfl, fun z => hm1 (e.symm.trans z)⟩), V_reH h hk c1 hq e]
      simp only [e, z_bsN, z_leN, hm1, if_false, V_east h hq, if_true, nI_1]
      rcases hc01 with f | f
      · rw [f, if_pos rfl]
      · rw [f, if_neg (by decide)]
  · have c0 : g (12 + 8 * k) = 0 := (h.k01 hk).resolve_right c1
    rw [if_pos (by rw [if_neg c1]), if_neg c1, if_neg (fun z => c1 z.1), c0, Int32.add_zero, Int32.add_zero, Int32.add_zero, nI_1]
theorem A_well (h : RPos P B J os op ow oe g qw qe) (hx : XI P C g) (hm : om.1 3 = nI P) : F_L_isWell om oB os op ow oe = some 1 := by
  have hP := h.hP
  have hdc : zN (wR P g) P = z_cnt (wH g) P := z_dc hP.2 (K := fun k => decide (g (12 + 8 * k) = 1)) (H := fun k => g (102 + 3 * k)) P (fun k hk => (h.1.2.2.2.2.2.2.1 k hk).1)
  have hkc : F_X8_kingCount oB os = some (z_su 0 (wK g) P) := by simp only [F_X8_kingCount, C_kings h, z_bsN]; rfl
  have hco : F_X8_countedRoyalCoins oB os op = some (z_su 0 (wC g) P) := A_counted h
  have hb0 : F_X8_bankCount oB os op 0 = some (nI (z_cnt (fun k => decide (g (12 + 8 * k + 1) = 0)) P)) := by
    have e : F_X8_bankOf 0 = some 0 := rfl
    simp only [F_X8_bankCount, e, z_bsN, C_people h]
  have hb1 : F_X8_bankCount oB os op 1 = some (nI (z_cnt (fun k => decide (g (12 + 8 * k + 1) = 1)) P)) := by
    have e : F_X8_bankOf 1 = some 1 := rfl
    simp only [F_X8_bankCount, e, z_bsN, C_people h]
  have hbb : ∀ n : Nat, n ≤ P → z_cnt (fun k => decide (g (12 + 8 * k + 1) = 0)) n + z_cnt (fun k => decide (g (12 + 8 * k + 1) = 1)) n = n := by
    intro n
    induction n with
    | zero => intro _; rfl
    | succ n ih =>
      intro hn
      have := ih (by omega)
      rw [z_cnt, z_cnt]
      rcases h.b01 (show n < P by omega) with e | e
      · rw [e, if_pos (by decide), if_neg (by decide)]; omega
      · rw [e, if_neg (by decide), if_pos (by decide)]; omega
  have h9 := z_for P (fun fu k (s : Int32 × Int32 × Int32 × Int32) => F_L_isWell_13 om oB os op ow oe fu s.1 s.2.1 s.2.2.1 s.2.2.2 (nI k)) (fun k => (z_su 0 (wK g) k, z_su 0 (wC g) k, nI (z_cnt (wH g) k), nI (zN (wR P g) k))) (r := some (1 : Int32)) (fun fu k hk => W_step h hx hm hk) (by
    intro fu
    show F_L_isWell_13 om oB os op ow oe (fu + 1) (z_su 0 (wK g) P) (z_su 0 (wC g) P) (nI (z_cnt (wH g) P)) (nI (zN (wR P g) P)) (nI P) = some 1
    have hl := h.1.2.2.1.1
    simp only [F_L_isWell_13, hm]
    rw [z_il (Nat.le_refl _) (by omega), hkc, z_bsN, if_pos rfl, hco, z_bsN, if_pos rfl, hdc, if_pos rfl, hb0, z_bsN, hb1, z_bsN, nI_add, hbb P (Nat.le_refl _), if_pos rfl, A_ordered h hm h.hqw (Q0 h), z_bsN, if_neg (by decide), A_ordered h hm h.hqe (Q1 h), z_bsN, if_neg (by decide), F_X8_limitAngle, z_bsN, h.lim, if_neg (Int32.not_lt.mpr hl.1), z_bsN, if_neg (Int32.not_lt.mpr hl.2)]) 100000 (by omega) 0 (by omega)
  exact h9
end WELL
