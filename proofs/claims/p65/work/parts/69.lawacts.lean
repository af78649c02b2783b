/-! One act of the law. -/
theorem r_rem {a b : Nat} (ha : a < 2 ^ 31) (hb : 0 < b) (hb2 : b < 2 ^ 31) : rx_rem (nI a) (nI b) = some (nI (a % b)) := by
  unfold rx_rem
  rw [if_neg (nI_ne0 hb hb2), z_rem ha hb hb2]
theorem OK.mono {P B J J2 C t : Nat} {os op ow oe : ob} {g : Nat → Int32} (h : OK P B J C t os op ow oe g) (hJ : J ≤ J2) : OK P B J2 C t os op ow oe g := by
  obtain ⟨g2, qw, qe, h1, h2⟩ := h
  exact ⟨g2, qw, qe, h1.mono hJ, h2⟩
section ACTS
variable {P B J C t : Nat} {os op op2 ow oe oB om : ob} {oH : hst} {g g2 : Nat → Int32} {qw qe : List Nat}
theorem V_drop (h : RPos P B J os op ow oe g qw qe) (hx : XI P C g) (e0 : g 0 = nI t) {p n : Nat} (hp : p < P) (h1 : 1 ≤ n) (h9 : n ≤ 999) (h2 : nI n ≤ g (12 + 8 * p + 2)) : ∃ (v : Int32) (op2 : ob) (oH2 : hst), F_X8_dropCoins oB os op ow oe oH (nI p) (nI n) = some (v, op2, oH2) ∧ OK P B J C t os op2 ow oe g := by
  obtain ⟨oH2, a⟩ := P_allow (oB := oB) (oH := oH) h (z := 0) (x := nI p) (y := nI n) (by rw [FT_0 h hp, if_pos ⟨nI_le (a := 1) h1 (by omega), nI_le (b := 999) h9 (by omega)⟩, if_neg (Int32.not_lt.mpr h2)])
  obtain ⟨v, op2, d, ok⟩ := DO_0 h hx e0 hp (y := nI n) (by rw [nI_toInt (by omega)]; omega) h2
  exact ⟨v, op2, oH2, by simp only [F_X8_dropCoins, a, d, z_bsN], ok⟩
theorem V_pick (h : RPos P B J os op ow oe g qw qe) (hx : XI P C g) (e0 : g 0 = nI t) {p b n : Nat} (hp : p < P) (hb : b < 2) (eb : g (12 + 8 * p + 1) = nI b) (h1 : 1 ≤ n) (h9 : n ≤ 999) (h2 : nI n ≤ g (6 + b)) : ∃ (v : Int32) (op2 : ob) (oH2 : hst), F_X8_pickCoins oB os op ow oe oH (nI p) (nI n) = some (v, op2, oH2) ∧ OK P B J C t os op2 ow oe g := by
  have hg : z_gr g p = g (6 + b) := by
    unfold z_gr
    have : b = 0 ∨ b = 1 := by omega
    rcases this with rfl | rfl
    · rw [eb, if_neg (by decide)]
    · rw [eb, if_pos (show nI 1 = (1 : Int32) from rfl)]
  obtain ⟨oH2, a⟩ := P_allow (oB := oB) (oH := oH) h (z := 1) (x := nI p) (y := nI n) (by rw [FT_1 h hp, if_pos ⟨nI_le (a := 1) h1 (by omega), nI_le (b := 999) h9 (by omega)⟩, hg, if_neg (Int32.not_lt.mpr h2)])
  obtain ⟨v, op2, d, ok⟩ := DO_1 h hx e0 hp hb eb (y := nI n) (by rw [nI_toInt (by omega)]; omega) h2
  exact ⟨v, op2, oH2, by simp only [F_X8_pickCoins, a, d, z_bsN], ok⟩
theorem V_lay (h : RPos P B J os op ow oe g qw qe) (hx : XI P C g) (e0 : g 0 = nI t) {p q : Nat} (hp : p < P) (hq : q < P) (hk : g (12 + 8 * q) = 1) (hh : g (102 + 3 * q) = nI p) : ∃ (v : Int32) (op2 : ob) (oH2 : hst), F_X8_layRoyalCoin oB os op ow oe oH (nI p) (nI q) = some (v, op2, oH2) ∧ OK P B J C t os op2 ow oe g := by
  obtain ⟨oH2, a⟩ := P_allow (oB := oB) (oH := oH) h (z := 2) (x := nI p) (y := nI q) (by rw [FT_2 h hp hq, if_pos hk, if_pos hh])
  obtain ⟨v, op2, d, ok⟩ := DO_2 h hx e0 hp hq hk
  exact ⟨v, op2, oH2, by simp only [F_X8_layRoyalCoin, a, d, z_bsN], ok⟩
theorem V_lift (h : RPos P B J os op ow oe g qw qe) (hx : XI P C g) (e0 : g 0 = nI t) {p q : Nat} (hp : p < P) (hq : q < P) (hk : g (12 + 8 * q) = 1) (hh : g (102 + 3 * q) = -1) (hb : g (102 + 3 * q + 1) = g (12 + 8 * p + 1)) : ∃ (v : Int32) (op2 : ob) (oH2 : hst), F_X8_liftRoyalCoin oB os op ow oe oH (nI p) (nI q) = some (v, op2, oH2) ∧ OK P B J C t os op2 ow oe g := by
  obtain ⟨oH2, a⟩ := P_allow (oB := oB) (oH := oH) h (z := 3) (x := nI p) (y := nI q) (by rw [FT_3 h hp hq, if_pos hk, if_pos ⟨hh, hb⟩])
  obtain ⟨v, op2, d, ok⟩ := DO_3 h hx e0 hp hq hk
  exact ⟨v, op2, oH2, by simp only [F_X8_liftRoyalCoin, a, d, z_bsN], ok⟩
theorem V_swap (h : RPos P B J os op ow oe g qw qe) (hx : XI P C g) (e0 : g 0 = nI t) {p q : Nat} (hp : p < P) (hq : q < P) (hne : p ≠ q) (hb : g (12 + 8 * p + 1) = g (12 + 8 * q + 1)) : ∃ (v : Int32) (op2 : ob) (oH2 : hst), F_X8_swapRags oB os op ow oe oH (nI p) (nI q) = some (v, op2, oH2) ∧ OK P B J C t os op2 ow oe g := by
  obtain ⟨oH2, a⟩ := P_allow (oB := oB) (oH := oH) h (z := 4) (x := nI p) (y := nI q) (by rw [FT_4 h hp hq, if_pos hne, if_pos hb])
  obtain ⟨v, op2, d, ok⟩ := DO_4 h hx e0 hp hq hne
  exact ⟨v, op2, oH2, by simp only [F_X8_swapRags, a, d, z_bsN], ok⟩
theorem V_join (h : RPos P B J os op ow oe g qw qe) (hx : XI P C g) (e0 : g 0 = nI t) (hJ : J + 1 < 2 ^ 31) {p n : Nat} (hp : p < P) (hn : n ≤ 99) (hq : ¬ 0 < g (12 + 8 * p + 6)) : ∃ (v : Int32) (ow2 oe2 : ob) (oH2 : hst), F_X8_joinQueue oB os op ow oe oH (nI p) (nI n) = some (v, ow2, oe2, oH2) ∧ OK P B (J + 1) C t os op ow2 oe2 g := by
  have hy : 0 ≤ nI n ∧ nI n ≤ 99 := ⟨nI_pos' (by omega), nI_le (b := 99) hn (by omega)⟩
  obtain ⟨oH2, a⟩ := P_allow (oB := oB) (oH := oH) h (z := 5) (x := nI p) (y := nI n) (by rw [FT_5 h hp, if_pos hy, if_neg hq])
  obtain ⟨v, ow2, oe2, d, ok⟩ := DO_5 h hx e0 hJ hp hq hy
  exact ⟨v, ow2, oe2, oH2, by simp only [F_X8_joinQueue, a, d, z_bsN], ok⟩
theorem V_quit (h : RPos P B J os op ow oe g qw qe) (hx : XI P C g) (e0 : g 0 = nI t) {p : Nat} (hp : p < P) (hq : 0 < g (12 + 8 * p + 6)) : ∃ (v : Int32) (ow2 oe2 : ob) (oH2 : hst), F_X8_quitQueue oB os op ow oe oH (nI p) = some (v, ow2, oe2, oH2) ∧ OK P B J C t os op ow2 oe2 g := by
  obtain ⟨oH2, a⟩ := P_allow (oB := oB) (oH := oH) h (z := 6) (x := nI p) (y := 0) (by rw [FT_6 h hp, if_pos hq])
  obtain ⟨v, ow2, oe2, d, ok⟩ := DO_6 h hx e0 hp hq
  exact ⟨v, ow2, oe2, oH2, by simp only [F_X8_quitQueue, a, d, z_bsN], ok⟩
theorem V_pride (h : RPos P B J os op ow oe g qw qe) (hx : XI P C g) (e0 : g 0 = nI t) {p n : Nat} (hp : p < P) (hn : n ≤ 40) : ∃ (v : Int32) (op2 : ob) (oH2 : hst), F_X8_setPride oB os op ow oe oH (nI p) (nI n) = some (v, op2, oH2) ∧ OK P B J C t os op2 ow oe g := by
  obtain ⟨oH2, a⟩ := P_allow (oB := oB) (oH := oH) h (z := 7) (x := nI p) (y := nI n) (by rw [FT_7 h hp, if_pos ⟨nI_pos' (by omega), nI_le (b := 40) hn (by omega)⟩])
  obtain ⟨v, op2, d, ok⟩ := DO_7 h hx e0 hp (nI n)
  exact ⟨v, op2, oH2, by simp only [F_X8_setPride, a, d, z_bsN], ok⟩
theorem V_turns (h : RPos P B J os op ow oe g qw qe) (hx : XI P C g) (e0 : g 0 = nI t) (hJ : J + 200 < 2 ^ 31) {n : Nat} (h1 : 1 ≤ n) (hn : n ≤ 3) (ht : t + n ≤ 10000) : ∃ (v : Int32) (op2 ow2 oe2 : ob) (oH2 : hst), F_X8_passTurns oB os op ow oe oH (nI n) = some (v, op2, ow2, oe2, oH2) ∧ OK P B (J + 200) C (t + n) os op2 ow2 oe2 g := by
  obtain ⟨oH2, a⟩ := P_allow (oB := oB) (oH := oH) h (z := 8) (x := nI n) (y := 0) (by rw [FT_8 h, if_pos ⟨nI_le (a := 1) h1 (by omega), nI_le (b := 50) (by omega) (by omega)⟩, e0, nI_add, if_neg (show ¬ (10000 : Int32) < nI (t + n) from Int32.not_lt.mpr (nI_le (b := 10000) ht (by omega)))])
  obtain ⟨v, op3, ow3, oe3, g3, qw3, qe3, s1, s3, s4, s5, s6⟩ := SEV_p n 0 n 100000 t J op ow oe g qw qe 0 (by omega) (by omega) ht (by omega) (by omega) h hx e0
  have s1 : F_X2_passSeveral_4 os (nI n) 100000 op ow oe 0 0 = _ := s1
  exact ⟨v, op3, ow3, oe3, oH2, by simp only [F_X8_passTurns, F_X2_passSeveral, a, s1, z_bsN], g3, qw3, qe3, s3.mono (by omega), s5, s4, s6⟩
/-- a king at or behind a number -/
theorem A_king (h : RPos P B J os op ow oe g qw qe) (hm : om.1 3 = nI P) {b : Nat} (hb : b < P) : ∃ k : Nat, k < P ∧ F_L_king om oB os (nI b) = some (nI k) := by
  have hP := h.hP
  have key : ∀ (d j fu : Nat), j + d = P → d < fu → ∃ k : Nat, k < P ∧ F_L_king_2 om oB os (nI b) fu (nI j) = some (nI k) := by
    intro d
    induction d with
    | zero =>
      intro j fu hj hf
      obtain ⟨fu, rfl⟩ : ∃ n, fu = n + 1 := ⟨fu - 1, by omega⟩
      refine ⟨b, hb, ?_⟩
      simp only [F_L_king_2, hm]
      rw [if_pos (nI_le (by omega) (by omega))]
    | succ d ih =>
      intro j fu hj hf
      obtain ⟨fu, rfl⟩ : ∃ n, fu = n + 1 := ⟨fu - 1, by omega⟩
      have hr : rx_rem (nI b + nI j) (nI P) = some (nI ((b + j) % P)) := by rw [nI_add]; exact r_rem (by omega) (by omega) (by omega)
      have hl : (b + j) % P < P := Nat.mod_lt _ (by omega)
      obtain ⟨k, hk, e⟩ := ih (j + 1) fu (by omega) (by omega)
      simp only [F_L_king_2, hm]
      rw [if_neg (nI_ge (by omega) (by omega)), hr]
      simp only [z_bsN, V_isKing h hl]
      by_cases c : g (12 + 8 * ((b + j) % P)) = 1
      · exact ⟨_, hl, by simp [c]⟩
      · refine ⟨k, hk, ?_⟩
        simp only [c, if_false, if_true, nI_1]
        exact e
  exact key P 0 100000 (by omega) (by omega)
def AR (P B J C t : Nat) (os : ob) (g : Nat → Int32) (X : Option (Int32 × ob × ob × ob × hst)) : Prop := ∃ (r : Int32) (op2 ow2 oe2 : ob) (oH2 : hst), X = some (r, op2, ow2, oe2, oH2) ∧ ∃ t2 : Nat, t2 ≤ t + 3 ∧ OK P B (J + 200) C t2 os op2 ow2 oe2 g
theorem AR.same (h : RPos P B J os op ow oe g qw qe) (hx : XI P C g) (e0 : g 0 = nI t) {r : Int32} : AR P B J C t os g (some (r, op, ow, oe, oH)) := ⟨r, op, ow, oe, oH, rfl, t, by omega, g, qw, qe, h.mono (by omega), hx, e0, zD.refl⟩
theorem AR.two {J2 t2 : Nat} {op2 ow2 oe2 : ob} {oH2 : hst} {c : Prop} [Decidable c] (h : OK P B J2 C t2 os op2 ow2 oe2 g) (hJ : J2 ≤ J + 200) (ht : t2 ≤ t + 3) : AR P B J C t os g (if c then some (0, op2, ow2, oe2, oH2) else some (1, op2, ow2, oe2, oH2)) := by
  by_cases q : c
  · rw [if_pos q]; exact ⟨0, op2, ow2, oe2, oH2, rfl, t2, ht, h.mono hJ⟩
  · rw [if_neg q]; exact ⟨1, op2, ow2, oe2, oH2, rfl, t2, ht, h.mono hJ⟩
theorem z_nat {x : Int32} (h : ¬ x ≤ 0) (h9 : x.toInt ≤ 999) : ∃ m : Nat, 0 < m ∧ m ≤ 999 ∧ x = nI m := by
  obtain ⟨m, hm, rfl⟩ := nI_of2 (n := 999) (M := 999) (x := x) rfl (fun q => h (i_le.mpr (by have := i_lt.mp q; omega))) (i_le.mpr h9)
  refine ⟨m, Nat.pos_of_ne_zero fun q => h (by subst q; exact Int32.le_refl _), hm, rfl⟩
theorem A_acts (h : RPos P B J os op ow oe g qw qe) (hx : XI P C g) (e0 : g 0 = nI t) (ht : t ≤ 9000) (hJ : J + 200 < 2 ^ 31) (hm : om.1 3 = nI P) {c : Nat} (hc : c < 2 ^ 30) : AR P B J C t os g (F_L_acts om oB os op ow oe oH (nI c)) := by
  have hP := h.hP
  have d16 : nI c / 16 = nI (c / 16) := z_div (b := 16) (by omega) (by omega) (by omega)
  have h16 : c / 16 < 2 ^ 27 := by omega
  generalize c / 16 = v at d16 h16
  have d8 : nI v / 8 = nI (v / 8) := z_div (b := 8) (by omega) (by omega) (by omega)
  have d64 : nI v / 64 = nI (v / 64) := z_div (b := 64) (by omega) (by omega) (by omega)
  have h8 : v / 8 < 2 ^ 27 := by omega
  have h64 : v / 64 < 2 ^ 27 := by omega
  generalize v / 8 = v8 at d8 h8
  generalize v / 64 = v64 at d64 h64
  have ha : v % P < P := Nat.mod_lt _ (by omega)
  have ra : rx_rem (nI v) (nI P) = some (nI (v % P)) := r_rem (by omega) (by omega) (by omega)
  have rb : rx_rem (nI v8) (nI (P - 1)) = some (nI (v8 % (P - 1))) := r_rem (by omega) (by omega) (by omega)
  have hb0 : v8 % (P - 1) < P - 1 := Nat.mod_lt _ (by omega)
  have rc : rx_rem (nI (v % P) + 1 + nI (v8 % (P - 1))) (nI P) = some (nI ((v % P + 1 + v8 % (P - 1)) % P)) := by rw [nI_1, nI_add]; exact r_rem (by omega) (by omega) (by omega)
  have hb : (v % P + 1 + v8 % (P - 1)) % P < P := Nat.mod_lt _ (by omega)
  have hne : v % P ≠ (v % P + 1 + v8 % (P - 1)) % P := by
    generalize v % P = a at ha
    generalize v8 % (P - 1) = b at hb0
    by_cases q : a + 1 + b < P
    · rw [Nat.mod_eq_of_lt q]; omega
    · rw [Nat.mod_eq_sub_mod (by omega), Nat.mod_eq_of_lt (by omega)]; omega
  generalize (v % P + 1 + v8 % (P - 1)) % P = b at rc hb hne
  have r3 : nI v - nI v / 3 * 3 = nI (v % 3) := z_rem (b := 3) (by omega) (by omega) (by omega)
  generalize v % P = a at ra rc ha hne
  obtain ⟨q, hq, ek⟩ := A_king (oB := oB) h hm hb
  have s1 : nI P - 1 = nI (P - 1) := z_sub (b := 1) (by omega)
  simp only [F_L_acts, z_leN, hm, d16, d8, d64, ra, rb, rc, s1, z_bsN, ek]
  generalize nI c - nI c / 13 * 13 = w
  have hl := hx.1.le ha
  have h5 := hx.1.1
  have i1 : ∀ n : Nat, (1 : Int32) + nI n = nI (1 + n) := fun n => nI_add 1 n
  by_cases w0 : w = (0 : Int32)
  · rw [if_pos w0]
    -- dropCoins
    simp only [V_coins h ha, z_bsN]
    by_cases c1 : g (12 + 8 * a + 2) ≤ 0
    · rw [if_pos c1]; exact AR.same h hx e0
    · rw [if_neg c1]
      obtain ⟨m, m0, m9, em⟩ := z_nat c1 (by omega)
      have hr : v64 % m < m := Nat.mod_lt _ m0
      obtain ⟨w1, op2, oH2, e1, ok⟩ := V_drop (oB := oB) (oH := oH) h hx e0 ha (n := 1 + v64 % m) (by omega) (by omega) (by rw [em]; exact nI_le (by omega) (by omega))
      rw [em, r_rem (by omega) m0 (by omega)]
      simp only [z_bsN, i1, e1]
      exact AR.two ok (by omega) (by omega)
  rw [if_neg w0]
  by_cases w1 : w = (1 : Int32)
  · rw [if_pos w1]
    -- pickCoins
    obtain ⟨bb, hbb, eb⟩ := C_b01 h ha
    have hg9 : (g (6 + bb)).toInt ≤ 999 := by
      have : bb = 0 ∨ bb = 1 := by omega
      rcases this with rfl | rfl
      · have := hl.2.2.1; show (g 6).toInt ≤ 999; omega
      · have := hl.2.2.2; show (g 7).toInt ≤ 999; omega
    simp only [V_east h ha, z_bsN, eb, V_ground h hbb]
    by_cases c1 : g (6 + bb) ≤ 0
    · rw [if_pos c1]; exact AR.same h hx e0
    · rw [if_neg c1]
      obtain ⟨m, m0, m9, em⟩ := z_nat c1 hg9
      have hr : v64 % m < m := Nat.mod_lt _ m0
      obtain ⟨w1, op2, oH2, e1, ok⟩ := V_pick (oB := oB) (oH := oH) h hx e0 ha hbb eb (n := 1 + v64 % m) (by omega) (by omega) (by rw [em]; exact nI_le (by omega) (by omega))
      rw [em, r_rem (by omega) m0 (by omega)]
      simp only [z_bsN, i1, e1]
      exact AR.two ok (by omega) (by omega)
  rw [if_neg w1]
  by_cases w2 : w = (2 : Int32)
  · rw [if_pos w2]
    -- layRoyalCoin
    simp only [V_isKing h hq, z_bsN]
    by_cases k1 : g (12 + 8 * q) = 1
    · simp only [k1, if_true, V_holder h hq k1, z_bsN]
      rw [if_neg (by decide)]
      by_cases c1 : g (102 + 3 * q) = nI a
      · rw [if_pos c1]
        obtain ⟨w1, op2, oH2, e1, ok⟩ := V_lay (oB := oB) (oH := oH) h hx e0 ha hq k1 c1
        simp only [e1, z_bsN]
        exact AR.two ok (by omega) (by omega)
      · rw [if_neg c1]; exact AR.same h hx e0
    · simp only [k1, if_false, if_true]; exact AR.same h hx e0
  rw [if_neg w2]
  by_cases w3 : w = (3 : Int32)
  · rw [if_pos w3]
    -- liftRoyalCoin
    simp only [V_isKing h hq, z_bsN]
    by_cases k1 : g (12 + 8 * q) = 1
    · simp only [k1, if_true, V_holder h hq k1, z_bsN]
      rw [if_neg (by decide)]
      by_cases c1 : g (102 + 3 * q) = -1
      · rw [if_pos c1, V_reG h hq k1 c1, z_bsN, V_east h ha, z_bsN]
        by_cases c2 : g (102 + 3 * q + 1) = g (12 + 8 * a + 1)
        · rw [if_pos c2]
          obtain ⟨w1, op2, oH2, e1, ok⟩ := V_lift (oB := oB) (oH := oH) h hx e0 ha hq k1 c1 c2
          simp only [e1, z_bsN]
          exact AR.two ok (by omega) (by omega)
        · rw [if_neg c2]; exact AR.same h hx e0
      · rw [if_neg c1]; exact AR.same h hx e0
    · simp only [k1, if_false, if_true]; exact AR.same h hx e0
  rw [if_neg w3]
  by_cases w4 : w = (4 : Int32)
  · rw [if_pos w4]
    -- swapRags
    simp only [V_east h ha, V_east h hb, z_bsN]
    by_cases c1 : g (12 + 8 * a + 1) = g (12 + 8 * b + 1)
    · rw [if_pos c1]
      obtain ⟨w1, op2, oH2, e1, ok⟩ := V_swap (oB := oB) (oH := oH) h hx e0 ha hb hne c1
      simp only [e1, z_bsN]
      exact AR.two ok (by omega) (by omega)
    · rw [if_neg c1]; exact AR.same h hx e0
  rw [if_neg w4]
  have hjoin : ∀ r : Nat, r < 6 → AR P B J C t os g (if g (12 + 8 * a + 6) - 1 = (-1 : Int32) then ((F_X8_joinQueue oB os op ow oe oH (nI a) (nI r)).bind fun y48 => if y48.1 < (0 : Int32) then (some ((0 : Int32), op, y48.2.1, y48.2.2.1, y48.2.2.2)) else (some ((1 : Int32), op, y48.2.1, y48.2.2.1, y48.2.2.2))) else (some ((0 : Int32), op, ow, oe, oH))) := by
    intro r hr
    by_cases c1 : g (12 + 8 * a + 6) - 1 = (-1 : Int32)
    · rw [if_pos c1]
      obtain ⟨w1, ow2, oe2, oH2, e1, ok⟩ := V_join (oB := oB) (oH := oH) h hx e0 (by omega) ha (n := r) (by omega) ((C_nq h ha).mp c1)
      simp only [e1, z_bsN]
      exact AR.two ok (by omega) (by omega)
    · rw [if_neg c1]; exact AR.same h hx e0
  have r6 : nI v64 - nI v64 / 6 * 6 = nI (v64 % 6) := z_rem (b := 6) (by omega) (by omega) (by omega)
  have r41 : nI v64 - nI v64 / 41 * 41 = nI (v64 % 41) := z_rem (b := 41) (by omega) (by omega) (by omega)
  by_cases w5 : w = (5 : Int32)
  · rw [if_pos w5]
    simp only [V_offer h ha, z_bsN, r6]; exact hjoin _ (Nat.mod_lt _ (by omega))
  rw [if_neg w5]
  by_cases w6 : w = (6 : Int32)
  · rw [if_pos w6]
    simp only [V_offer h ha, z_bsN, r6]; exact hjoin _ (Nat.mod_lt _ (by omega))
  rw [if_neg w6]
  by_cases w7 : w = (7 : Int32)
  · rw [if_pos w7]
    simp only [V_offer h ha, z_bsN, r6]; exact hjoin _ (Nat.mod_lt _ (by omega))
  rw [if_neg w7]
  by_cases w8 : w = (8 : Int32)
  · rw [if_pos w8]
    -- quitQueue
    simp only [V_offer h ha, z_bsN]
    have hof := h.of ha
    by_cases c1 : g (12 + 8 * a + 6) - 1 < (0 : Int32)
    · rw [if_pos c1]; exact AR.same h hx e0
    · rw [if_neg c1]
      obtain ⟨w1, ow2, oe2, oH2, e1, ok⟩ := V_quit (oB := oB) (oH := oH) h hx e0 ha (by grind)
      simp only [e1, z_bsN]
      exact AR.two ok (by omega) (by omega)
  rw [if_neg w8]
  by_cases w9 : w = (9 : Int32)
  · rw [if_pos w9]
    -- setPride
    obtain ⟨w1, op2, oH2, e1, ok⟩ := V_pride (oB := oB) (oH := oH) h hx e0 ha (n := v64 % 41) (by have := Nat.mod_lt v64 (show 0 < 41 by omega); omega)
    simp only [r41, e1, z_bsN]
    exact AR.two ok (by omega) (by omega)
  rw [if_neg w9]
  · -- passTurns
    have h3 : v % 3 < 3 := Nat.mod_lt _ (by omega)
    obtain ⟨w1, op2, ow2, oe2, oH2, e1, ok⟩ := V_turns (oB := oB) (oH := oH) h hx e0 hJ (n := 1 + v % 3) (by omega) (by omega) (by omega)
    simp only [r3, i1, e1, z_bsN]
    exact AR.two ok (by omega) (by omega)
end ACTS
