/-! What the law reads behind each act. -/
theorem i_inj {x y : Int32} (h : x.toInt = y.toInt) : x = y := Int32.toInt_inj.mp h
theorem zSI_mono {f f2 : Nat → Int32} {n : Nat} (h : ∀ k : Nat, k < n → (f k).toInt ≤ (f2 k).toInt) : zSI f n ≤ zSI f2 n := by
  induction n with
  | zero => exact Int.le_refl _
  | succ n ih =>
    have := ih (fun k hk => h k (by omega))
    have := h n (by omega)
    rw [zSI, zSI]; omega
theorem zSI_lt {f f2 : Nat → Int32} {n p : Nat} (hp : p < n) (h : ∀ k : Nat, k < n → (f k).toInt ≤ (f2 k).toInt) (h1 : (f p).toInt < (f2 p).toInt) : zSI f n < zSI f2 n := by
  induction n with
  | zero => omega
  | succ n ih =>
    rw [zSI, zSI]
    by_cases e : p = n
    · subst e
      have := zSI_mono (n := p) (fun k hk => h k (by omega))
      omega
    · have := ih (by omega) (fun k hk => h k (by omega))
      have := h n (by omega)
      omega
theorem zSI_up {f : Nat → Int32} {n : Nat} {M : Int} (h : ∀ k : Nat, k < n → (f k).toInt ≤ M) : zSI f n ≤ M * n := by
  induction n with
  | zero => show (0 : Int) ≤ _; omega
  | succ n ih =>
    have := ih (fun k hk => h k (by omega))
    have := h n (by omega)
    rw [zSI, show ((n + 1 : Nat) : Int) = n + 1 from rfl, Int.mul_add, Int.mul_one]; omega
/-- the sum of the counted cells, the sum of the crossings -/
def cnt (P : Nat) (g : Nat → Int32) : Int32 := z_su 0 (fun k => if g (12 + 8 * k) = 1 then g (102 + 3 * k + 2) else 0) P
def crs (P : Nat) (g : Nat → Int32) : Int32 := z_su 0 (fun k => g (12 + 8 * k + 5)) P
section READ3
variable {P B J J2 C t : Nat} {os op op2 ow oe oB om : ob} {oH : hst} {g g2 : Nat → Int32} {qw qe qw2 qe2 : List Nat}
theorem sumC (hx : XI P C g) : z_su (g 5 + g 6 + g 7) (fun k => g (12 + 8 * k + 2)) P = nI C := by
  obtain ⟨⟨a1, a2, a3⟩, b, c, d, e⟩ := hx.1
  have hn := zSI_nn (f := fun p => g (12 + 8 * p + 2)) (n := P) b
  have e1 : (g 5 + g 6).toInt = (g 5).toInt + (g 6).toInt := i_add (by omega) (by omega)
  have e2 : (g 5 + g 6 + g 7).toInt = (g 5).toInt + (g 6).toInt + (g 7).toInt := by rw [i_add (by omega) (by omega), e1]
  refine i_inj ?_
  rw [z_suI b (by omega) (by omega), nI_toInt (by omega)]
  omega
theorem A_coins (h : RPos P B J os op ow oe g qw qe) (hx : XI P C g) (hm : om.1 3 = nI P) : F_L_coins om oB os op = some (nI C) := by
  have hP := h.hP
  have hb : F_X8_tollBox oB op = some (g 5) := by rw [F_X8_tollBox, h.2.2.1.1.2.2.1]
  have h0 : F_X8_groundCoins oB op 0 = some (g 6) := V_ground h (b := 0) (by omega)
  have h1 : F_X8_groundCoins oB op 1 = some (g 7) := V_ground h (b := 1) (by omega)
  have h9 := z_for P (fun fu k (s : Int32) => F_L_coins_19 om oB os op fu s (nI k)) (fun k => z_su (g 5 + g 6 + g 7) (fun k => g (12 + 8 * k + 2)) k) (r := some (z_su (g 5 + g 6 + g 7) (fun k => g (12 + 8 * k + 2)) P, nI P)) (by
    intro fu k hk
    show F_L_coins_19 om oB os op (fu + 1) (z_su (g 5 + g 6 + g 7) (fun k => g (12 + 8 * k + 2)) k) (nI k) = F_L_coins_19 om oB os op fu (z_su (g 5 + g 6 + g 7) (fun k => g (12 + 8 * k + 2)) (k + 1)) (nI (k + 1))
    simp only [F_L_coins_19, hm, V_coins h hk, z_bsN, z_leN, nI_1]
    rw [z_ig hk (by omega)]
    rfl) (by
    intro fu
    show F_L_coins_19 om oB os op (fu + 1) (z_su (g 5 + g 6 + g 7) (fun k => g (12 + 8 * k + 2)) P) (nI P) = _
    simp only [F_L_coins_19, hm]
    rw [z_il (Nat.le_refl _) (by omega)]) 100000 (by omega) 0 (by omega)
  have h9 : F_L_coins_19 om oB os op 100000 (g 5 + g 6 + g 7) 0 = _ := h9
  simp only [F_L_coins, hb, h0, h1, z_bsN, z_leN, h9, sumC hx]
theorem A_gap (h : RPos P B J os op ow oe g qw qe) (hx : XI P C g) : F_X8_coinGap oB os op = some 0 := by
  have hs : z_su 0 (os.2 8) P = nI C := by
    rw [← hx.1.2.2.2.2, ← h.2.1.2.2.2]
    have : ∀ n, z_su 0 (os.2 8) n = z_sum (os.2 8) n := by
      intro n
      induction n with
      | zero => rfl
      | succ n ih => rw [z_su, z_sum, ih]
    exact this P
  simp only [F_X8_coinGap, C_coins h, C_coinsS h, z_bsN, z_leN, hs, sumC hx]
  rw [Int32.sub_self]
  rfl
theorem A_counted (h : RPos P B J os op ow oe g qw qe) : F_X8_countedRoyalCoins oB os op = some (cnt P g) := by
  simp only [F_X8_countedRoyalCoins, C_count h, z_bsN, cnt]
theorem A_crossed (h : RPos P B J os op ow oe g qw qe) (hm : om.1 3 = nI P) : F_L_crossed om oB os op = some (crs P g) := by
  have hP := h.hP
  have hc : ∀ k : Nat, k < P → F_X8_crossings oB os op (nI k) = some (g (12 + 8 * k + 5)) := fun k hk => by
    simp only [F_X8_crossings, C_rp h hk, z_bsN]
    rw [z_at (by omega) (by omega), h.cr hk]
  have h9 := z_for P (fun fu k (s : Int32) => F_L_crossed_4 om oB os op fu s (nI k)) (fun k => z_su 0 (fun k => g (12 + 8 * k + 5)) k) (r := some (z_su 0 (fun k => g (12 + 8 * k + 5)) P, nI P)) (by
    intro fu k hk
    show F_L_crossed_4 om oB os op (fu + 1) (z_su 0 (fun k => g (12 + 8 * k + 5)) k) (nI k) = F_L_crossed_4 om oB os op fu (z_su 0 (fun k => g (12 + 8 * k + 5)) (k + 1)) (nI (k + 1))
    simp only [F_L_crossed_4, hm, hc k hk, z_bsN, z_leN, nI_1]
    rw [z_ig hk (by omega)]
    rfl) (by
    intro fu
    show F_L_crossed_4 om oB os op (fu + 1) (z_su 0 (fun k => g (12 + 8 * k + 5)) P) (nI P) = _
    simp only [F_L_crossed_4, hm]
    rw [z_il (Nat.le_refl _) (by omega)]) 100000 (by omega) 0 (by omega)
  have h9 : F_L_crossed_4 om oB os op 100000 0 0 = _ := h9
  simp only [F_L_crossed, h9, z_bsN, crs]
theorem cntI (h : okG P B J g) : (∀ k : Nat, k < P → 0 ≤ (if g (12 + 8 * k) = 1 then g (102 + 3 * k + 2) else 0).toInt ∧ (if g (12 + 8 * k) = 1 then g (102 + 3 * k + 2) else 0).toInt ≤ 1) := by
  intro k hk
  split
  · rcases (h.2.2.2.2.2.2.1 k hk).2.2 with e | e <;> rw [e] <;> exact ⟨by decide, by decide⟩
  · exact ⟨by decide, by decide⟩
/-- what the law asks of the counted coins -/
theorem A_step (h : okG P B J g) (h2 : okG P B J2 g2) (hJ : J ≤ 100000) (hJ2 : J2 ≤ 100000) (hd : zD P g g2) : ¬ cnt P g2 < cnt P g ∧ (cnt P g2 ≤ cnt P g ∨ ¬ crs P g2 = crs P g) := by
  have hP := h.1.1
  have c1 := cntI h
  have c2 := cntI h2
  have n1 := zSI_nn (f := fun k => if g (12 + 8 * k) = 1 then g (102 + 3 * k + 2) else 0) (n := P) (fun k hk => (c1 k hk).1)
  have n2 := zSI_nn (f := fun k => if g2 (12 + 8 * k) = 1 then g2 (102 + 3 * k + 2) else 0) (n := P) (fun k hk => (c2 k hk).1)
  have u1 := zSI_up (f := fun k => if g (12 + 8 * k) = 1 then g (102 + 3 * k + 2) else 0) (n := P) (fun k hk => (c1 k hk).2)
  have u2 := zSI_up (f := fun k => if g2 (12 + 8 * k) = 1 then g2 (102 + 3 * k + 2) else 0) (n := P) (fun k hk => (c2 k hk).2)
  have e1 : (cnt P g).toInt = _ := z_suI (s := 0) (fun k hk => (c1 k hk).1) (by decide) (by rw [i_0]; omega)
  have e2 : (cnt P g2).toInt = _ := z_suI (s := 0) (fun k hk => (c2 k hk).1) (by decide) (by rw [i_0]; omega)
  have hmono := zSI_mono (f := fun k => if g (12 + 8 * k) = 1 then g (102 + 3 * k + 2) else 0) (f2 := fun k => if g2 (12 + 8 * k) = 1 then g2 (102 + 3 * k + 2) else 0) (n := P) (fun k hk => by
    rw [hd.2.1 k hk]
    by_cases q : g (12 + 8 * k) = 1
    · rw [if_pos q, if_pos q]
      rcases (h.2.2.2.2.2.2.1 k hk).2.2 with e | e
      · rw [e]
        rcases (h2.2.2.2.2.2.2.1 k hk).2.2 with e | e <;> rw [e] <;> decide
      · rw [e, hd.2.2.1 k hk e]; exact Int.le_refl _
    · rw [if_neg q, if_neg q]; exact Int.le_refl _)
  rw [i_0] at e1 e2
  refine ⟨fun q => ?_, ?_⟩
  · have := i_lt.mp q; omega
  · rcases hd.2.2.2 with a | ⟨p, hp, a⟩
    · refine Or.inl (Int32.le_of_eq ?_)
      exact z_su_congr fun k hk => by rw [hd.2.1 k hk, a k hk]
    · refine Or.inr fun q => ?_
      obtain ⟨_, _, _, b1⟩ := h.2.1
      obtain ⟨_, _, _, b2⟩ := h2.2.1
      have d1 : ∀ k : Nat, k < P → 0 ≤ (g (12 + 8 * k + 5)).toInt ∧ (g (12 + 8 * k + 5)).toInt ≤ 100000 := fun k hk => by
        obtain ⟨n, hn, en⟩ := b1 k hk
        rw [en, nI_toInt (by omega)]; omega
      have d2 : ∀ k : Nat, k < P → 0 ≤ (g2 (12 + 8 * k + 5)).toInt ∧ (g2 (12 + 8 * k + 5)).toInt ≤ 100000 := fun k hk => by
        obtain ⟨n, hn, en⟩ := b2 k hk
        rw [en, nI_toInt (by omega)]; omega
      have s1 := zSI_up (f := fun k => g (12 + 8 * k + 5)) (n := P) (fun k hk => (d1 k hk).2)
      have s2 := zSI_up (f := fun k => g2 (12 + 8 * k + 5)) (n := P) (fun k hk => (d2 k hk).2)
      have f1 : (crs P g).toInt = _ := z_suI (s := 0) (fun k hk => (d1 k hk).1) (by decide) (by rw [i_0]; omega)
      have f2 : (crs P g2).toInt = _ := z_suI (s := 0) (fun k hk => (d2 k hk).1) (by decide) (by rw [i_0]; omega)
      have l1 := zSI_lt (f := fun k => g (12 + 8 * k + 5)) (f2 := fun k => g2 (12 + 8 * k + 5)) hp (fun k hk => i_le.mp (hd.1 k hk)) (i_lt.mp a)
      rw [q] at f2
      omega
/-- the queues, as the law reads them -/
theorem Q0 (h : RPos P B J os op ow oe g qw qe) : F_X8_queueLength oB op ow oe 0 = some (nI qw.length) ∧ (∀ (i : Nat) (hi : i < qw.length), F_X8_queued oB op ow oe 0 (nI i) = some (nI qw[i])) ∧ ∀ x : Int32, x < 0 ∨ nI qw.length ≤ x → F_X8_queued oB op ow oe 0 x = some (-1) := by
  have hP := h.hP
  have e : F_X8_bankOf 0 = some 0 := rfl
  refine ⟨?_, fun i hi => ?_, fun x hx => ?_⟩
  · simp only [F_X8_queueLength, e, z_bsN]
    rw [if_neg (by decide), h.hqw.2.1]
  · simp only [F_X8_queued, e, z_bsN]
    rw [if_neg (by decide), C_person hP.2 h.hqw hi]
    rfl
  · simp only [F_X8_queued, e, z_bsN]
    rw [if_neg (by decide), C_personO h.hqw hx]
    rfl
theorem Q1 (h : RPos P B J os op ow oe g qw qe) : F_X8_queueLength oB op ow oe 1 = some (nI qe.length) ∧ (∀ (i : Nat) (hi : i < qe.length), F_X8_queued oB op ow oe 1 (nI i) = some (nI qe[i])) ∧ ∀ x : Int32, x < 0 ∨ nI qe.length ≤ x → F_X8_queued oB op ow oe 1 x = some (-1) := by
  have hP := h.hP
  have e : F_X8_bankOf 1 = some 1 := rfl
  refine ⟨?_, fun i hi => ?_, fun x hx => ?_⟩
  · simp only [F_X8_queueLength, e, z_bsN]
    rw [if_pos trivial, h.hqe.2.1]
  · simp only [F_X8_queued, e, z_bsN]
    rw [if_pos trivial, C_person hP.2 h.hqe hi]
    rfl
  · simp only [F_X8_queued, e, z_bsN]
    rw [if_pos trivial, C_personO h.hqe hx]
    rfl
theorem A_ordered (h : RPos P B J os op ow oe g qw qe) (hm : om.1 3 = nI P) {e : Int32} {o : ob} {q : List Nat} (hq : RQ P o g e q) (hQ : F_X8_queueLength oB op ow oe e = some (nI q.length) ∧ (∀ (i : Nat) (hi : i < q.length), F_X8_queued oB op ow oe e (nI i) = some (nI q[i])) ∧ ∀ x : Int32, x < 0 ∨ nI q.length ≤ x → F_X8_queued oB op ow oe e x = some (-1)) : F_L_isOrdered om oB os op ow oe e = some 1 := by
  have hP := h.hP
  have hlen := hq.1.len
  have hlP := hq.1.lenP
  have hof : ∀ k : Nat, k < P → (g (12 + 8 * k + 6) - 1 < 0 ↔ ¬ 0 < g (12 + 8 * k + 6)) := fun k hk => by
    have := h.of hk
    have h100 : (100 : Int32).toInt = 100 := rfl
    have h1 : (1 : Int32).toInt = 1 := rfl
    have a1 := i_le.mp this.1
    have a2 := i_le.mp this.2
    rw [i_0] at a1
    rw [i_lt, i_lt, i_sub (by omega) (by omega), i_0]
    omega
  have h9 := z_for P (fun fu k (s : Int32) => F_L_isOrdered_5 om oB os op ow oe e fu s (nI k)) (fun k => nI (z_cnt (z_lof g e) k)) (r := some (nI q.length, nI P)) (by
    intro fu k hk
    show F_L_isOrdered_5 om oB os op ow oe e (fu + 1) (nI (z_cnt (z_lof g e) k)) (nI k) = F_L_isOrdered_5 om oB os op ow oe e fu (nI (z_cnt (z_lof g e) (k + 1))) (nI (k + 1))
    simp only [F_L_isOrdered_5, hm, V_offer h hk, V_east h hk, z_bsN, z_leN, nI_1]
    rw [z_ig hk (by omega), z_cnt]
    by_cases c : 0 < g (12 + 8 * k + 6)
    · rw [if_neg (fun z => (hof k hk).mp z c)]
      by_cases c2 : g (12 + 8 * k + 1) = e
      · rw [if_pos c2, if_pos (by simp [z_lof, z_qd, c, c2])]
      · rw [if_neg c2, if_neg (by simp [z_lof, z_qd, c2]), Int32.add_zero]; rfl
    · rw [if_pos ((hof k hk).mpr c), if_neg (by simp [z_lof, z_qd, c]), Int32.add_zero]; rfl) (by
    intro fu
    show F_L_isOrdered_5 om oB os op ow oe e (fu + 1) (nI (z_cnt (z_lof g e) P)) (nI P) = _
    simp only [F_L_isOrdered_5, hm]
    rw [z_il (Nat.le_refl _) (by omega), hlen]) 100000 (by omega) 0 (by omega)
  have h9 : F_L_isOrdered_5 om oB os op ow oe e 100000 0 0 = _ := h9
  have hpw := List.pairwise_iff_getElem.mp hq.1.2
  have h8 := z_for q.length (fun fu k (_ : Unit) => F_L_isOrdered_81 om oB os op ow oe e (nI q.length) fu (nI k)) (fun _ => ()) (r := some (1 : Int32)) (by
    intro fu k hk
    show F_L_isOrdered_81 om oB os op ow oe e (nI q.length) (fu + 1) (nI k) = F_L_isOrdered_81 om oB os op ow oe e (nI q.length) fu (nI (k + 1))
    have hat := hq.1.at hk
    have hbk := hq.1.bank hk
    have ho := fun z => (hof _ hat.1).mp z hbk.2
    simp only [F_L_isOrdered_81]
    rw [z_ig hk (by omega), hQ.2.1 k hk, z_bsN, V_east h hat.1, z_bsN, if_pos hbk.1, V_offer h hat.1, z_bsN, if_pos (Int32.not_lt.mp ho)]
    cases k with
    | zero => rw [if_pos (show nI 0 ≤ (0 : Int32) from Int32.le_refl _), nI_1]
    | succ k =>
      have hat2 := hq.1.at (show k < q.length by omega)
      rw [if_neg (nI_nle (by omega) (by omega)), nI_pred, z_bsN, hQ.2.1 k (by omega), z_bsN, V_offer h hat2.1, z_bsN, nI_1, if_pos]
      have h3 := hpw k (k + 1) (by omega) hk (by omega)
      simp only [z_ah, Bool.or_eq_true, Bool.and_eq_true, decide_eq_true_eq] at h3
      have b1 := h.of hat.1
      have b2 := h.of hat2.1
      have h100 : (100 : Int32).toInt = 100 := rfl
      have h1 : (1 : Int32).toInt = 1 := rfl
      have a1 := i_le.mp b1.1
      have a2 := i_le.mp b1.2
      have a3 := i_le.mp b2.1
      have a4 := i_le.mp b2.2
      rw [i_0] at a1 a3
      rw [i_le, i_sub (by omega) (by omega), i_sub (by omega) (by omega)]
      rcases h3 with z | z
      · have := i_lt.mp z; omega
      · rw [z.1]; omega) (by
    intro fu
    show F_L_isOrdered_81 om oB os op ow oe e (nI q.length) (fu + 1) (nI q.length) = _
    simp only [F_L_isOrdered_81]
    rw [z_il (Nat.le_refl _) (by omega)]) 100000 (by omega) 0 (by omega)
  have h8 : F_L_isOrdered_81 om oB os op ow oe e (nI q.length) 100000 0 = _ := h8
  simp only [F_L_isOrdered, h9, hQ.1, z_bsN, if_true, hQ.2.2 (nI q.length) (Or.inr (Int32.le_refl _)), hQ.2.2 (-1) (Or.inl (by decide)), z_leN, h8]
end READ3
