/-! The law loads its game. -/
def AllM (L : List Nat) : Prop := ∀ x : Nat, x ∈ L → x < 256
theorem AllM.app {L M : List Nat} (h : AllM L) (h2 : AllM M) : AllM (L ++ M) := fun x hx => by
  rcases List.mem_append.mp hx with q | q
  · exact h x q
  · exact h2 x q
theorem AllM.B {L : List Nat} (h : AllM L) : AllB L := fun j => by
  unfold ch
  split
  · rename_i hj
    rw [List.getD, List.getElem?_eq_getElem hj]
    exact h _ (List.getElem_mem hj)
  · omega
theorem AllM.wd : ∀ t : Nat, t < 10 → AllM (Wd t) := by
  have h : ∀ t : Nat, t < 10 → (Wd t).all (fun x => decide (x < 256)) = true := by decide +kernel
  exact fun t ht x hx => of_decide_eq_true (List.all_eq_true.mp (h t ht) x hx)
theorem AllM.num {v : Nat} (h : v < 100) : AllM (numL v) := fun x hx => by
  unfold numL at hx
  split at hx
  · simp only [List.mem_cons, List.not_mem_nil, or_false] at hx; omega
  · simp only [List.mem_cons, List.not_mem_nil, or_false] at hx; omega
theorem AllM.nil : AllM [] := fun x hx => by cases hx
theorem persX_app (q : psn) (R : List Nat) : persX q R = persX q [] ++ R := by
  simp only [persX, List.append_assoc, List.cons_append, List.nil_append]
theorem brX_app (q : brg) (R : List Nat) : brX q R = brX q [] ++ R := by
  simp only [brX, List.append_assoc, List.cons_append, List.nil_append]
theorem tplX_app (qs : List psn) (R : List Nat) : tplX qs R = tplX qs [] ++ R := by
  induction qs with
  | nil => rfl
  | cons q qs ih => rw [tplX, tplX, ih, persX_app, persX_app q (tplX qs []), List.append_assoc]
theorem persX_ok {q : psn} (h : okp q) : (persX q []).length ≤ 21 ∧ AllM (persX q []) := by
  obtain ⟨q1, q2, q3, q4, q5⟩ := h
  have k1 := wKing_lt (q := q)
  have k2 := wBank_lt (q := q)
  have a1 := (Wd_chr (wKing q) k1.1 (by omega)).2.1
  have a2 := (Wd_chr (wBank q) k2.1 (by omega)).2.1
  have a3 := numL_le (v := q.2.2.1)
  have a4 := numL_le (v := q.2.2.2.1)
  have a5 := numL_le (v := q.2.2.2.2)
  have a6 : (Wd (wBank q)).length ≤ 4 := by rcases k2.2.2 with e | e <;> rw [e] <;> decide
  refine ⟨?_, ?_⟩
  · simp only [persX, List.length_append, List.length_cons, List.length_nil]; omega
  · exact (AllM.wd _ (by omega)).app ((AllM.app (L := [32]) (fun x hx => by simp only [List.mem_cons, List.not_mem_nil, or_false] at hx; omega) ((AllM.wd _ (by omega)).app ((AllM.num (by omega)).app ((AllM.num (by omega)).app ((AllM.num (by omega)).app (fun x hx => by simp only [List.mem_cons, List.not_mem_nil, or_false] at hx; omega)))))))
theorem brX_ok {q : brg} (h : okb q) : (brX q []).length ≤ 16 ∧ AllM (brX q []) := by
  obtain ⟨⟨q1, q2⟩, q3, q4, q5⟩ := h
  have a3 := numL_le (v := q.1)
  have a4 := numL_le (v := q.2.1)
  have a5 := numL_le (v := q.2.2)
  have a6 : (Wd 6).length = 6 := rfl
  refine ⟨?_, ?_⟩
  · simp only [brX, List.length_append, List.length_cons, List.length_nil]; omega
  · exact (AllM.wd _ (by omega)).app ((AllM.num (by omega)).app ((AllM.num (by omega)).app ((AllM.num (by omega)).app (fun x hx => by simp only [List.mem_cons, List.not_mem_nil, or_false] at hx; omega))))
section LOADS
variable {k : Nat → Nat} {om oB ot od os op ow oe : ob} {oH : hst} {y1 : Int32} {P B : Nat} {L : List Nat}
/-- three numbers and a semicolon -/
theorem L_three {a b c : Nat} (ha : a < 100) (hb : b < 100) (hc : c < 100) (h : WT om L) (hl : L.length + 10 ≤ 500) : ∃ o1 o2 o3 o4 : ob, F_L_number om (nI a) = some o1 ∧ F_L_number o1 (nI b) = some o2 ∧ F_L_number o2 (nI c) = some o3 ∧ F_L_writes o3 7 = some o4 ∧ WT o4 (L ++ (numL a ++ (numL b ++ (numL c ++ 59 :: [])))) ∧ KP om o4 := by
  have l1 := numL_le (v := a)
  have l2 := numL_le (v := b)
  have l3 := numL_le (v := c)
  obtain ⟨o1, e1, w1, k1⟩ := L_number ha h (by omega)
  obtain ⟨o2, e2, w2, k2⟩ := L_number hb w1 (by rw [List.length_append]; omega)
  obtain ⟨o3, e3, w3, k3⟩ := L_number hc w2 (by rw [List.length_append, List.length_append]; omega)
  obtain ⟨o4, e4, w4, k4⟩ := L_writes (t := 7) (by omega) (by omega) w3 (by rw [List.length_append, List.length_append, List.length_append, show (Wd 7).length = 1 from rfl]; omega)
  refine ⟨o1, o2, o3, o4, e1, e2, e3, e4, ?_, k1.trans (k2.trans (k3.trans k4))⟩
  have : L ++ numL a ++ numL b ++ numL c ++ Wd 7 = L ++ (numL a ++ (numL b ++ (numL c ++ 59 :: []))) := by
    rw [show Wd 7 = 59 :: [] from rfl]
    simp only [List.append_assoc]
  rw [← this]; exact w4
theorem m_rem {v m : Nat} (M : Int32) (hM : M = nI m) (hv : v < 2 ^ 31) (h0 : 0 < m) (h1 : m < 2 ^ 31) : nI v - nI v / M * M = nI (v % m) := by
  subst hM
  exact z_rem hv h0 h1
theorem m_div {v m : Nat} (M : Int32) (hM : M = nI m) (hv : v < 2 ^ 31) (h0 : 0 < m) (h1 : m < 2 ^ 31) : nI v / M = nI (v / m) := by
  subst hM
  exact z_div hv h0 h1
theorem m_0 {v : Nat} (h : v < 2 ^ 31) : (nI v = (0 : Int32)) ↔ v = 0 := nI_eq (b := 0) h (by omega)
theorem PW (hm : om.1 3 = nI P) (hP : P ≤ 6) {c : Nat} (hc : c < 2 ^ 30) (hcell : F_L_cell k 1 = some (nI c)) : ∀ (d j fu : Nat) (om : ob) (L : List Nat), om.1 3 = nI P → j + d = P → d < fu → WT om L → L.length + 21 * d ≤ 480 → ∃ (om2 : ob) (ps : List psn), F_L_loads_86 k y1 fu om oB ot od os op ow oe oH (nI j) = some (nI P, om2, oB, ot, od, os, op, ow, oe, oH) ∧ WT om2 (L ++ tplX ps []) ∧ KP om om2 ∧ ps.length = d ∧ (∀ q : psn, q ∈ ps → okp q) ∧ (tplX ps []).length ≤ 21 * d ∧ AllM (tplX ps []) := by
  intro d
  induction d with
  | zero =>
    intro j fu om L hm hj hf hw hl
    obtain ⟨fu, rfl⟩ : ∃ n, fu = n + 1 := ⟨fu - 1, by omega⟩
    obtain rfl : j = P := by omega
    refine ⟨om, [], ?_, by rw [tplX, List.append_nil]; exact hw, KP.refl, rfl, fun q hq => (nomatch hq), Nat.zero_le _, AllM.nil⟩
    simp only [F_L_loads_86, hm]
    rw [if_pos (Int32.le_refl _)]
  | succ d ih =>
    intro j fu om L hm hj hf hw hl
    obtain ⟨fu, rfl⟩ : ∃ n, fu = n + 1 := ⟨fu - 1, by omega⟩
    have hdv : rx_div (nI c) ((2 : Int32) * nI j + 1) = some (nI (c / (2 * j + 1))) := by
      rw [show (2 : Int32) = nI 2 from rfl, z_mul, nI_1]
      exact r_div (by omega) (by omega) (by omega)
    have hle : c / (2 * j + 1) ≤ c := Nat.div_le_self _ _
    have h7 : nI (c / (2 * j + 1)) + (7 : Int32) * nI j = nI (c / (2 * j + 1) + 7 * j) := by
      rw [show (7 : Int32) = nI 7 from rfl, z_mul, nI_add]
    have hw31 : c / (2 * j + 1) + 7 * j < 2 ^ 31 := by omega
    generalize c / (2 * j + 1) + 7 * j = w at h7 hw31
    have r3 := m_rem (v := w) 3 (m := 3) rfl hw31 (by omega) (by omega)
    have d4 := m_div (v := w) 4 (m := 4) rfl hw31 (by omega) (by omega)
    have d16 := m_div (v := w) 16 (m := 16) rfl hw31 (by omega) (by omega)
    have d64 := m_div (v := w) 64 (m := 64) rfl hw31 (by omega) (by omega)
    have d256 := m_div (v := w) 256 (m := 256) rfl hw31 (by omega) (by omega)
    have r43 := m_rem (v := w / 4) 3 (m := 3) rfl (by omega) (by omega) (by omega)
    have r60 := m_rem (v := w / 16) 60 (m := 60) rfl (by omega) (by omega) (by omega)
    have r41 := m_rem (v := w / 64) 41 (m := 41) rfl (by omega) (by omega) (by omega)
    have r51 := m_rem (v := w / 256) 51 (m := 51) rfl (by omega) (by omega) (by omega)
    have hc1 : w / 16 % 60 < 60 := Nat.mod_lt _ (by omega)
    have hc2 : w / 64 % 41 < 41 := Nat.mod_lt _ (by omega)
    have hc3 : w / 256 % 51 < 51 := Nat.mod_lt _ (by omega)
    have h30 := m_0 (v := w % 3) (by have := Nat.mod_lt w (show 0 < 3 by omega); omega)
    have h40 := m_0 (v := w / 4 % 3) (by have := Nat.mod_lt (w / 4) (show 0 < 3 by omega); omega)
    generalize w / 16 % 60 = e1 at r60 hc1
    generalize w / 64 % 41 = e2 at r41 hc2
    generalize w / 256 % 51 = e3 at r51 hc3
    -- what a person's words do
    have key : ∀ (q1 q2 u v : Nat), q1 < 2 → q2 < 2 → 1 ≤ u → u < 10 → 1 ≤ v → v < 10 → u = wKing (q1, q2, e1, e2, e3) → Wd v = [32] ++ Wd (wBank (q1, q2, e1, e2, e3)) → ∃ o1 o2 o3 o4 o5 o6 om3 : ob, ∃ ps : List psn, F_L_writes om u = some o1 ∧ F_L_writes o1 v = some o2 ∧ F_L_number o2 (nI e1) = some o3 ∧ F_L_number o3 (nI e2) = some o4 ∧ F_L_number o4 (nI e3) = some o5 ∧ F_L_writes o5 7 = some o6 ∧ F_L_loads_86 k y1 fu o6 oB ot od os op ow oe oH (nI (j + 1)) = some (nI P, om3, oB, ot, od, os, op, ow, oe, oH) ∧ WT om3 (L ++ tplX ps []) ∧ KP om om3 ∧ ps.length = d + 1 ∧ (∀ q : psn, q ∈ ps → okp q) ∧ (tplX ps []).length ≤ 21 * (d + 1) ∧ AllM (tplX ps []) := by
      intro q1 q2 u v hq1 hq2 u1 u9 v1 v9 hu hv
      have lu := (Wd_chr u u1 u9).2.1
      have lv := (Wd_chr v v1 v9).2.1
      have hok : okp (q1, q2, e1, e2, e3) := ⟨hq1, hq2, hc1, by show e2 ≤ 40; omega, by show e3 ≤ 50; omega⟩
      have hlen := persX_ok hok
      obtain ⟨o1, s1, w1, k1⟩ := L_writes u1 u9 hw (by omega)
      obtain ⟨o2, s2, w2, k2⟩ := L_writes v1 v9 w1 (by rw [List.length_append]; omega)
      obtain ⟨o3, o4, o5, o6, s3, s4, s5, s6, w6, k6⟩ := L_three (show e1 < 100 by omega) (show e2 < 100 by omega) (show e3 < 100 by omega) w2 (by rw [List.length_append, List.length_append]; omega)
      have hT : L ++ Wd u ++ Wd v ++ (numL e1 ++ (numL e2 ++ (numL e3 ++ 59 :: []))) = L ++ persX (q1, q2, e1, e2, e3) [] := by
        rw [hu, hv]
        simp only [persX, List.append_assoc]
      rw [hT] at w6
      obtain ⟨om3, ps, s7, w7, k7, l7, ok7, n7, m7⟩ := ih (j + 1) fu o6 (L ++ persX (q1, q2, e1, e2, e3) []) ((k1.trans (k2.trans k6)).1.trans hm) (by omega) (by omega) w6 (by rw [List.length_append]; omega)
      refine ⟨o1, o2, o3, o4, o5, o6, om3, (q1, q2, e1, e2, e3) :: ps, s1, s2, s3, s4, s5, s6, s7, ?_, (k1.trans (k2.trans k6)).trans k7, by rw [List.length_cons, l7], fun q hq => ?_, ?_, ?_⟩
      · rw [tplX, persX_app, ← List.append_assoc]; exact w7
      · rcases List.mem_cons.mp hq with rfl | hq
        · exact hok
        · exact ok7 q hq
      · rw [tplX, persX_app, List.length_append]; omega
      · rw [tplX, persX_app]; exact hlen.2.app m7
    simp only [F_L_loads_86, hm]
    rw [if_neg (nI_ge (by omega) (by omega)), hcell, z_bsN, hdv, z_bsN, h7]
    simp only [z_leN, r3, d4, d16, d64, d256, r43, r60, r41, r51]
    by_cases c1 : w % 3 = 0
    · rw [if_pos (h30.mpr c1)]
      by_cases c2 : w / 4 % 3 = 0
      · obtain ⟨o1, o2, o3, o4, o5, o6, om3, ps, s1, s2, s3, s4, s5, s6, s7, rest⟩ := key 1 1 2 8 (by omega) (by omega) (by omega) (by omega) (by omega) (by omega) rfl rfl
        refine ⟨om3, ps, ?_, rest⟩
        rw [s1, z_bsN, if_pos (h40.mpr c2), s2, z_bsN, s3, z_bsN, s4, z_bsN, s5, z_bsN, s6, z_bsN, nI_1]
        exact s7
      · obtain ⟨o1, o2, o3, o4, o5, o6, om3, ps, s1, s2, s3, s4, s5, s6, s7, rest⟩ := key 1 0 2 9 (by omega) (by omega) (by omega) (by omega) (by omega) (by omega) rfl rfl
        refine ⟨om3, ps, ?_, rest⟩
        rw [s1, z_bsN, if_neg (fun z => c2 (h40.mp z)), s2, z_bsN, s3, z_bsN, s4, z_bsN, s5, z_bsN, s6, z_bsN, nI_1]
        exact s7
    · rw [if_neg (fun z => c1 (h30.mp z))]
      by_cases c2 : w / 4 % 3 = 0
      · obtain ⟨o1, o2, o3, o4, o5, o6, om3, ps, s1, s2, s3, s4, s5, s6, s7, rest⟩ := key 0 1 3 8 (by omega) (by omega) (by omega) (by omega) (by omega) (by omega) rfl rfl
        refine ⟨om3, ps, ?_, rest⟩
        rw [s1, z_bsN, if_pos (h40.mpr c2), s2, z_bsN, s3, z_bsN, s4, z_bsN, s5, z_bsN, s6, z_bsN, nI_1]
        exact s7
      · obtain ⟨o1, o2, o3, o4, o5, o6, om3, ps, s1, s2, s3, s4, s5, s6, s7, rest⟩ := key 0 0 3 9 (by omega) (by omega) (by omega) (by omega) (by omega) (by omega) rfl rfl
        refine ⟨om3, ps, ?_, rest⟩
        rw [s1, z_bsN, if_neg (fun z => c2 (h40.mp z)), s2, z_bsN, s3, z_bsN, s4, z_bsN, s5, z_bsN, s6, z_bsN, nI_1]
        exact s7
theorem BW (hB : B ≤ 2) {c : Nat} (hc : c < 2 ^ 30) (hcell : F_L_cell k 2 = some (nI c)) : ∀ (d j fu : Nat) (om : ob) (L : List Nat), om.1 4 = nI B → j + d = B → d < fu → WT om L → L.length + 16 * d ≤ 480 → ∃ (om2 : ob) (bs : List brg), F_L_loads_205 k y1 fu om oB ot od os op ow oe oH (nI j) = some (nI B, om2, oB, ot, od, os, op, ow, oe, oH) ∧ WT om2 (L ++ tblX bs []) ∧ KP om om2 ∧ bs.length = d ∧ (∀ q : brg, q ∈ bs → okb q) ∧ (tblX bs []).length ≤ 16 * d ∧ AllM (tblX bs []) := by
  intro d
  induction d with
  | zero =>
    intro j fu om L hm hj hf hw hl
    obtain ⟨fu, rfl⟩ : ∃ n, fu = n + 1 := ⟨fu - 1, by omega⟩
    obtain rfl : j = B := by omega
    refine ⟨om, [], ?_, by rw [tblX, List.append_nil]; exact hw, KP.refl, rfl, fun q hq => (nomatch hq), Nat.zero_le _, AllM.nil⟩
    simp only [F_L_loads_205, hm]
    rw [if_pos (Int32.le_refl _)]
  | succ d ih =>
    intro j fu om L hm hj hf hw hl
    obtain ⟨fu, rfl⟩ : ∃ n, fu = n + 1 := ⟨fu - 1, by omega⟩
    have hdv : rx_div (nI c) (nI j + 1) = some (nI (c / (j + 1))) := by
      rw [nI_1]
      exact r_div (by omega) (by omega) (by omega)
    have hle : c / (j + 1) ≤ c := Nat.div_le_self _ _
    generalize c / (j + 1) = w at hdv hle
    have r3 := m_rem (v := w) 3 (m := 3) rfl (by omega) (by omega) (by omega)
    have d4 := m_div (v := w) 4 (m := 4) rfl (by omega) (by omega) (by omega)
    have d16 := m_div (v := w) 16 (m := 16) rfl (by omega) (by omega) (by omega)
    have r163 := m_rem (v := w / 16) 3 (m := 3) rfl (by omega) (by omega) (by omega)
    have i1 : ∀ n : Nat, (1 : Int32) + nI n = nI (1 + n) := fun n => nI_add 1 n
    have hp3 : w % 3 < 3 := Nat.mod_lt _ (by omega)
    have hp4 : w / 16 % 3 < 3 := Nat.mod_lt _ (by omega)
    have hrm : rx_rem (nI (w / 4)) (nI (1 + w % 3)) = some (nI (w / 4 % (1 + w % 3))) := r_rem (by omega) (by omega) (by omega)
    have hph : w / 4 % (1 + w % 3) < 1 + w % 3 := Nat.mod_lt _ (by omega)
    generalize w / 4 % (1 + w % 3) = f at hrm hph
    have hok : okb (1 + w % 3, f, 1 + w / 16 % 3) := ⟨⟨by show 1 ≤ 1 + w % 3; omega, by show 1 + w % 3 ≤ 3; omega⟩, hph, by show 1 ≤ 1 + w / 16 % 3; omega, by show 1 + w / 16 % 3 ≤ 3; omega⟩
    have hlen := brX_ok hok
    obtain ⟨o1, s1, w1, k1⟩ := L_writes (t := 6) (by omega) (by omega) hw (by rw [show (Wd 6).length = 6 from rfl]; omega)
    obtain ⟨o2, o3, o4, o5, s2, s3, s4, s5, w5, k5⟩ := L_three (show 1 + w % 3 < 100 by omega) (show f < 100 by omega) (show 1 + w / 16 % 3 < 100 by omega) w1 (by rw [List.length_append, show (Wd 6).length = 6 from rfl]; omega)
    have hT : L ++ Wd 6 ++ (numL (1 + w % 3) ++ (numL f ++ (numL (1 + w / 16 % 3) ++ 59 :: []))) = L ++ brX (1 + w % 3, f, 1 + w / 16 % 3) [] := by
      simp only [brX, List.append_assoc]
    rw [hT] at w5
    obtain ⟨om3, bs, s7, w7, k7, l7, ok7, n7, m7⟩ := ih (j + 1) fu o5 (L ++ brX (1 + w % 3, f, 1 + w / 16 % 3) []) ((k1.trans k5).2.1.trans hm) (by omega) (by omega) w5 (by rw [List.length_append]; omega)
    refine ⟨om3, (1 + w % 3, f, 1 + w / 16 % 3) :: bs, ?_, ?_, (k1.trans k5).trans k7, by rw [List.length_cons, l7], fun q hq => ?_, ?_, ?_⟩
    · simp only [F_L_loads_205, hm]
      rw [if_neg (nI_ge (by omega) (by omega)), hcell, z_bsN, hdv, z_bsN]
      simp only [z_leN, r3, d4, d16, r163, i1, s1, z_bsN, s2, hrm, s3, s4, s5, nI_1]
      exact s7
    · rw [tblX, brX_app, ← List.append_assoc]; exact w7
    · rcases List.mem_cons.mp hq with rfl | hq
      · exact hok
      · exact ok7 q hq
    · rw [tblX, brX_app, List.length_append]; omega
    · rw [tblX, brX_app]; exact hlen.2.app m7
theorem L_loads (h2 : om.1 2 = 0) (h0 : ot.1 1 = 0) : ∃ (P B C : Nat) (om2 oB2 ot2 od2 os2 op2 ow2 oe2 : ob) (oH2 : hst) (g : Nat → Int32), F_L_loads k om oB ot od os op ow oe oH = some (1, om2, oB2, ot2, od2, os2, op2, ow2, oe2, oH2) ∧ om2.1 3 = nI P ∧ RPos P B 0 os2 op2 ow2 oe2 g [] [] ∧ XI P C g ∧ g 0 = 0 := by
  obtain ⟨c0, hc0, e0⟩ := L_cell (k := k) (i := 0) (by omega)
  obtain ⟨c1, hc1, e1⟩ := L_cell (k := k) (i := 1) (by omega)
  obtain ⟨c2, hc2, e2⟩ := L_cell (k := k) (i := 2) (by omega)
  have e0 : F_L_cell k 0 = some (nI c0) := e0
  have e1 : F_L_cell k 1 = some (nI c1) := e1
  have e2 : F_L_cell k 2 = some (nI c2) := e2
  have r4 := m_rem (v := c0) 4 (m := 4) rfl (by omega) (by omega) (by omega)
  have d4 := m_div (v := c0) 4 (m := 4) rfl (by omega) (by omega) (by omega)
  rw [d4] at r4
  have r42 := m_rem (v := c0 / 4) 2 (m := 2) rfl (by omega) (by omega) (by omega)
  have d16 := m_div (v := c0) 16 (m := 16) rfl (by omega) (by omega) (by omega)
  have r91 := m_rem (v := c0 / 16) 91 (m := 91) rfl (by omega) (by omega) (by omega)
  have dA := m_div (v := c0) 2048 (m := 2048) rfl (by omega) (by omega) (by omega)
  have rA := m_rem (v := c0 / 2048) 10 (m := 10) rfl (by omega) (by omega) (by omega)
  have dB := m_div (v := c0) 32768 (m := 32768) rfl (by omega) (by omega) (by omega)
  have rB := m_rem (v := c0 / 32768) 13 (m := 13) rfl (by omega) (by omega) (by omega)
  have dC := m_div (v := c0) 524288 (m := 524288) rfl (by omega) (by omega) (by omega)
  have rC := m_rem (v := c0 / 524288) 7 (m := 7) rfl (by omega) (by omega) (by omega)
  have i1 : ∀ n : Nat, (1 : Int32) + nI n = nI (1 + n) := fun n => nI_add 1 n
  have i3 : ∀ n : Nat, (3 : Int32) + nI n = nI (3 + n) := fun n => nI_add 3 n
  have hP : c0 % 4 < 4 := Nat.mod_lt _ (by omega)
  have hB : c0 / 4 % 2 < 2 := Nat.mod_lt _ (by omega)
  have h91 : c0 / 16 % 91 < 91 := Nat.mod_lt _ (by omega)
  have h10 : c0 / 2048 % 10 < 10 := Nat.mod_lt _ (by omega)
  have h13 : c0 / 32768 % 13 < 13 := Nat.mod_lt _ (by omega)
  have h7 : c0 / 524288 % 7 < 7 := Nat.mod_lt _ (by omega)
  generalize c0 / 16 % 91 = a1 at r91 h91
  generalize c0 / 2048 % 10 = a2 at rA h10
  generalize c0 / 32768 % 13 = a3 at rB h13
  generalize c0 / 524288 % 7 = a4 at rC h7
  generalize hPg : 3 + c0 % 4 = P
  generalize hBg : 1 + c0 / 4 % 2 = B
  -- the head
  obtain ⟨om0, hom0⟩ : ∃ o : ob, o = (upd (upd om.1 3 (nI P)) 4 (nI B), om.2) := ⟨_, rfl⟩
  have w0 : WT om0 [] := by
    subst hom0
    refine ⟨?_, by simp, fun i hi => by cases hi⟩
    dsimp only; rw [z_un (by omega), z_un (by omega)]; exact h2
  have m3 : om0.1 3 = nI P := by subst hom0; dsimp only; rw [z_un (by omega), z_us]
  have m4 : om0.1 4 = nI B := by subst hom0; dsimp only; rw [z_us]
  have l1 := numL_le (v := a1)
  have l2 := numL_le (v := a2)
  have l3 := numL_le (v := a3)
  have l4 := numL_le (v := a4)
  obtain ⟨o1, s1, w1, k1⟩ := L_writes (t := 1) (by omega) (by omega) w0 (by rw [show (Wd 1).length = 4 from rfl]; simp)
  rw [List.nil_append] at w1
  obtain ⟨o2, s2, w2, k2⟩ := L_number (show a1 < 100 by omega) w1 (by rw [show (Wd 1).length = 4 from rfl]; omega)
  obtain ⟨o3, o4, o5, o6, s3, s4, s5, s6, w6, k6⟩ := L_three (show a2 < 100 by omega) (show a3 < 100 by omega) (show a4 < 100 by omega) w2 (by rw [List.length_append, show (Wd 1).length = 4 from rfl]; omega)
  have hH : Wd 1 ++ numL a1 ++ (numL a2 ++ (numL a3 ++ (numL a4 ++ 59 :: []))) = headX a1 a2 a3 a4 [] := by
    simp only [headX, List.append_assoc]
  rw [hH] at w6
  have hHl : (headX a1 a2 a3 a4 []).length ≤ 17 := by
    simp only [headX, List.length_append, List.length_cons, List.length_nil, show (Wd 1).length = 4 from rfl]; omega
  have hHm : AllM (headX a1 a2 a3 a4 []) := (AllM.wd _ (by omega)).app ((AllM.num (by omega)).app ((AllM.num (by omega)).app ((AllM.num (by omega)).app ((AllM.num (by omega)).app (fun x hx => by simp only [List.mem_cons, List.not_mem_nil, or_false] at hx; omega)))))
  have hHa : ∀ R : List Nat, headX a1 a2 a3 a4 R = headX a1 a2 a3 a4 [] ++ R := fun R => by
    simp only [headX, List.append_assoc, List.cons_append, List.nil_append]
  have k06 : KP om0 o6 := k1.trans (k2.trans k6)
  obtain ⟨om7, ps, s7, w7, k7, lp, okps, np, mp⟩ := PW (k := k) (oB := oB) (ot := ot) (od := od) (os := os) (op := op) (ow := ow) (oe := oe) (oH := oH) (y1 := nI c0) (om := o6) (P := P) (k06.1.trans m3) (by omega) hc1 e1 P 0 100000 o6 _ (k06.1.trans m3) (by omega) (by omega) w6 (by omega)
  have s7 : F_L_loads_86 k (nI c0) 100000 o6 oB ot od os op ow oe oH 0 = _ := s7
  obtain ⟨om8, bs, s8, w8, k8, lb, okbs, nb, mb⟩ := BW (k := k) (oB := oB) (ot := ot) (od := od) (os := os) (op := op) (ow := ow) (oe := oe) (oH := oH) (y1 := nI c0) (B := B) (by omega) hc2 e2 B 0 100000 om7 _ ((k06.trans k7).2.1.trans m4) (by omega) (by omega) w7 (by rw [List.length_append]; omega)
  have s8 : F_L_loads_205 k (nI c0) 100000 om7 oB ot od os op ow oe oH 0 = _ := s8
  obtain ⟨q0, bs', rfl⟩ : ∃ q0 bs', bs = q0 :: bs' := by
    cases bs with
    | nil => simp at lb; omega
    | cons q0 bs' => exact ⟨q0, bs', rfl⟩
  have hL : headX a1 a2 a3 a4 [] ++ tplX ps [] ++ tblX (q0 :: bs') [] = headX a1 a2 a3 a4 (tplX ps (tblX (q0 :: bs') [])) := by
    rw [hHa (tplX ps (tblX (q0 :: bs') [])), tplX_app ps (tblX (q0 :: bs') []), List.append_assoc]
  have hLl : (headX a1 a2 a3 a4 (tplX ps (tblX (q0 :: bs') []))).length ≤ 480 := by
    rw [← hL, List.length_append, List.length_append]; omega
  have hLm : AllM (headX a1 a2 a3 a4 (tplX ps (tblX (q0 :: bs') []))) := by
    rw [← hL]; exact (hHm.app mp).app mb
  rw [hL] at w8
  obtain ⟨S, om9, ot9, s9, k9, t9, lS, S5, hA⟩ := FEED (oB := oB) hLm.B hLl w8 h0
  obtain ⟨oB2, ot2, od2, os2, op2, ow2, oe2, oH2, g, C, sG, t7, t8, hr, hx, g0, g5⟩ := R_game (ot := ot9) (od := od) (os := os) (op := op) (ow := ow) (oe := oe) (oB := oB) (oH := oH) hA rfl (by omega) (by rw [t9]; exact nI_le lS (by omega)) (by omega) (by omega) (by omega) (by omega) okps okbs (by omega) (by omega)
  rw [lp] at sG hr hx
  rw [lb] at hr
  refine ⟨P, B, C, om9, oB2, ot2, od2, os2, op2, ow2, oe2, oH2, g, ?_, k9.trans ((k06.trans (k7.trans k8)).1.trans m3), hr, hx, g0⟩
  have m9 : om9.1 3 = nI P := k9.trans ((k06.trans (k7.trans k8)).1.trans m3)
  have hnow : op2.1 1 = 0 := hr.now.trans g0
  have hbox : op2.1 3 = 0 := hr.2.2.1.1.2.2.1.trans g5
  simp only [F_L_loads, e0, z_bsN, z_leN, r4, d4, r42, d16, r91, dA, rA, dB, rB, dC, rC, i1, i3, hPg, hBg, ← hom0, s1, s2, s3, s4, s5, s6, s7, s8, s9, sG, m9, if_true, F_X8_errorCode, t7, F_X8_errorOffset, t8, F_X8_turn, hnow, F_X8_tollBox, hbox]
end LOADS
