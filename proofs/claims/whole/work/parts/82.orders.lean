/-! The orders of a script. -/
def z_ok2 (z : Nat) (a b : Int32) : Prop := (z_l1 z ≤ a ∧ a ≤ z_h1 z) ∧ (if z = 6 ∨ z = 8 then b = 0 else z_l2 z ≤ b ∧ b ≤ z_h2 z)
def RO (n : Nat) (oc : obv) (om : ob) : Prop := oc.1.1 3 = nI n ∧ om.1 18 = nI n ∧ ∀ i : Nat, i < n → ∃ z : Nat, z < 9 ∧ oc.2 i = some z ∧ om.2 17 (3 * i) = nI z ∧ oc.1.2 1 i = om.2 17 (3 * i + 1) ∧ oc.1.2 2 i = om.2 17 (3 * i + 2) ∧ z_ok2 z (om.2 17 (3 * i + 1)) (om.2 17 (3 * i + 2))
/-- what reading a script changes of the model -/
def sf (om om2 : ob) : Prop := (∀ i : Nat, i < 11 ∨ 18 < i → om2.1 i = om.1 i) ∧ ∀ r : Nat, r ≠ 17 → om2.2 r = om.2 r
section ORDER
variable {ot om ot2 om2 ot3 om3 : ob} {oc : obv} {E n : Nat}
theorem sf.refl : sf om om := ⟨fun _ _ => rfl, fun _ _ => rfl⟩
theorem sf.trans (h : sf om om2) (h2 : sf om2 om3) : sf om om3 := ⟨fun i hi => (h2.1 i hi).trans (h.1 i hi), fun i hi => (h2.2 i hi).trans (h.2 i hi)⟩
theorem mf.sf (h : mf om om2) : sf om om2 := ⟨fun i hi => h.1 i (by omega), fun r _ => by rw [h.2]⟩
theorem sf.row {f : Nat → Int32} : sf om (om.1, va_up om.2 17 f) := ⟨fun _ _ => rfl, fun r hr => by dsimp only; rw [z_vn hr]⟩
theorem sf.i18 {v : Int32} : sf om (upd om.1 18 v, om.2) := ⟨fun i hi => by dsimp only; rw [z_un (by omega)], fun _ _ => rfl⟩
theorem T2.row {f : Nat → Int32} (h : T2 E ot om) : T2 E ot (om.1, va_up om.2 17 f) := by
  rcases h with ⟨h7, h15, h8, ⟨h2, h10, hE, hb⟩, s, n, h1, h3, h4, h12, h5, h11, hD⟩ | h
  · refine Or.inl ⟨h7, h15, h8, ⟨h2, h10, hE, fun i hi => ?_⟩, s, n, h1, h3, h4, h12, h5, h11, ?_⟩
    · dsimp only; rw [z_vn (by omega)]; exact hb i hi
    · unfold TD
      dsimp only
      rw [z_vn (by omega)]
      exact hD
  · exact Or.inr h
theorem T2.i18 {v : Int32} (h : T2 E ot om) : T2 E ot (upd om.1 18 v, om.2) := by
  have k : ∀ i : Nat, i ≠ 18 → upd om.1 18 v i = om.1 i := fun i hi => z_un hi
  rcases h with ⟨h7, h15, h8, ⟨h2, h10, hE, hb⟩, s, n, h1, h3, h4, h12, h5, h11, hD⟩ | ⟨f1, f2, f3, f4⟩
  · refine Or.inl ⟨h7, by dsimp only; rw [k 15 (by omega)]; exact h15, by dsimp only; rw [k 16 (by omega)]; exact h8, ⟨h2, by dsimp only; rw [k 10 (by omega)]; exact h10, hE, hb⟩, s, n, h1, h3, h4, by dsimp only; rw [k 12 (by omega)]; exact h12, h5, by dsimp only; rw [k 11 (by omega)]; exact h11, ?_⟩
    unfold TD
    dsimp only
    rw [k 13 (by omega), k 14 (by omega)]
    exact hD
  · refine Or.inr ⟨f1, by dsimp only; rw [k 15 (by omega)]; exact f2, by dsimp only; rw [k 16 (by omega)]; exact f3, ?_⟩
    dsimp only
    rw [k 13 (by omega), k 12 (by omega)]
    exact f4
theorem z_3n (n k : Nat) : (3 : Int32) * nI n + nI k = nI (3 * n + k) := by
  rw [show (3 : Int32) = nI 3 from rfl, z_mul, nI_add]
theorem L_order (h : TX E ot om) (hR : RO n oc om) (hn : n ≤ 20) : ∃ (oc2 : obv) (ot2 om2 : ob), F_X4_readCommand oc ot = some (oc2, ot2) ∧ F_X9_readsOrder om = some om2 ∧ ((TX E ot2 om2 ∧ n < 20 ∧ RO (n + 1) oc2 om2) ∨ FX ot2 om2) ∧ tf ot ot2 ∧ sf om om2 := by
  obtain ⟨r1, r2, r3⟩ := hR
  have hneg : ¬ nI n < (0 : Int32) := nI_pos (by omega)
  rcases T_verb (Or.inl h) with ⟨v1, v2⟩ | ⟨z, hz, v1, v2⟩
  · obtain ⟨ot2, om2, f1, f2, f3, f4, f5⟩ := h.fail (c := 1) (by decide)
    refine ⟨oc, ot2, om2, ?_, ?_, Or.inr f3, f4, f5.sf⟩
    · simp only [F_X4_readCommand, v1, z_bsN, f1]
    · simp only [F_X9_readsOrder, v2, z_bsN]
      rw [if_pos trivial, f2]
      simp only [z_bsN, f3.failM]
      split
      · simp only [z_bsN]; rw [if_neg f3.w]
      · simp only [z_bsN]; rw [if_neg f3.w]
  · have hzm : ¬ nI z = (-1 : Int32) := z_m1 (by omega)
    by_cases c20 : n = 20
    · subst c20
      obtain ⟨ot2, om2, f1, f2, f3, f4, f5⟩ := h.fail (c := 3) (by decide)
      refine ⟨oc, ot2, om2, ?_, ?_, Or.inr f3, f4, f5.sf⟩
      · simp only [F_X4_readCommand, v1, z_bsN, r1]
        rw [if_neg hneg, if_neg (show ¬ (nI 20 : Int32) < nI 20 from Int32.lt_irrefl), f1]
        simp only [z_bsN]
      · simp only [F_X9_readsOrder, v2, z_bsN]
        rw [if_neg hzm]
        simp only [z_bsN, r2]
        rw [if_pos (by decide), f2]
        simp only [z_bsN]
        rw [if_neg f3.w]
    · have hn20 : n < 20 := by omega
      have hlt : nI n < (nI 20 : Int32) := nI_lt hn20 (by omega)
      have hne20 : ¬ nI n = (20 : Int32) := fun e => c20 ((nI_eq (a := n) (b := 20) (by omega) (by omega)).mp e)
      obtain ⟨lw1, lw2, lw3, lw4, lw5, lw6⟩ := C_lw z hz
      have hk : rx_vst oc.2 (nI n) z = some (va_up oc.2 n (some z)) := by
        unfold rx_vst
        rw [nI_clamp (by omega), if_pos ⟨nI_pos' (by omega), hn20⟩]
      obtain ⟨a1, b1, e1, m1, t1, f1, k1⟩ := h.next
      obtain ⟨c2, d2, a2, b2, e2, m2, t2, g2, f2, k2⟩ := T_int (T2.row (f := upd (b1.2 17) (3 * n) (nI z)) (Or.inl t1)) (lo := z_l1 z) (hi := z_h1 z) (lo2 := z_l1 z) (hi2 := z_h1 z) (fun _ => ⟨rfl, rfl, lw5⟩)
      -- the second number
      have second : ∃ (c3 d3 : Int32) (a3 b3 : ob), ((if (rx_vt 1 z) ≤ (1 : Int32) then some ((0 : Int32), a2) else F_X6_takeNumber a2 (z_l2 z) (z_h2 z)) = some (c3, a3)) ∧ F_X9_second (b2.1, va_up b2.2 17 (upd (b2.2 17) (3 * n + 1) d2)) (nI z) = some (d3, b3) ∧ T2 E a3 b3 ∧ (a3.1 7 = 0 → a2.1 7 = 0 ∧ c3 = d3 ∧ (if z = 6 ∨ z = 8 then d3 = 0 else z_l2 z ≤ d3 ∧ d3 ≤ z_h2 z)) ∧ tf a2 a3 ∧ mf (b2.1, va_up b2.2 17 (upd (b2.2 17) (3 * n + 1) d2)) b3 := by
        by_cases q : z = 6 ∨ z = 8
        · refine ⟨0, 0, a2, _, by rw [if_pos (lw3.mpr q)], (M_sec hz).2 q, t2.row, fun w => ⟨w, rfl, by rw [if_pos q]⟩, tf.refl, mf.refl⟩
        · obtain ⟨c3, d3, a3, b3, e3, m3, t3, g3, f3, k3⟩ := T_int (T2.row (f := upd (b2.2 17) (3 * n + 1) d2) t2) (lo := z_l2 z) (hi := z_h2 z) (lo2 := z_l2 z) (hi2 := z_h2 z) (fun _ => ⟨rfl, rfl, lw6⟩)
          refine ⟨c3, d3, a3, b3, by rw [if_neg (fun w => q (lw3.mp w))]; exact e3, by rw [(M_sec hz).1 (fun w => q (Or.inl w)) (fun w => q (Or.inr w))]; exact m3, t3, fun w => ?_, f3, k3⟩
          obtain ⟨w1, w2, w3, w4⟩ := g3 w
          exact ⟨w1, w2, by rw [if_neg q, ← w2]; exact ⟨w3, w4⟩⟩
      obtain ⟨c3, d3, a3, b3, e3, m3, t3, g3, f3, k3⟩ := second
      have t3' : T2 E a3 (upd b3.1 18 (nI (n + 1)), va_up b3.2 17 (upd (b3.2 17) (3 * n + 2) d3)) := (t3.row (f := upd (b3.2 17) (3 * n + 2) d3)).i18
      obtain ⟨a4, b4, e4, m4, t4, f4, k4⟩ := T_semi t3'
      have hb1 : b1.1 18 = nI n := (k1.1 18 (by omega)).trans r2
      have hb2 : b2.1 18 = nI n := (k2.1 18 (by omega)).trans hb1
      have hb3 : b3.1 18 = nI n := (k3.1 18 (by omega)).trans hb2
      have ix0 : (3 : Int32) * nI n = nI (3 * n) := by rw [show (3 : Int32) = nI 3 from rfl, z_mul]
      have ix1 : nI (3 * n) + (1 : Int32) = nI (3 * n + 1) := nI_1 _
      have ix2 : nI (3 * n) + (2 : Int32) = nI (3 * n + 2) := nI_add _ 2
      refine ⟨((upd oc.1.1 3 (nI (n + 1)), va_up (va_up oc.1.2 1 (upd (oc.1.2 1) n c2)) 2 (upd (oc.1.2 2) n c3)), va_up oc.2 n (some z)), a4, b4, ?_, ?_, ?_, f1.trans (f2.trans (f3.trans f4)), ?_⟩
      · simp only [F_X4_readCommand, v1, z_bsN, r1]
        rw [if_neg hneg, if_pos hlt, e1]
        simp only [z_bsN, hk, z_leN, lw1, lw2, e2]
        by_cases q : (rx_vt 1 z) ≤ (1 : Int32)
        · rw [if_pos q] at e3 ⊢
          obtain ⟨rfl, rfl⟩ : (0 : Int32) = c3 ∧ a2 = a3 := by
            have := Option.some.inj e3
            exact ⟨congrArg Prod.fst this, congrArg Prod.snd this⟩
          simp (disch := omega) only [z_put, z_vn, e4, z_bsN, r1, nI_1]
        · rw [if_neg q] at e3 ⊢
          have q2 : ¬ (z = 6 ∨ z = 8) := fun w => q (lw3.mpr w)
          obtain ⟨l1, l2⟩ := lw4 (fun w => q2 (Or.inl w)) (fun w => q2 (Or.inr w))
          simp only [l1, l2, e3, z_bsN]
          simp (disch := omega) only [z_put, z_vn, e4, z_bsN, r1, nI_1]
      · simp only [F_X9_readsOrder, v2, z_bsN]
        rw [if_neg hzm]
        simp only [z_bsN, r2]
        rw [if_neg hne20]
        simp only [z_bsN]
        rw [if_pos h.2.1, m1]
        simp only [z_bsN, z_leN, hb1, ix0, ix1, ix2]
        rw [z_ast (by omega) (by omega)]
        simp only [z_bsN]
        by_cases q8 : z = 8
        · subst q8
          have m2 : F_X9_number0 (b1.1, va_up b1.2 17 (upd (b1.2 17) (3 * n) (nI 8))) 1 50 = some (d2, b2) := m2
          rw [if_pos (show nI 8 = (8 : Int32) from rfl), m2]
          simp only [z_bsN]
          rw [z_ast (by omega) (by omega)]
          simp only [z_bsN, m3]
          rw [z_ast (by omega) (by omega)]
          simp only [z_bsN, hb3, nI_1, m4]
        · have m2 : F_X9_number0 (b1.1, va_up b1.2 17 (upd (b1.2 17) (3 * n) (nI z))) 0 9 = some (d2, b2) := by
            have h1 : z_l1 z = 0 := if_neg q8
            have h2 : z_h1 z = 9 := if_neg q8
            rw [h1, h2] at m2
            exact m2
          rw [if_neg (show ¬ nI z = (8 : Int32) from fun e => q8 ((nI_eq (a := z) (b := 8) (by omega) (by omega)).mp e)), m2]
          simp only [z_bsN]
          rw [z_ast (by omega) (by omega)]
          simp only [z_bsN, m3]
          rw [z_ast (by omega) (by omega)]
          simp only [z_bsN, hb3, nI_1, m4]
      · rcases t4 with t4 | t4
        · have q3 := g3 (T_semi0 t3' e4 t4.1)
          have q2 := g2 q3.1
          have hr17 : b4.2 17 = upd (upd (upd (om.2 17) (3 * n) (nI z)) (3 * n + 1) d2) (3 * n + 2) d3 := by
            rw [k4.2]
            dsimp only
            rw [z_vs, k3.2]
            dsimp only
            rw [z_vs, k2.2]
            dsimp only
            rw [z_vs, k1.2]
          refine Or.inl ⟨t4, hn20, ?_, ?_, fun i hi => ?_⟩
          · dsimp only; rw [z_us]
          · rw [k4.1 18 (by omega)]; dsimp only; rw [z_us]
          · rw [hr17]
            dsimp only
            by_cases q : i = n
            · subst q
              refine ⟨z, hz, by rw [z_vs], ?_, ?_, ?_, ?_⟩
              · rw [z_un (by omega), z_un (by omega), z_us]
              · rw [z_vn (by omega), z_vs, z_us, z_un (by omega), z_us, q2.2.1]
              · rw [z_vs, z_us, z_us, q3.2.1]
              · rw [z_un (show 3 * i + 1 ≠ 3 * i + 2 by omega), z_us, z_us]
                exact ⟨by rw [← q2.2.1]; exact q2.2.2, q3.2.2⟩
            · obtain ⟨y, y1, y2, y3, y4, y5, y6⟩ := r3 i (by omega)
              refine ⟨y, y1, by rw [z_vn q]; exact y2, ?_, ?_, ?_, ?_⟩
              · rw [z_un (by omega), z_un (by omega), z_un (by omega)]; exact y3
              · rw [z_vn (by omega), z_vs, z_un q, z_un (by omega), z_un (by omega), z_un (by omega)]; exact y4
              · rw [z_vs, z_un q, z_un (by omega), z_un (by omega), z_un (by omega)]; exact y5
              · rw [z_un (by omega), z_un (by omega), z_un (by omega), z_un (by omega), z_un (by omega), z_un (by omega)]; exact y6
        · exact Or.inr t4
      · refine (k1.sf.trans (sf.row.trans (k2.sf.trans (sf.row.trans k3.sf)))).trans ?_
        exact (sf.trans (sf.row (om := b3) (f := upd (b3.2 17) (3 * n + 2) d3)) sf.i18).trans k4.sf
end ORDER
