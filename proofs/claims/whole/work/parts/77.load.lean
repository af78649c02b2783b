/-! The bridges of a text; a game begins. -/
section LOADS
variable {ot om od ot2 om2 od2 ot3 om3 os op ow oe : ob} {E n s p b P B : Nat} {g g2 : Nat → Int32} {v8 v9 v10 v11 v26 : Int32}
theorem F_bC {fc : Nat} {x : Int32} (h : FX ot om) : F_X8_readBridges_2 (fc + 1) ot od x = some (x, ot, od) := by
  simp only [F_X8_readBridges_2, (h.is 6).1, z_bsN]
  split
  · rfl
  · simp only [if_true]
theorem F_bM {fm : Nat} (h : FX ot om) : F_X9_readsText_137 v8 v9 v10 v11 v26 (fm + 1) om = some om := by
  simp only [F_X9_readsText_137]
  rw [if_neg h.w]
theorem F_end (h : FX ot om) : F_X6_isAtEnd ot = some 0 := by
  simp only [F_X6_isAtEnd]
  rw [if_neg h.1]
theorem F_ck2 {c : Prop} [Decidable c] (h : FX ot om) : (if c then (F_X6_fail ot 1).bind fun y11 => some (y11, od) else (F_X6_isAtEnd ot).bind fun y12 => if y12 = (0 : Int32) then (F_X6_fail ot 1).bind fun y14 => some (y14, od) else some (ot, od)) = some (ot, od) := by
  rw [h.failC, F_end h]
  split
  · rfl
  · simp only [z_bsN, if_true]
theorem M_be1 (hL : LD p b od (om.2 1)) (hf : F_X9_isWord om 6 = some 0) (he : F_X9_errs om 1 = some om2) (hF : FX ot2 om2) (hk : mf om om2) : F_X9_readsBridge om = some om2 := by
  have h9 : om2.2 1 9 = nI b := by rw [hk.2]; exact hL.1.2.2.2.2.2.2.2.1
  simp only [F_X9_readsBridge, hf, z_bsN]
  rw [if_pos trivial, he]
  simp only [z_bsN, z_al9, h9, hF.failM]
  split
  · simp only [z_bsN]
    rw [if_neg hF.w]
  · simp only [z_bsN]
    rw [if_neg hF.w]
theorem M_be3 (hL : LD p 4 od (om.2 1)) (hf : F_X9_isWord om 6 = some 1) (he : F_X9_errs om 3 = some om2) (hF : FX ot2 om2) : F_X9_readsBridge om = some om2 := by
  have h9 : om.2 1 9 = nI 4 := hL.1.2.2.2.2.2.2.2.1
  simp only [F_X9_readsBridge, hf, z_bsN]
  rw [if_neg (by decide)]
  simp only [z_bsN, z_al9, h9]
  rw [if_pos (by decide), he]
  simp only [z_bsN]
  rw [if_neg hF.w]
theorem M_isk {t : Nat} (h : F_X9_isWord om t = some 1) : om.1 13 = 1 := by
  simp only [F_X9_isWord] at h
  split at h
  · split at h
    · assumption
    · cases h
  · cases h
theorem TX.k0 (h : TX E ot om) : ot.1 3 = 0 ↔ om.1 13 = 0 := by
  obtain ⟨_, _, _, _, s, n, _, _, _, _, _, _, hD⟩ := h
  rcases hD with d | d | d | d | d
  · rw [d.1, d.2]
  · rw [d.1, d.2]
  · rw [d.1, d.2.1]
  · rw [d.1, d.2.1]
  · rw [d.1, d.2.1]; decide
theorem TX.atEnd (h : TX E ot om) : F_X6_isAtEnd ot = some (if om.1 13 = 0 then 1 else 0) := by
  simp only [F_X6_isAtEnd]
  rw [if_pos h.1]
  by_cases q : om.1 13 = 0
  · rw [if_pos (h.k0.mpr q), if_pos q]
  · rw [if_neg (fun r => q (h.k0.mp r)), if_neg q]
theorem L_bridges : ∀ (d b fc fm : Nat) (ot om od : ob), b + d = 4 → d + 1 < fc → d + 2 < fm → TX E ot om → LD p b od (om.2 1) → ∃ (x : Int32) (ot2 od2 ot3 om2 : ob), F_X8_readBridges_2 fc ot od (nI b) = some (x, ot2, od2) ∧ (if od2.1 5 = (0 : Int32) then (F_X6_fail ot2 1).bind fun y11 => some (y11, od2) else (F_X6_isAtEnd ot2).bind fun y12 => if y12 = (0 : Int32) then (F_X6_fail ot2 1).bind fun y14 => some (y14, od2) else some (ot2, od2)) = some (ot3, od2) ∧ F_X9_readsText_137 v8 v9 v10 v11 v26 fm om = some om2 ∧ ((TX E ot3 om2 ∧ ∃ B : Nat, 1 ≤ B ∧ B ≤ 4 ∧ LD p B od2 (om2.2 1)) ∨ FX ot3 om2) ∧ tf ot ot3 ∧ lf om om2 := by
  intro d
  induction d with
  | zero =>
    intro b fc fm ot om od hb hc hm h hL
    obtain ⟨fc, rfl⟩ : ∃ q, fc = q + 2 := ⟨fc - 2, by omega⟩
    obtain ⟨fm, rfl⟩ : ∃ q, fm = q + 2 := ⟨fm - 2, by omega⟩
    obtain rfl : b = 4 := by omega
    obtain ⟨w, hw, i1, i2⟩ := T_is (Or.inl h) 6
    have h9 : om.2 1 9 = nI 4 := hL.1.2.2.2.2.2.2.2.1
    have h5 : od.1 5 = nI 4 := hL.1.2.2.2.2.2.1
    rcases hw with rfl | rfl
    · by_cases q : om.1 13 = 0
      · refine ⟨nI 4, ot, od, ot, om, ?_, ?_, ?_, Or.inl ⟨h, 4, by omega, by omega, hL⟩, tf.refl, lf.refl⟩
        · rw [F_X8_readBridges_2]
          simp only [i1, z_bsN]
          rw [if_neg (by decide), if_pos trivial]
        · rw [h5, if_neg (by decide), h.atEnd, if_pos q]
          rfl
        · rw [F_X9_readsText_137]
          simp only [h.2.1, z_al9, z_bsN, h9]
          rw [if_pos trivial, if_neg (by decide), if_pos q]
      · obtain ⟨ot2, om2, f1, f2, f3, f4, f5⟩ := h.fail (c := 1) (by decide)
        refine ⟨nI 4, ot, od, ot2, om2, ?_, ?_, ?_, Or.inr f3, f4, f5.lf⟩
        · rw [F_X8_readBridges_2]
          simp only [i1, z_bsN]
          rw [if_neg (by decide), if_pos trivial]
        · rw [h5, if_neg (by decide), h.atEnd, if_neg q, f1]
          rfl
        · rw [F_X9_readsText_137]
          simp only [h.2.1, z_al9, z_bsN, h9]
          rw [if_pos trivial, if_neg (by decide), if_neg q, M_be1 hL i2 f2 f3 f5]
          simp only [z_bsN]
          exact F_bM f3
    · have hk := M_isk i2
      obtain ⟨ot2, om2, f1, f2, f3, f4, f5⟩ := h.fail (c := 3) (by decide)
      refine ⟨nI 4 + 1, ot2, od, ot2, om2, ?_, F_ck2 f3, ?_, Or.inr f3, f4, f5.lf⟩
      · rw [F_X8_readBridges_2]
        simp only [i1, z_bsN]
        rw [if_neg (by decide), if_neg (by decide), if_pos (by decide), f1]
        simp only [z_bsN]
        exact F_bC f3
      · rw [F_X9_readsText_137]
        simp only [h.2.1, z_al9, z_bsN, h9, hk]
        rw [if_pos trivial, if_neg (by decide), if_neg (by decide), M_be3 hL i2 f2 f3]
        simp only [z_bsN]
        exact F_bM f3
  | succ d ih =>
    intro b fc fm ot om od hb hc hm h hL
    obtain ⟨fc, rfl⟩ : ∃ q, fc = q + 2 := ⟨fc - 2, by omega⟩
    obtain ⟨fm, rfl⟩ : ∃ q, fm = q + 2 := ⟨fm - 2, by omega⟩
    obtain ⟨w, hw, i1, i2⟩ := T_is (Or.inl h) 6
    have h9 : om.2 1 9 = nI b := hL.1.2.2.2.2.2.2.2.1
    have h5 : od.1 5 = nI b := hL.1.2.2.2.2.2.1
    have hb4 : ¬ (4 : Int32) < nI b := Int32.not_lt.mpr (nI_le (a := b) (b := 4) (by omega) (by omega))
    have hne : ¬ nI b = (4 : Int32) := fun e => by have := (nI_eq (a := b) (b := 4) (by omega) (by omega)).mp e; omega
    rcases hw with rfl | rfl
    · have hc1 : F_X8_readBridges_2 (fc + 2) ot od (nI b) = some (nI b, ot, od) := by
        rw [F_X8_readBridges_2]
        simp only [i1, z_bsN]
        rw [if_neg hb4, if_pos trivial]
      by_cases r : b = 0
      · subst r
        obtain ⟨ot2, om2, f1, f2, f3, f4, f5⟩ := h.fail (c := 1) (by decide)
        refine ⟨nI 0, ot, od, ot2, om2, hc1, ?_, ?_, Or.inr f3, f4, f5.lf⟩
        · rw [h5, if_pos (by decide), f1]
          rfl
        · rw [F_X9_readsText_137]
          simp only [h.2.1, z_al9, z_bsN, h9]
          rw [if_pos trivial, if_pos (by decide), M_be1 hL i2 f2 f3 f5]
          simp only [z_bsN]
          exact F_bM f3
      · have hb1 : ¬ nI b < (1 : Int32) := Int32.not_lt.mpr (nI_le (a := 1) (b := b) (by omega) (by omega))
        by_cases q : om.1 13 = 0
        · refine ⟨nI b, ot, od, ot, om, hc1, ?_, ?_, Or.inl ⟨h, b, by omega, by omega, hL⟩, tf.refl, lf.refl⟩
          · rw [h5, if_neg (nI_ne0 (by omega) (by omega)), h.atEnd, if_pos q]
            rfl
          · rw [F_X9_readsText_137]
            simp only [h.2.1, z_al9, z_bsN, h9]
            rw [if_pos trivial, if_neg hb1, if_pos q]
        · obtain ⟨ot2, om2, f1, f2, f3, f4, f5⟩ := h.fail (c := 1) (by decide)
          refine ⟨nI b, ot, od, ot2, om2, hc1, ?_, ?_, Or.inr f3, f4, f5.lf⟩
          · rw [h5, if_neg (nI_ne0 (by omega) (by omega)), h.atEnd, if_neg q, f1]
            rfl
          · rw [F_X9_readsText_137]
            simp only [h.2.1, z_al9, z_bsN, h9]
            rw [if_pos trivial, if_neg hb1, if_neg q, M_be1 hL i2 f2 f3 f5]
            simp only [z_bsN]
            exact F_bM f3
    · have hk := M_isk i2
      obtain ⟨a1, o1, b1, r1, r2, r3, r4, r5⟩ := L_bridge h hL (by omega) i1 i2
      have hcl : F_X8_readBridges_2 (fc + 1 + 1) ot od (nI b) = F_X8_readBridges_2 (fc + 1) a1 o1 (nI (b + 1)) := by
        rw [F_X8_readBridges_2]
        simp only [i1, z_bsN]
        rw [if_neg hb4, if_neg (by decide), if_neg hne, r1, nI_1]
        simp only [z_bsN]
      have hml : F_X9_readsText_137 v8 v9 v10 v11 v26 (fm + 1 + 1) om = F_X9_readsText_137 v8 v9 v10 v11 v26 (fm + 1) b1 := by
        rw [F_X9_readsText_137]
        simp only [h.2.1, z_al9, z_bsN, h9, r2, hk]
        rw [if_pos trivial]
        split
        · rfl
        · rw [if_neg (by decide)]
      rw [hcl, hml]
      rcases r3 with ⟨t1, L1⟩ | t1
      · obtain ⟨x, ot2, od2, ot3, om2, s1, s2, s3, s4, s5, s6⟩ := ih (b + 1) (fc + 1) (fm + 1) a1 b1 o1 (by omega) (by omega) (by omega) t1 L1
        exact ⟨x, ot2, od2, ot3, om2, s1, s2, s3, s4, r4.trans s5, r5.trans s6⟩
      · exact ⟨_, a1, o1, a1, b1, F_bC t1, F_ck2 t1, F_bM t1, Or.inr t1, r4, r5⟩
/-- a game begins -/
theorem B_113 {kv : Nat → Int32} (hk : ∀ i : Nat, i < 10 → F_X5_hasKing os (nI i) = some (kv i)) : ∀ (d k fu : Nat) (op : ob), k + d = 10 → d < fu → (∀ i : Nat, i < k → op.2 8 i = nI i ∧ op.2 9 i = 0 ∧ op.2 10 i = (if kv i = 0 then -1 else nI i) ∧ op.2 12 i = 0) → ∃ (x : Int32) (op2 : ob), F_X2_begin_113 os fu op ow oe (nI k) = some (x, op2, ow, oe) ∧ op2.1 = op.1 ∧ (∀ r : Nat, r ≠ 8 → r ≠ 9 → r ≠ 10 → r ≠ 12 → op2.2 r = op.2 r) ∧ ∀ i : Nat, i < 10 → op2.2 8 i = nI i ∧ op2.2 9 i = 0 ∧ op2.2 10 i = (if kv i = 0 then -1 else nI i) ∧ op2.2 12 i = 0 := by
  intro d
  induction d with
  | zero =>
    intro k fu op h1 h2 h
    obtain ⟨fu, rfl⟩ : ∃ q, fu = q + 1 := ⟨fu - 1, by omega⟩
    obtain rfl : k = 10 := by omega
    refine ⟨nI 10, op, ?_, rfl, fun r _ _ _ _ => rfl, h⟩
    rw [F_X2_begin_113]
    rw [if_pos (by decide)]
  | succ d ih =>
    intro k fu op h1 h2 h
    obtain ⟨fu, rfl⟩ : ∃ q, fu = q + 1 := ⟨fu - 1, by omega⟩
    have k10 : ¬ (10 : Int32) ≤ nI k := nI_ge (a := k) (b := 10) (by omega) (by omega)
    have hst : F_X2_begin_113 os (fu + 1) op ow oe (nI k) = F_X2_begin_113 os fu (op.1, va_up (va_up (va_up (va_up op.2 8 (upd (op.2 8) k (nI k))) 9 (upd (op.2 9) k 0)) 10 (upd (op.2 10) k (if kv k = 0 then -1 else nI k))) 12 (upd (op.2 12) k 0)) ow oe (nI (k + 1)) := by
      rw [F_X2_begin_113]
      simp only [hk k (by omega), z_bsN, z_leN, nI_1]
      rw [if_neg k10]
      by_cases q : kv k = 0
      · rw [if_pos q, if_pos q]
        simp (disch := omega) only [z_put, z_vn, z_vs]
      · rw [if_neg q, if_neg q]
        simp (disch := omega) only [z_put, z_vn, z_vs]
    rw [hst]
    obtain ⟨x, op2, s1, s2, s3, s4⟩ := ih (k + 1) fu (op.1, va_up (va_up (va_up (va_up op.2 8 (upd (op.2 8) k (nI k))) 9 (upd (op.2 9) k 0)) 10 (upd (op.2 10) k (if kv k = 0 then -1 else nI k))) 12 (upd (op.2 12) k 0)) (by omega) (by omega) (fun i hi => by
      by_cases r : i = k
      · subst r
        simp (disch := omega) only [z_vn, z_vs, z_us]
        exact ⟨trivial, trivial, trivial, trivial⟩
      · simp (disch := omega) only [z_vn, z_vs, z_un]
        exact h i (by omega))
    refine ⟨x, op2, s1, s2, fun r r8 r9 r10 r12 => ?_, s4⟩
    rw [s3 r r8 r9 r10 r12]
    dsimp only
    rw [z_vn r12, z_vn r10, z_vn r9, z_vn r8]
end LOADS
