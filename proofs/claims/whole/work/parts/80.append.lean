/-! Bytes are appended. -/
theorem z_sh24 (x : Int32) : ((x.toUInt32 >>> ((24 : Int32).toUInt32 &&& Int32.toUInt32 31)).toInt32 &&& 255) = ((x >>> ((24 : Int32) &&& 31)) &&& 255) := by
  rw [show (24 : Int32).toUInt32 &&& Int32.toUInt32 31 = 24 from by decide, show (24 : Int32) &&& 31 = 24 from by decide]
  apply Int32.toBitVec_inj.mp
  rw [Int32.toBitVec_and, Int32.toBitVec_and, Int32.toBitVec_shiftRight]
  apply BitVec.eq_of_getLsbD_eq
  intro i hi
  rw [BitVec.getLsbD_and, BitVec.getLsbD_and]
  by_cases h : i < 8
  · congr 1
    show (x.toBitVec >>> 24).getLsbD i = (x.toBitVec.sshiftRight 24).getLsbD i
    rw [BitVec.getLsbD_ushiftRight, BitVec.getLsbD_sshiftRight]
    have : 24 + i < 32 := by omega
    simp [this, hi]
  · have : (255 : Int32).toBitVec.getLsbD i = false := by
      have h2 : i < 32 := hi
      revert h h2
      revert i
      decide
    rw [this, Bool.and_false, Bool.and_false]
theorem z_sh16 (x : Int32) : ((x.toUInt32 >>> ((16 : Int32).toUInt32 &&& Int32.toUInt32 31)).toInt32 &&& 255) = ((x >>> ((16 : Int32) &&& 31)) &&& 255) := by
  rw [show (16 : Int32).toUInt32 &&& Int32.toUInt32 31 = 16 from by decide, show (16 : Int32) &&& 31 = 16 from by decide]
  apply Int32.toBitVec_inj.mp
  rw [Int32.toBitVec_and, Int32.toBitVec_and, Int32.toBitVec_shiftRight]
  apply BitVec.eq_of_getLsbD_eq
  intro i hi
  rw [BitVec.getLsbD_and, BitVec.getLsbD_and]
  by_cases h : i < 8
  · congr 1
    show (x.toBitVec >>> 16).getLsbD i = (x.toBitVec.sshiftRight 16).getLsbD i
    rw [BitVec.getLsbD_ushiftRight, BitVec.getLsbD_sshiftRight]
    have : 16 + i < 32 := by omega
    simp [this, hi]
  · have : (255 : Int32).toBitVec.getLsbD i = false := by
      have h2 : i < 32 := hi
      revert h h2
      revert i
      decide
    rw [this, Bool.and_false, Bool.and_false]
theorem z_sh8 (x : Int32) : ((x.toUInt32 >>> ((8 : Int32).toUInt32 &&& Int32.toUInt32 31)).toInt32 &&& 255) = ((x >>> ((8 : Int32) &&& 31)) &&& 255) := by
  rw [show (8 : Int32).toUInt32 &&& Int32.toUInt32 31 = 8 from by decide, show (8 : Int32) &&& 31 = 8 from by decide]
  apply Int32.toBitVec_inj.mp
  rw [Int32.toBitVec_and, Int32.toBitVec_and, Int32.toBitVec_shiftRight]
  apply BitVec.eq_of_getLsbD_eq
  intro i hi
  rw [BitVec.getLsbD_and, BitVec.getLsbD_and]
  by_cases h : i < 8
  · congr 1
    show (x.toBitVec >>> 8).getLsbD i = (x.toBitVec.sshiftRight 8).getLsbD i
    rw [BitVec.getLsbD_ushiftRight, BitVec.getLsbD_sshiftRight]
    have : 8 + i < 32 := by omega
    simp [this, hi]
  · have : (255 : Int32).toBitVec.getLsbD i = false := by
      have h2 : i < 32 := hi
      revert h h2
      revert i
      decide
    rw [this, Bool.and_false, Bool.and_false]
theorem z_sh0 (x : Int32) : ((x.toUInt32 >>> ((0 : Int32).toUInt32 &&& Int32.toUInt32 31)).toInt32 &&& 255) = ((x >>> ((0 : Int32) &&& 31)) &&& 255) := by
  rw [show (0 : Int32).toUInt32 &&& Int32.toUInt32 31 = 0 from by decide, show (0 : Int32) &&& 31 = 0 from by decide]
  apply Int32.toBitVec_inj.mp
  rw [Int32.toBitVec_and, Int32.toBitVec_and, Int32.toBitVec_shiftRight]
  apply BitVec.eq_of_getLsbD_eq
  intro i hi
  rw [BitVec.getLsbD_and, BitVec.getLsbD_and]
  by_cases h : i < 8
  · congr 1
    show (x.toBitVec >>> 0).getLsbD i = (x.toBitVec.sshiftRight 0).getLsbD i
    rw [BitVec.getLsbD_ushiftRight, BitVec.getLsbD_sshiftRight]
    have : 0 + i < 32 := by omega
    simp [this, hi]
  · have : (255 : Int32).toBitVec.getLsbD i = false := by
      have h2 : i < 32 := hi
      revert h h2
      revert i
      decide
    rw [this, Bool.and_false, Bool.and_false]
def AB (S : Nat) (ot om : ob) : Prop := ot.1 1 = nI S ∧ om.1 9 = nI S ∧ ∀ i : Nat, i < S → ot.2 0 i = om.2 8 i
def fA (ot ot2 : ob) : Prop := ∀ i : Nat, i ≠ 1 → ot2.1 i = ot.1 i
def fM (om om2 : ob) : Prop := (∀ i : Nat, i ≠ 9 → om2.1 i = om.1 i) ∧ ∀ r : Nat, r ≠ 8 → om2.2 r = om.2 r
section APP
variable {ot om ot2 om2 os op ow oe np nw ne oB : ob} {oH : hst} {S P B J : Nat} {x v : Int32}
theorem AB.put (h : AB S ot om) (v : Int32) : AB (S + 1) (upd ot.1 1 (nI (S + 1)), va_up ot.2 0 (upd (ot.2 0) S v)) (upd om.1 9 (nI (S + 1)), va_up om.2 8 (upd (om.2 8) S v)) := by
  refine ⟨by dsimp only; rw [z_us], by dsimp only; rw [z_us], fun i hi => ?_⟩
  dsimp only
  rw [z_vs, z_vs]
  by_cases q : i = S
  · subst q; rw [z_us, z_us]
  · rw [z_un q, z_un q]; exact h.2.2 i (by omega)
theorem AW {c : Int32} {fu : Nat} (hc : ¬ c < 0) (hv : ((x.toUInt32 >>> (c.toUInt32 &&& Int32.toUInt32 31)).toInt32 &&& 255) = v) (hS : S < 500) (h : ot.1 1 = nI S) : F_X6_appendWord_3 x (fu + 1) ot c = F_X6_appendWord_3 x fu (upd ot.1 1 (nI (S + 1)), va_up ot.2 0 (upd (ot.2 0) S v)) (c + -8) := by
  rw [F_X6_appendWord_3, if_neg hc]
  simp only [z_leN, h, hv, nI_1]
  rw [z_put hS (by omega)]
theorem MW {c : Int32} {fu : Nat} (hc : ¬ c < 0) (hv : ((x >>> (c &&& 31)) &&& (255 : Int32)) = v) (hS : S < 500) (h : om.1 9 = nI S) : F_X9_bytes_3 x (fu + 1) om c = F_X9_bytes_3 x fu (upd om.1 9 (nI (S + 1)), va_up om.2 8 (upd (om.2 8) S v)) (c + -8) := by
  rw [F_X9_bytes_3, if_neg hc]
  simp only [z_leN, h, hv, nI_1]
  rw [z_ast hS (by omega)]
  simp only [z_bsN]
theorem A_word (h : AB S ot om) (hS : S + 4 ≤ 500) (x : Int32) : ∃ ot2 om2 : ob, F_X6_appendWord ot x = some ot2 ∧ F_X9_bytes om x = some om2 ∧ AB (S + 4) ot2 om2 ∧ fA ot ot2 ∧ fM om om2 := by
  have h1 := h.put ((x >>> ((24 : Int32) &&& 31)) &&& 255)
  have h2 := h1.put ((x >>> ((16 : Int32) &&& 31)) &&& 255)
  have h3 := h2.put ((x >>> ((8 : Int32) &&& 31)) &&& 255)
  have h4 := h3.put ((x >>> ((0 : Int32) &&& 31)) &&& 255)
  refine ⟨_, _, ?_, ?_, h4, fun i hi => ?_, ⟨fun i hi => ?_, fun r hr => ?_⟩⟩
  · rw [F_X6_appendWord, show F_X6_appendWord_3 x 100000 ot 24 = _ from AW (fu := 99999) (c := 24) (by decide) (z_sh24 x) (by omega) h.1, show F_X6_appendWord_3 x 99999 _ (24 + -8) = _ from AW (fu := 99998) (c := 16) (by decide) (z_sh16 x) (by omega) h1.1, show F_X6_appendWord_3 x 99998 _ (16 + -8) = _ from AW (fu := 99997) (c := 8) (by decide) (z_sh8 x) (by omega) h2.1, show F_X6_appendWord_3 x 99997 _ (8 + -8) = _ from AW (fu := 99996) (c := 0) (by decide) (z_sh0 x) (by omega) h3.1]
    rw [show F_X6_appendWord_3 x 99996 _ (0 + -8) = F_X6_appendWord_3 x (99995 + 1) _ (0 + -8) from rfl, F_X6_appendWord_3, if_pos (by decide)]
    rfl
  · rw [F_X9_bytes, show F_X9_bytes_3 x 100000 om 24 = _ from MW (fu := 99999) (c := 24) (by decide) rfl (by omega) h.2.1, show F_X9_bytes_3 x 99999 _ (24 + -8) = _ from MW (fu := 99998) (c := 16) (by decide) rfl (by omega) h1.2.1, show F_X9_bytes_3 x 99998 _ (16 + -8) = _ from MW (fu := 99997) (c := 8) (by decide) rfl (by omega) h2.2.1, show F_X9_bytes_3 x 99997 _ (8 + -8) = _ from MW (fu := 99996) (c := 0) (by decide) rfl (by omega) h3.2.1]
    rw [show F_X9_bytes_3 x 99996 _ (0 + -8) = F_X9_bytes_3 x (99995 + 1) _ (0 + -8) from rfl, F_X9_bytes_3, if_pos (by decide)]
    rfl
  · simp (disch := omega) only [z_un]
  · simp (disch := omega) only [z_un]
  · simp (disch := omega) only [z_vn]
theorem fA.trans {ot3 : ob} (h : fA ot ot2) (h2 : fA ot2 ot3) : fA ot ot3 := fun i hi => (h2 i hi).trans (h i hi)
theorem fM.trans {om3 : ob} (h : fM om om2) (h2 : fM om2 om3) : fM om om3 := ⟨fun i hi => (h2.1 i hi).trans (h.1 i hi), fun i hi => (h2.2 i hi).trans (h.2 i hi)⟩
theorem X_append (hX : RX ot om) (x1 x2 x3 x4 x5 : Int32) : ∃ (v : Int32) (ot2 om2 : ob), F_X8_appendText oB ot x1 x2 x3 x4 x5 = some (v, ot2) ∧ F_X9_appendText om x1 x2 x3 x4 x5 = some (v, om2) ∧ om2.1 0 = 0 ∧ RX ot2 om2 ∧ (∀ i : Nat, i ≠ 0 → i ≠ 9 → om2.1 i = om.1 i) ∧ ∀ r : Nat, r ≠ 8 → om2.2 r = om.2 r := by
  obtain ⟨S, hS, e1, e9, e7, e8, eb⟩ := hX
  have m9 : upd om.1 0 0 9 = nI S := by rw [z_un (by omega)]; exact e9
  by_cases q : S ≤ 480
  · have h0 : AB S ot (upd om.1 0 0, om.2) := ⟨e1, m9, eb⟩
    obtain ⟨a1, b1, c1, d1, g1, f1, k1⟩ := A_word h0 (by omega) x1
    obtain ⟨a2, b2, c2, d2, g2, f2, k2⟩ := A_word g1 (by omega) x2
    obtain ⟨a3, b3, c3, d3, g3, f3, k3⟩ := A_word g2 (by omega) x3
    obtain ⟨a4, b4, c4, d4, g4, f4, k4⟩ := A_word g3 (by omega) x4
    obtain ⟨a5, b5, c5, d5, g5, f5, k5⟩ := A_word g4 (by omega) x5
    have hf := f1.trans (f2.trans (f3.trans (f4.trans f5)))
    have hk := k1.trans (k2.trans (k3.trans (k4.trans k5)))
    refine ⟨nI (S + 4 + 4 + 4 + 4 + 4), a5, b5, ?_, ?_, ?_, ⟨S + 4 + 4 + 4 + 4 + 4, by omega, g5.1, g5.2.1, ?_, ?_, g5.2.2⟩, fun i h0 h9 => ?_, hk.2⟩
    · simp only [F_X8_appendText, e1]
      rw [if_pos (show nI S ≤ (480 : Int32) from nI_le (a := S) (b := 480) q (by omega)), c1]
      simp only [z_bsN, c2, c3, c4, c5, g5.1]
    · simp only [F_X9_appendText, z_leN, m9]
      rw [show nI S + (20 : Int32) = nI (S + 20) from nI_add S 20, if_pos (show nI (S + 20) ≤ (500 : Int32) from nI_le (a := S + 20) (b := 500) (by omega) (by omega)), d1]
      simp only [z_bsN, d2, d3, d4, d5, g5.2.1]
    · rw [hk.1 0 (by omega)]; dsimp only; rw [z_us]
    · rw [hf 7 (by omega), hk.1 15 (by omega)]; dsimp only; rw [z_un (by omega)]; exact e7
    · rw [hf 8 (by omega), hk.1 16 (by omega)]; dsimp only; rw [z_un (by omega)]; exact e8
    · rw [hk.1 i h9]; dsimp only; rw [z_un h0]
  · refine ⟨-1, ot, (upd om.1 0 0, om.2), ?_, ?_, z_h0, ⟨S, hS, e1, m9, ?_, ?_, eb⟩, fun i h0 h9 => z_un h0, fun r _ => rfl⟩
    · simp only [F_X8_appendText, e1]
      rw [if_neg (show ¬ nI S ≤ (480 : Int32) from nI_ge (a := 480) (b := S) (by omega) (by omega))]
    · simp only [F_X9_appendText, z_leN, m9]
      rw [show nI S + (20 : Int32) = nI (S + 20) from nI_add S 20, if_neg (show ¬ nI (S + 20) ≤ (500 : Int32) from nI_ge (a := 500) (b := S + 20) (by omega) (by omega))]
    · dsimp only; rw [z_un (by omega)]; exact e7
    · dsimp only; rw [z_un (by omega)]; exact e8
end APP
