/-! The output's calls; the whole relation of class and model. -/
def ROut (oB oO om : ob) : Prop := ∃ L : Nat, L ≤ 60 ∧ RW L oB oO om
section OUT2
variable {P B J L : Nat} {os op ow oe om om2 om3 oB oB2 oB3 oO oO2 oO3 : ob} {qw qe : List Nat} {e : Int32}
theorem X_wq (h : RPos P B J os op ow oe (om.2 1) qw qe) (x : Int32) : ∃ (v : Int32) (oB2 oO2 om2 : ob), F_X8_writeQueue oB os op ow oe oO x = some (v, oB2, oO2) ∧ F_X9_writeQueue om x = some (v, om2) ∧ om2.1 0 = 0 ∧ ROut oB2 oO2 om2 ∧ wB oB oB2 ∧ (∀ i : Nat, i ≠ 0 → i ≠ 20 → om2.1 i = om.1 i) ∧ ∀ r : Nat, r ≠ 19 → om2.2 r = om.2 r := by
  have hP := h.hP
  have h0 : RW 0 (upd oB.1 9 0, oB.2) oO (upd (upd om.1 0 0) 20 0, om.2) := ⟨by dsimp only; rw [z_us]; rfl, by dsimp only; rw [z_us]; rfl, fun i hi => by omega⟩
  have hb : ∀ {oB2 om2 : ob}, wB (upd oB.1 9 0, oB.2) oB2 → wM (upd (upd om.1 0 0) 20 0, om.2) om2 → wB oB oB2 ∧ om2.1 0 = 0 ∧ (∀ i : Nat, i ≠ 0 → i ≠ 20 → om2.1 i = om.1 i) ∧ ∀ r : Nat, r ≠ 19 → om2.2 r = om.2 r := by
    intro oB2 om2 f k
    refine ⟨fun i hi => (f i hi).trans (z_un hi), (k.1 0 (by omega)).trans (by dsimp only; rw [z_un (by omega), z_us]), fun i h0 h20 => (k.1 i h20).trans (by dsimp only; rw [z_un h20, z_un h0]), k.2⟩
  by_cases hx : x = 0
  · have he : F_X9_truth x = some 0 := by rw [M_tru, if_pos hx]
    obtain ⟨L2, oB2, oO2, om2, n, s2, s3, s4, s5, s6⟩ := W_loop_w x he h qw.length 0 100000 100000 0 (upd oB.1 9 0, oB.2) oO (upd (upd om.1 0 0) 20 0, om.2) (by omega) (by have := h.hqw.1.lenP; omega) (by have := h.hqw.1.lenP; omega) (by omega) h0 rfl
    obtain ⟨b1, b2, b3, b4⟩ := hb s5 s6
    have s2 : F_X8_writeQueue_19_w os op ow oe x 100000 (upd oB.1 9 0, oB.2) oO 0 = _ := s2
    have s3 : F_X9_writeQueue_12 x 100000 (upd (upd om.1 0 0) 20 0, om.2) 0 = _ := s3
    refine ⟨nI L2, oB2, oO2, om2, ?_, ?_, b2, ⟨L2, n, s4⟩, b1, b3, b4⟩
    · simp only [F_X8_writeQueue, F_X8_bankOf, z_leN]
      rw [if_pos hx, z_bsN, if_neg (by decide), s2]
      simp only [z_bsN, s4.1]
    · simp only [F_X9_writeQueue, z_leN, s3, z_bsN, s4.2.1]
  · have he : F_X9_truth x = some 1 := by rw [M_tru, if_neg hx]
    obtain ⟨L2, oB2, oO2, om2, n, s2, s3, s4, s5, s6⟩ := W_loop_e x he h qe.length 0 100000 100000 0 (upd oB.1 9 0, oB.2) oO (upd (upd om.1 0 0) 20 0, om.2) (by omega) (by have := h.hqe.1.lenP; omega) (by have := h.hqe.1.lenP; omega) (by omega) h0 rfl
    obtain ⟨b1, b2, b3, b4⟩ := hb s5 s6
    have s2 : F_X8_writeQueue_19_e os op ow oe x 100000 (upd oB.1 9 0, oB.2) oO 0 = _ := s2
    have s3 : F_X9_writeQueue_12 x 100000 (upd (upd om.1 0 0) 20 0, om.2) 0 = _ := s3
    refine ⟨nI L2, oB2, oO2, om2, ?_, ?_, b2, ⟨L2, n, s4⟩, b1, b3, b4⟩
    · simp only [F_X8_writeQueue, F_X8_bankOf, z_leN]
      rw [if_neg hx, z_bsN, if_pos rfl, s2]
      simp only [z_bsN, s4.1]
    · simp only [F_X9_writeQueue, z_leN, s3, z_bsN, s4.2.1]
theorem X_ob (h : ROut oB oO om) (x : Int32) : zR1 (F_X8_outputByte oB oO x) (F_X9_outputByte om x) om := by
  obtain ⟨L, hL, h1, h2, h3⟩ := h
  have m20 : upd om.1 0 0 20 = nI L := by rw [z_un (by omega)]; exact h2
  rcases z_dec x L with hx | ⟨i, hi, -, rfl⟩
  · refine Or.inr ⟨0, ?_, ?_⟩
    · simp only [F_X8_outputByte, h1]
      by_cases q : x < 0
      · rw [if_pos q]
      · rw [if_neg q, if_neg (Int32.not_lt.mpr (hx.resolve_left q))]
    · simp only [F_X9_outputByte, z_leN, m20, M_in, z_bsN]
      rw [if_neg ?_, M_f0 (om := (upd om.1 0 0, om.2)) (c := 1) z_h0 (by decide)]
      · simp only [z_bsN, z_uu]
        rfl
      · rintro ⟨q1, q2⟩
        rcases hx with hx | hx
        · exact Int32.not_le.mpr hx q1
        · cases L with
          | zero => exact absurd (Int32.le_trans q1 q2) (by decide)
          | succ L =>
            rw [nI_pred] at q2
            have := Int32.le_trans hx q2
            exact nI_ge (a := L) (b := L + 1) (by omega) (by omega) this
  · refine Or.inl ⟨oO.2 0 i, ?_, ?_⟩
    · simp only [F_X8_outputByte, h1]
      rw [if_neg (nI_pos (by omega)), if_pos (nI_lt hi (by omega)), z_at (by omega) (by omega)]
    · simp only [F_X9_outputByte, z_leN, m20, M_in, z_bsN]
      rw [if_pos ⟨nI_pos' (by omega), by rw [z_pm1 (by omega)]; exact nI_le (by omega) (by omega)⟩, M_f1 (om := (upd om.1 0 0, om.2)) z_h0]
      simp only [z_bsN, if_true]
      rw [z_ald (by omega) (by omega), z_bsN, h3 i hi]
end OUT2
/-- class and model, between the law's rounds -/
def Inv (j : Nat) (st : lst) : Prop := ∃ P B : Nat, RX st.2.1 st.2.2.2.2.2.2.2.2.2.2.2.2.2.2.2.2.1 ∧ RG P B (50000 * j) st.1 st.2.2.2.1 st.2.2.2.2.1 st.2.2.2.2.2.1 st.2.2.2.2.2.2.1 st.2.2.2.2.2.2.2.2.2.2.1 st.2.2.2.2.2.2.2.2.2.2.2.1 st.2.2.2.2.2.2.2.2.2.2.2.2.1 st.2.2.2.2.2.2.2.2.2.2.2.2.2.1 st.2.2.2.2.2.2.2.2.2.2.2.2.2.2.2.2.1 ∧ ROut st.1 st.2.2.2.2.2.2.2.2.2.2.2.2.2.2.2.1 st.2.2.2.2.2.2.2.2.2.2.2.2.2.2.2.2.1
