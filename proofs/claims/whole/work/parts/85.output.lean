/-! What writeQueue writes. -/
def RW (L : Nat) (oB oO om : ob) : Prop := oB.1 9 = nI L ∧ om.1 20 = nI L ∧ ∀ i : Nat, i < L → oO.2 0 i = om.2 19 i
def wB (oB oB2 : ob) : Prop := ∀ i : Nat, i ≠ 9 → oB2.1 i = oB.1 i
def wM (om om2 : ob) : Prop := (∀ i : Nat, i ≠ 20 → om2.1 i = om.1 i) ∧ ∀ r : Nat, r ≠ 19 → om2.2 r = om.2 r
section OUT
variable {P B J L : Nat} {os op ow oe om om2 om3 oB oB2 oB3 oO oO2 oO3 : ob} {qw qe : List Nat} {e : Int32}
theorem wB.refl : wB oB oB := fun _ _ => rfl
theorem wM.refl : wM om om := ⟨fun _ _ => rfl, fun _ _ => rfl⟩
theorem wB.trans (h : wB oB oB2) (h2 : wB oB2 oB3) : wB oB oB3 := fun i hi => (h2 i hi).trans (h i hi)
theorem wM.trans (h : wM om om2) (h2 : wM om2 om3) : wM om om3 := ⟨fun i hi => (h2.1 i hi).trans (h.1 i hi), fun i hi => (h2.2 i hi).trans (h.2 i hi)⟩
theorem W_byte (h : RW L oB oO om) (hL : L < 64) (x : Int32) : ∃ oB2 oO2 om2 : ob, F_X8_writeByte oB oO x = some (oB2, oO2) ∧ F_X9_writes om x = some om2 ∧ RW (L + 1) oB2 oO2 om2 ∧ wB oB oB2 ∧ wM om om2 := by
  obtain ⟨h1, h2, h3⟩ := h
  refine ⟨(upd oB.1 9 (nI (L + 1)), oB.2), (oO.1, va_up oO.2 0 (upd (oO.2 0) L x)), (upd om.1 20 (nI (L + 1)), va_up om.2 19 (upd (om.2 19) L x)), ?_, ?_, ⟨by dsimp only; rw [z_us], by dsimp only; rw [z_us], fun i hi => ?_⟩, fun i hi => z_un hi, ⟨fun i hi => z_un hi, fun r hr => z_vn hr⟩⟩
  · simp only [F_X8_writeByte, h1, z_leN, nI_1]
    rw [z_ig hL (by omega), z_put (by omega) (by omega)]
  · simp only [F_X9_writes, h2, z_leN, nI_1]
    rw [z_ast (by omega) (by omega)]
    simp only [z_bsN]
  · dsimp only
    rw [z_vs, z_vs]
    by_cases q : i = L
    · subst q; rw [z_us, z_us]
    · rw [z_un q, z_un q]; exact h3 i (by omega)
theorem W_num (h : RW L oB oO om) (hL : L + 2 < 64) (x : Int32) : ∃ (L2 : Nat) (oB2 oO2 om2 : ob), L2 ≤ L + 2 ∧ (x < 10 → L2 ≤ L + 1) ∧ F_X8_writeNumber oB oO x = some (oB2, oO2) ∧ F_X9_writesNumber om x = some om2 ∧ RW L2 oB2 oO2 om2 ∧ wB oB oB2 ∧ wM om om2 := by
  have hc : (x < 10) ↔ (x ≤ 9) := by grind
  simp only [F_X8_writeNumber, F_X9_writesNumber]
  by_cases q : x < 10
  · obtain ⟨a, b, c, e1, e2, e3, e4, e5⟩ := W_byte h (by omega) (48 + (x - x / 10 * 10))
    rw [if_pos q, if_pos (hc.mp q)]
    refine ⟨L + 1, a, b, c, by omega, fun _ => by omega, ?_, ?_, e3, e4, e5⟩
    · simp only [z_bsN, e1]
    · simp only [z_bsN, e2]
  · obtain ⟨a0, b0, c0, f1, f2, f3, f4, f5⟩ := W_byte h (by omega) (48 + x / 10)
    obtain ⟨a, b, c, e1, e2, e3, e4, e5⟩ := W_byte f3 (by omega) (48 + (x - x / 10 * 10))
    rw [if_neg q, if_neg (fun r => q (hc.mpr r))]
    refine ⟨L + 1 + 1, a, b, c, by omega, fun r => absurd r q, ?_, ?_, e3, f4.trans e4, f5.trans e5⟩
    · simp only [f1, z_bsN, e1]
    · simp only [f2, z_bsN, e2]
theorem W_if (h : RW L oB oO om) (hL : L < 64) {c d : Prop} [Decidable c] [Decidable d] (hcd : c ↔ d) (x : Int32) : ∃ (L2 : Nat) (oB2 oO2 om2 : ob), L2 ≤ L + 1 ∧ (if c then some (oB, oO) else (F_X8_writeByte oB oO x).bind fun y => some (y.1, y.2)) = some (oB2, oO2) ∧ (if d then some om else (F_X9_writes om x).bind fun y => some y) = some om2 ∧ RW L2 oB2 oO2 om2 ∧ wB oB oB2 ∧ wM om om2 := by
  by_cases q : c
  · rw [if_pos q, if_pos (hcd.mp q)]
    exact ⟨L, oB, oO, om, by omega, rfl, rfl, h, wB.refl, wM.refl⟩
  · obtain ⟨a, b, c, e1, e2, e3, e4, e5⟩ := W_byte h hL x
    rw [if_neg q, if_neg (fun r => q (hcd.mpr r)), e1, e2]
    exact ⟨L + 1, a, b, c, by omega, rfl, rfl, e3, e4, e5⟩
theorem W_loop_w (x1 : Int32) (he : F_X9_truth x1 = some 0) {g : Nat → Int32} (hR : RPos P B J os op ow oe g qw qe) : ∀ (d i fc fm L : Nat) (oB oO om : ob), i + d = qw.length → d < fc → d < fm → L ≤ 6 * i → RW L oB oO om → om.2 1 = g → ∃ (L2 : Nat) (oB2 oO2 om2 : ob), L2 ≤ 60 ∧ F_X8_writeQueue_19_w os op ow oe x1 fc oB oO (nI i) = some (nI qw.length, oB2, oO2) ∧ F_X9_writeQueue_12 x1 fm om (nI i) = some (nI qw.length, om2) ∧ RW L2 oB2 oO2 om2 ∧ wB oB oB2 ∧ wM om om2 := by
  have hq := hR.hqw
  have hP := hR.hP
  have hl := hq.1.lenP
  intro d
  induction d with
  | zero =>
    intro i fc fm L oB oO om hi h1 h2 hL h hg
    obtain ⟨fc, rfl⟩ : ∃ n, fc = n + 1 := ⟨fc - 1, by omega⟩
    obtain ⟨fm, rfl⟩ : ∃ n, fm = n + 1 := ⟨fm - 1, by omega⟩
    obtain rfl : i = qw.length := by omega
    have hlen : F_X9_lengthOf om 0 = some (nI qw.length) := M_len hP.2 (by rw [hg]; exact hR.h8) (by rw [hg]; exact hq.1)
    refine ⟨L, oB, oO, om, by omega, ?_, ?_, h, wB.refl, wM.refl⟩
    · rw [F_X8_writeQueue_19_w, hq.2.1, if_pos (Int32.le_refl _)]
    · rw [F_X9_writeQueue_12, he, z_bsN, hlen, z_bsN, if_pos (Int32.le_refl _)]
  | succ d ih =>
    intro i fc fm L oB oO om hi h1 h2 hL h hg
    obtain ⟨fc, rfl⟩ : ∃ n, fc = n + 1 := ⟨fc - 1, by omega⟩
    obtain ⟨fm, rfl⟩ : ∃ n, fm = n + 1 := ⟨fm - 1, by omega⟩
    have hi2 : i < qw.length := by omega
    have hp := (hq.1.at hi2).1
    have hp10 : qw[i] < 10 := by omega
    have hlen : F_X9_lengthOf om 0 = some (nI qw.length) := M_len hP.2 (by rw [hg]; exact hR.h8) (by rw [hg]; exact hq.1)
    have hat : F_X9_at om 0 (nI i) = some (nI qw[i]) := M_atQ hP.2 (by rw [hg]; exact hR.h8) (by rw [hg]; exact hq.1) hi2
    obtain ⟨L1, a1, b1, c1, n1, e1, m1, r1, f1, k1⟩ := W_if h (by omega) (c := nI i ≤ 0) (d := nI i ≤ 0) Iff.rfl 32
    obtain ⟨L2, a2, b2, c2, n2, n2', e2, m2, r2, f2, k2⟩ := W_num r1 (by omega) (nI qw[i])
    obtain ⟨a3, b3, c3, e3, m3, r3, f3, k3⟩ := W_byte r2 (by omega) 58
    have g3 : c3.2 1 = g := by rw [k3.2 1 (by omega), k2.2 1 (by omega), k1.2 1 (by omega), hg]
    have n2 := n2' (nI_lt (a := qw[i]) (b := 10) hp10 (by omega))
    obtain ⟨L4, a4, b4, c4, n4, n4', e4, m4, r4, f4, k4⟩ := W_num r3 (by omega) (g (12 + 8 * qw[i] + 6) - 1)
    have g4 : c4.2 1 = g := by rw [k4.2 1 (by omega), g3]
    obtain ⟨rr, hr, er⟩ := hR.ra hp
    have hrk : F_X9_rankOf c4 (nI qw[i]) = some (z_rk g qw[i]) := by
      rw [M_rk hp10 (by rw [g4]; exact er) (show rr < 10 by omega), g4, z_rkE er (show rr < 10 by omega)]
    have htk : F_X9_isTaken c4 (nI qw[i]) (z_rk g qw[i]) = some (if z_kb g qw[i] (z_rk g qw[i]) < g 1 then 1 else 0) := by
      rw [M_tk hp10, g4]
    obtain ⟨L5, a5, b5, c5, n5, e5, m5, r5, f5, k5⟩ := W_if r4 (by omega) (c := (if z_kb g qw[i] (z_rk g qw[i]) < g 1 then (1 : Int32) else 0) = 0) (d := (if z_kb g qw[i] (z_rk g qw[i]) < g 1 then (1 : Int32) else 0) = 0) Iff.rfl 33
    have g5 : c5.2 1 = g := by rw [k5.2 1 (by omega), g4]
    obtain ⟨L6, oB6, oO6, om6, s1, s2, s3, s4, s5, s6⟩ := ih (i + 1) fc fm L5 a5 b5 c5 (by omega) (by omega) (by omega) (by omega) r5 g5
    refine ⟨L6, oB6, oO6, om6, s1, ?_, ?_, s4, f1.trans (f2.trans (f3.trans (f4.trans (f5.trans s5)))), k1.trans (k2.trans (k3.trans (k4.trans (k5.trans s6))))⟩
    · rw [F_X8_writeQueue_19_w, hq.2.1, z_ig hi2 (by omega), e1, z_bsN, C_person hP.2 hq hi2, z_bsN]
      simp only [e2, z_bsN, e3, C_offer hP.2 hq hi2, e4, C_lk hR hp, e5, nI_1]
      exact s2
    · rw [F_X9_writeQueue_12, he, z_bsN, hlen, z_bsN, z_ig hi2 (by omega), z_bsN, hat, z_bsN, m1, z_bsN]
      simp only [m2, z_bsN, m3, M_of6 hp10, g3, m4, hrk, htk, m5, nI_1]
      exact s3
theorem W_loop_e (x1 : Int32) (he : F_X9_truth x1 = some 1) {g : Nat → Int32} (hR : RPos P B J os op ow oe g qw qe) : ∀ (d i fc fm L : Nat) (oB oO om : ob), i + d = qe.length → d < fc → d < fm → L ≤ 6 * i → RW L oB oO om → om.2 1 = g → ∃ (L2 : Nat) (oB2 oO2 om2 : ob), L2 ≤ 60 ∧ F_X8_writeQueue_19_e os op ow oe x1 fc oB oO (nI i) = some (nI qe.length, oB2, oO2) ∧ F_X9_writeQueue_12 x1 fm om (nI i) = some (nI qe.length, om2) ∧ RW L2 oB2 oO2 om2 ∧ wB oB oB2 ∧ wM om om2 := by
  have hq := hR.hqe
  have hP := hR.hP
  have hl := hq.1.lenP
  intro d
  induction d with
  | zero =>
    intro i fc fm L oB oO om hi h1 h2 hL h hg
    obtain ⟨fc, rfl⟩ : ∃ n, fc = n + 1 := ⟨fc - 1, by omega⟩
    obtain ⟨fm, rfl⟩ : ∃ n, fm = n + 1 := ⟨fm - 1, by omega⟩
    obtain rfl : i = qe.length := by omega
    have hlen : F_X9_lengthOf om 1 = some (nI qe.length) := M_len hP.2 (by rw [hg]; exact hR.h8) (by rw [hg]; exact hq.1)
    refine ⟨L, oB, oO, om, by omega, ?_, ?_, h, wB.refl, wM.refl⟩
    · rw [F_X8_writeQueue_19_e, hq.2.1, if_pos (Int32.le_refl _)]
    · rw [F_X9_writeQueue_12, he, z_bsN, hlen, z_bsN, if_pos (Int32.le_refl _)]
  | succ d ih =>
    intro i fc fm L oB oO om hi h1 h2 hL h hg
    obtain ⟨fc, rfl⟩ : ∃ n, fc = n + 1 := ⟨fc - 1, by omega⟩
    obtain ⟨fm, rfl⟩ : ∃ n, fm = n + 1 := ⟨fm - 1, by omega⟩
    have hi2 : i < qe.length := by omega
    have hp := (hq.1.at hi2).1
    have hp10 : qe[i] < 10 := by omega
    have hlen : F_X9_lengthOf om 1 = some (nI qe.length) := M_len hP.2 (by rw [hg]; exact hR.h8) (by rw [hg]; exact hq.1)
    have hat : F_X9_at om 1 (nI i) = some (nI qe[i]) := M_atQ hP.2 (by rw [hg]; exact hR.h8) (by rw [hg]; exact hq.1) hi2
    obtain ⟨L1, a1, b1, c1, n1, e1, m1, r1, f1, k1⟩ := W_if h (by omega) (c := nI i ≤ 0) (d := nI i ≤ 0) Iff.rfl 32
    obtain ⟨L2, a2, b2, c2, n2, n2', e2, m2, r2, f2, k2⟩ := W_num r1 (by omega) (nI qe[i])
    obtain ⟨a3, b3, c3, e3, m3, r3, f3, k3⟩ := W_byte r2 (by omega) 58
    have g3 : c3.2 1 = g := by rw [k3.2 1 (by omega), k2.2 1 (by omega), k1.2 1 (by omega), hg]
    have n2 := n2' (nI_lt (a := qe[i]) (b := 10) hp10 (by omega))
    obtain ⟨L4, a4, b4, c4, n4, n4', e4, m4, r4, f4, k4⟩ := W_num r3 (by omega) (g (12 + 8 * qe[i] + 6) - 1)
    have g4 : c4.2 1 = g := by rw [k4.2 1 (by omega), g3]
    obtain ⟨rr, hr, er⟩ := hR.ra hp
    have hrk : F_X9_rankOf c4 (nI qe[i]) = some (z_rk g qe[i]) := by
      rw [M_rk hp10 (by rw [g4]; exact er) (show rr < 10 by omega), g4, z_rkE er (show rr < 10 by omega)]
    have htk : F_X9_isTaken c4 (nI qe[i]) (z_rk g qe[i]) = some (if z_kb g qe[i] (z_rk g qe[i]) < g 1 then 1 else 0) := by
      rw [M_tk hp10, g4]
    obtain ⟨L5, a5, b5, c5, n5, e5, m5, r5, f5, k5⟩ := W_if r4 (by omega) (c := (if z_kb g qe[i] (z_rk g qe[i]) < g 1 then (1 : Int32) else 0) = 0) (d := (if z_kb g qe[i] (z_rk g qe[i]) < g 1 then (1 : Int32) else 0) = 0) Iff.rfl 33
    have g5 : c5.2 1 = g := by rw [k5.2 1 (by omega), g4]
    obtain ⟨L6, oB6, oO6, om6, s1, s2, s3, s4, s5, s6⟩ := ih (i + 1) fc fm L5 a5 b5 c5 (by omega) (by omega) (by omega) (by omega) r5 g5
    refine ⟨L6, oB6, oO6, om6, s1, ?_, ?_, s4, f1.trans (f2.trans (f3.trans (f4.trans (f5.trans s5)))), k1.trans (k2.trans (k3.trans (k4.trans (k5.trans s6))))⟩
    · rw [F_X8_writeQueue_19_e, hq.2.1, z_ig hi2 (by omega), e1, z_bsN, C_person hP.2 hq hi2, z_bsN]
      simp only [e2, z_bsN, e3, C_offer hP.2 hq hi2, e4, C_lk hR hp, e5, nI_1]
      exact s2
    · rw [F_X9_writeQueue_12, he, z_bsN, hlen, z_bsN, z_ig hi2 (by omega), z_bsN, hat, z_bsN, m1, z_bsN]
      simp only [m2, z_bsN, m3, M_of6 hp10, g3, m4, hrk, htk, m5, nI_1]
      exact s3
end OUT
