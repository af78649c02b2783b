/-! The model's own readers, in closed form over its row. -/
theorem M_of {om : ob} {p w : Nat} (hp : p < 10) (hw : w < 8) : F_X9_of om (nI p) (nI w) = some (om.2 1 (12 + 8 * p + w)) := by
  simp only [F_X9_of, z_ix8]
  rw [z_ald (by omega) (by omega)]
  rfl
theorem M_lays {om : ob} {p w : Nat} {v : Int32} (hp : p < 10) (hw : w < 8) : F_X9_lays om (nI p) (nI w) v = some (om.1, va_up om.2 1 (upd (om.2 1) (12 + 8 * p + w) v)) := by
  simp only [F_X9_lays, z_ix8]
  rw [z_ast (by omega) (by omega)]
  rfl
theorem M_ofR {om : ob} {p w : Nat} (hp : p < 10) (hw : w < 3) : F_X9_ofRoyal om (nI p) (nI w) = some (om.2 1 (102 + 3 * p + w)) := by
  simp only [F_X9_ofRoyal, z_ixR]
  rw [z_ald (by omega) (by omega)]
  rfl
theorem M_laysR {om : ob} {p w : Nat} {v : Int32} (hp : p < 10) (hw : w < 3) : F_X9_laysRoyal om (nI p) (nI w) v = some (om.1, va_up om.2 1 (upd (om.2 1) (102 + 3 * p + w) v)) := by
  simp only [F_X9_laysRoyal, z_ixR]
  rw [z_ast (by omega) (by omega)]
  rfl
theorem M_ofB {om : ob} {p w : Nat} (hp : p < 4) (hw : w < 3) : F_X9_ofBridge om (nI p) (nI w) = some (om.2 1 (132 + 3 * p + w)) := by
  simp only [F_X9_ofBridge, z_ixB]
  rw [z_ald (by omega) (by omega)]
  rfl
theorem M_of0 {om : ob} {p : Nat} (hp : p < 10) : F_X9_of om (nI p) (0 : Int32) = some (om.2 1 (12 + 8 * p)) := M_of (w := 0) hp (by omega)
theorem M_lays0 {om : ob} {p : Nat} {v : Int32} (hp : p < 10) : F_X9_lays om (nI p) (0 : Int32) v = some (om.1, va_up om.2 1 (upd (om.2 1) (12 + 8 * p) v)) := M_lays (w := 0) hp (by omega)
theorem M_of1 {om : ob} {p : Nat} (hp : p < 10) : F_X9_of om (nI p) (1 : Int32) = some (om.2 1 (12 + 8 * p + 1)) := M_of (w := 1) hp (by omega)
theorem M_lays1 {om : ob} {p : Nat} {v : Int32} (hp : p < 10) : F_X9_lays om (nI p) (1 : Int32) v = some (om.1, va_up om.2 1 (upd (om.2 1) (12 + 8 * p + 1) v)) := M_lays (w := 1) hp (by omega)
theorem M_of2 {om : ob} {p : Nat} (hp : p < 10) : F_X9_of om (nI p) (2 : Int32) = some (om.2 1 (12 + 8 * p + 2)) := M_of (w := 2) hp (by omega)
theorem M_lays2 {om : ob} {p : Nat} {v : Int32} (hp : p < 10) : F_X9_lays om (nI p) (2 : Int32) v = some (om.1, va_up om.2 1 (upd (om.2 1) (12 + 8 * p + 2) v)) := M_lays (w := 2) hp (by omega)
theorem M_of3 {om : ob} {p : Nat} (hp : p < 10) : F_X9_of om (nI p) (3 : Int32) = some (om.2 1 (12 + 8 * p + 3)) := M_of (w := 3) hp (by omega)
theorem M_lays3 {om : ob} {p : Nat} {v : Int32} (hp : p < 10) : F_X9_lays om (nI p) (3 : Int32) v = some (om.1, va_up om.2 1 (upd (om.2 1) (12 + 8 * p + 3) v)) := M_lays (w := 3) hp (by omega)
theorem M_of4 {om : ob} {p : Nat} (hp : p < 10) : F_X9_of om (nI p) (4 : Int32) = some (om.2 1 (12 + 8 * p + 4)) := M_of (w := 4) hp (by omega)
theorem M_lays4 {om : ob} {p : Nat} {v : Int32} (hp : p < 10) : F_X9_lays om (nI p) (4 : Int32) v = some (om.1, va_up om.2 1 (upd (om.2 1) (12 + 8 * p + 4) v)) := M_lays (w := 4) hp (by omega)
theorem M_of5 {om : ob} {p : Nat} (hp : p < 10) : F_X9_of om (nI p) (5 : Int32) = some (om.2 1 (12 + 8 * p + 5)) := M_of (w := 5) hp (by omega)
theorem M_lays5 {om : ob} {p : Nat} {v : Int32} (hp : p < 10) : F_X9_lays om (nI p) (5 : Int32) v = some (om.1, va_up om.2 1 (upd (om.2 1) (12 + 8 * p + 5) v)) := M_lays (w := 5) hp (by omega)
theorem M_of6 {om : ob} {p : Nat} (hp : p < 10) : F_X9_of om (nI p) (6 : Int32) = some (om.2 1 (12 + 8 * p + 6)) := M_of (w := 6) hp (by omega)
theorem M_lays6 {om : ob} {p : Nat} {v : Int32} (hp : p < 10) : F_X9_lays om (nI p) (6 : Int32) v = some (om.1, va_up om.2 1 (upd (om.2 1) (12 + 8 * p + 6) v)) := M_lays (w := 6) hp (by omega)
theorem M_of7 {om : ob} {p : Nat} (hp : p < 10) : F_X9_of om (nI p) (7 : Int32) = some (om.2 1 (12 + 8 * p + 7)) := M_of (w := 7) hp (by omega)
theorem M_lays7 {om : ob} {p : Nat} {v : Int32} (hp : p < 10) : F_X9_lays om (nI p) (7 : Int32) v = some (om.1, va_up om.2 1 (upd (om.2 1) (12 + 8 * p + 7) v)) := M_lays (w := 7) hp (by omega)
theorem M_ofR0 {om : ob} {p : Nat} (hp : p < 10) : F_X9_ofRoyal om (nI p) (0 : Int32) = some (om.2 1 (102 + 3 * p)) := M_ofR (w := 0) hp (by omega)
theorem M_laysR0 {om : ob} {p : Nat} {v : Int32} (hp : p < 10) : F_X9_laysRoyal om (nI p) (0 : Int32) v = some (om.1, va_up om.2 1 (upd (om.2 1) (102 + 3 * p) v)) := M_laysR (w := 0) hp (by omega)
theorem M_ofB0 {om : ob} {p : Nat} (hp : p < 4) : F_X9_ofBridge om (nI p) (0 : Int32) = some (om.2 1 (132 + 3 * p)) := M_ofB (w := 0) hp (by omega)
theorem M_ofR1 {om : ob} {p : Nat} (hp : p < 10) : F_X9_ofRoyal om (nI p) (1 : Int32) = some (om.2 1 (102 + 3 * p + 1)) := M_ofR (w := 1) hp (by omega)
theorem M_laysR1 {om : ob} {p : Nat} {v : Int32} (hp : p < 10) : F_X9_laysRoyal om (nI p) (1 : Int32) v = some (om.1, va_up om.2 1 (upd (om.2 1) (102 + 3 * p + 1) v)) := M_laysR (w := 1) hp (by omega)
theorem M_ofB1 {om : ob} {p : Nat} (hp : p < 4) : F_X9_ofBridge om (nI p) (1 : Int32) = some (om.2 1 (132 + 3 * p + 1)) := M_ofB (w := 1) hp (by omega)
theorem M_ofR2 {om : ob} {p : Nat} (hp : p < 10) : F_X9_ofRoyal om (nI p) (2 : Int32) = some (om.2 1 (102 + 3 * p + 2)) := M_ofR (w := 2) hp (by omega)
theorem M_laysR2 {om : ob} {p : Nat} {v : Int32} (hp : p < 10) : F_X9_laysRoyal om (nI p) (2 : Int32) v = some (om.1, va_up om.2 1 (upd (om.2 1) (102 + 3 * p + 2) v)) := M_laysR (w := 2) hp (by omega)
theorem M_ofB2 {om : ob} {p : Nat} (hp : p < 4) : F_X9_ofBridge om (nI p) (2 : Int32) = some (om.2 1 (132 + 3 * p + 2)) := M_ofB (w := 2) hp (by omega)
def z_bow (raw k : Int32) : Int32 := if k = 1 then (if 0 ≤ raw then (if raw ≤ 90 then raw else 90) else 0) / 2 else (if 0 ≤ raw then (if raw ≤ 90 then raw else 90) else 0)
def z_kb (g : Nat → Int32) (p : Nat) (v : Int32) : Int32 := z_bow (80 - v - g (12 + 8 * p + 3)) (g (12 + 8 * p))
def z_tl (g : Nat → Int32) (p : Nat) (v : Int32) : Int32 := if z_kb g p v < g 1 then g 3 else g 4
def z_rk (g : Nat → Int32) (p : Nat) : Int32 := g (92 + (g (12 + 8 * p + 4)).toNatClampNeg)
def z_qd (g : Nat → Int32) (p : Nat) : Bool := decide (0 < g (12 + 8 * p + 6))
def z_ah (g : Nat → Int32) (a b : Nat) : Bool := decide (g (12 + 8 * b + 6) < g (12 + 8 * a + 6)) || (decide (g (12 + 8 * a + 6) = g (12 + 8 * b + 6)) && decide (g (12 + 8 * a + 7) < g (12 + 8 * b + 7)))
theorem C_bow {raw k : Int32} : F_X2_angleOf raw k = some (z_bow raw k) := by
  unfold F_X2_angleOf z_bow
  by_cases h1 : 0 ≤ raw <;> by_cases h2 : raw ≤ 90 <;> by_cases h3 : k = 1 <;> simp [h1, h2, h3]
theorem M_bow {raw : Int32} {c : Prop} [Decidable c] {k : Int32} (h : c ↔ k = 1) : F_X9_bow raw (if c then 1 else 0) = some (z_bow raw k) := by
  unfold F_X9_bow z_bow
  by_cases hc : c
  · rw [if_pos hc, if_pos (h.mp hc)]
    split <;> split <;> rfl
  · rw [if_neg hc, if_neg (fun q => hc (h.mpr q))]
    split <;> split <;> rfl
theorem z_ltle {α : Type} {a b : α} {x y : Int32} : (if x ≤ y then a else b) = if y < x then b else a := by
  by_cases h : x ≤ y
  · rw [if_pos h, if_neg (Int32.not_lt.mpr h)]
  · rw [if_neg h, if_pos (Int32.not_le.mp h)]
theorem z_ss {α : Type} {a b : α} {c : Prop} [Decidable c] : (if c then some a else some b) = some (if c then a else b) := by split <;> rfl
theorem M_king {om : ob} {p : Nat} (hp : p < 10) : F_X9_isKingNow om (nI p) = some (if om.2 1 (12 + 8 * p) = 1 then 1 else 0) := by
  simp only [F_X9_isKingNow, M_of0 hp, Option.bind_some, z_ss]
theorem M_kb {om : ob} {p : Nat} {v : Int32} (hp : p < 10) : F_X9_keeperBow om (nI p) v = some (z_kb (om.2 1) p v) := by
  simp only [F_X9_keeperBow, M_of3 hp, M_king hp, Option.bind_some, M_bow Iff.rfl]
  rfl
theorem M_tk {om : ob} {p : Nat} {v : Int32} (hp : p < 10) : F_X9_isTaken om (nI p) v = some (if z_kb (om.2 1) p v < om.2 1 1 then 1 else 0) := by
  simp only [F_X9_isTaken, M_kb hp, Option.bind_some, z_al1, z_ltle, z_ss]
theorem z_10 {c : Prop} [Decidable c] {α : Type} {a b : α} : (if (if c then (1 : Int32) else 0) = 0 then a else b) = if c then b else a := by
  by_cases h : c <;> simp [h]
theorem z_11 {c : Prop} [Decidable c] {α : Type} {a b : α} : (if (if c then (1 : Int32) else 0) = 1 then a else b) = if c then a else b := by
  by_cases h : c <;> simp [h]
theorem M_tl {om : ob} {p : Nat} {v : Int32} (hp : p < 10) : F_X9_tollWith om (nI p) v = some (z_tl (om.2 1) p v) := by
  simp only [F_X9_tollWith, M_tk hp, Option.bind_some, z_al3, z_al4, z_10, z_ss]
  rfl
theorem M_rk {om : ob} {p r : Nat} (hp : p < 10) (hr : om.2 1 (12 + 8 * p + 4) = nI r) (h : r < 10) : F_X9_rankOf om (nI p) = some (om.2 1 (92 + r)) := by
  simp only [F_X9_rankOf, M_of4 hp, Option.bind_some, hr]
  rw [show (92 : Int32) = nI 92 from rfl, nI_add, z_ald (by omega) (by omega)]
  rfl
theorem z_rkE {g : Nat → Int32} {p r : Nat} (hr : g (12 + 8 * p + 4) = nI r) (h : r < 10) : z_rk g p = g (92 + r) := by
  unfold z_rk
  rw [hr, nI_clamp (by omega)]
theorem M_qd {om : ob} {p : Nat} (hp : p < 10) : F_X9_isQueued om (nI p) = some (if z_qd (om.2 1) p = true then 1 else 0) := by
  simp only [F_X9_isQueued, M_of6 hp, Option.bind_some, z_ltle, z_ss, z_qd, decide_eq_true_eq]
theorem M_ah {om : ob} {a b : Nat} (ha : a < 10) (hb : b < 10) : F_X9_isAhead om (nI a) (nI b) = some (if z_ah (om.2 1) a b = true then 1 else 0) := by
  simp only [F_X9_isAhead, M_of6 ha, M_of6 hb, M_of7 ha, M_of7 hb, Option.bind_some, z_ltle, z_ss, z_ah, Bool.or_eq_true, Bool.and_eq_true, decide_eq_true_eq]
  by_cases h1 : om.2 1 (12 + 8 * b + 6) < om.2 1 (12 + 8 * a + 6) <;> by_cases h2 : om.2 1 (12 + 8 * a + 6) = om.2 1 (12 + 8 * b + 6) <;> by_cases h3 : om.2 1 (12 + 8 * a + 7) < om.2 1 (12 + 8 * b + 7) <;> simp [h1, h2, h3]
theorem M_t0 : F_X9_truth (0 : Int32) = some 0 := rfl
theorem M_t1 : F_X9_truth (1 : Int32) = some 1 := rfl
theorem M_tr {c : Prop} [Decidable c] : F_X9_truth (if c then (1 : Int32) else 0) = some (if c then 1 else 0) := by by_cases h : c <;> simp [h, F_X9_truth]
theorem nI_if {c : Prop} [Decidable c] : (if c then (1 : Int32) else 0) = nI (if c then 1 else 0) := by by_cases h : c <;> simp [h] <;> rfl
theorem nI_0' : (0 : Int32) = nI 0 := rfl
/-- counting loops of the model -/
def z_pof (g : Nat → Int32) (p k : Nat) : Bool := decide (k ≠ p) && (z_qd g k && (decide (g (12 + 8 * k + 1) = g (12 + 8 * p + 1)) && z_ah g k p))
theorem M_po {om : ob} {P p : Nat} (hP : P ≤ 10) (h8 : om.2 1 8 = nI P) (hp : p < P) : F_X9_placeOf om (nI p) = some (nI (z_cnt (z_pof (om.2 1) p) P)) := by
  have h := z_for P (fun fu k (s : Int32) => F_X9_placeOf_4 om (nI p) fu s (nI k)) (fun k => nI (z_cnt (z_pof (om.2 1) p) k)) (r := some (nI (z_cnt (z_pof (om.2 1) p) P), nI P)) (by
    intro fu k hk
    show F_X9_placeOf_4 om (nI p) (fu + 1) (nI (z_cnt (z_pof (om.2 1) p) k)) (nI k) = F_X9_placeOf_4 om (nI p) fu (nI (z_cnt (z_pof (om.2 1) p) (k + 1))) (nI (k + 1))
    simp only [F_X9_placeOf_4, z_al8, Option.bind_some, h8]
    rw [z_ig hk (by omega)]
    simp only [M_qd (show k < 10 by omega), M_of1 (show k < 10 by omega), M_of1 (show p < 10 by omega), M_ah (show k < 10 by omega) (show p < 10 by omega), M_t0, M_t1, Option.bind_some, z_le, z_10, nI_1, nI_eq (show k < 2 ^ 31 by omega) (show p < 2 ^ 31 by omega), z_cnt, z_pof]
    by_cases h1 : k = p <;> by_cases h2 : z_qd (om.2 1) k = true <;> by_cases h3 : om.2 1 (12 + 8 * k + 1) = om.2 1 (12 + 8 * p + 1) <;> by_cases h4 : z_ah (om.2 1) k p = true <;> simp [h1, h2, h3, h4, nI_1]) (by
    intro fu
    show F_X9_placeOf_4 om (nI p) (fu + 1) (nI (z_cnt (z_pof (om.2 1) p) P)) (nI P) = _
    simp only [F_X9_placeOf_4, z_al8, Option.bind_some, h8]
    rw [z_il (Nat.le_refl _) (by omega)]) 100000 (by omega) 0 (Nat.zero_le _)
  show (F_X9_placeOf_4 om (nI p) 100000 (nI 0) (nI 0)).bind _ = _
  have h : F_X9_placeOf_4 om (nI p) 100000 (nI 0) (nI 0) = _ := h
  rw [h]
  rfl
def z_lof (g : Nat → Int32) (e : Int32) (k : Nat) : Bool := z_qd g k && decide (g (12 + 8 * k + 1) = e)
theorem M_lo {om : ob} {P : Nat} {e : Int32} (hP : P ≤ 10) (h8 : om.2 1 8 = nI P) : F_X9_lengthOf om e = some (nI (z_cnt (z_lof (om.2 1) e) P)) := by
  have h := z_for P (fun fu k (s : Int32) => F_X9_lengthOf_4 om e fu s (nI k)) (fun k => nI (z_cnt (z_lof (om.2 1) e) k)) (r := some (nI (z_cnt (z_lof (om.2 1) e) P), nI P)) (by
    intro fu k hk
    show F_X9_lengthOf_4 om e (fu + 1) (nI (z_cnt (z_lof (om.2 1) e) k)) (nI k) = F_X9_lengthOf_4 om e fu (nI (z_cnt (z_lof (om.2 1) e) (k + 1))) (nI (k + 1))
    simp only [F_X9_lengthOf_4, z_al8, Option.bind_some, h8]
    rw [z_ig hk (by omega)]
    simp only [M_qd (show k < 10 by omega), M_of1 (show k < 10 by omega), M_t0, M_t1, Option.bind_some, z_le, z_10, nI_1, z_cnt, z_lof]
    by_cases h2 : z_qd (om.2 1) k = true <;> by_cases h3 : om.2 1 (12 + 8 * k + 1) = e <;> simp [h2, h3, nI_1]) (by
    intro fu
    show F_X9_lengthOf_4 om e (fu + 1) (nI (z_cnt (z_lof (om.2 1) e) P)) (nI P) = _
    simp only [F_X9_lengthOf_4, z_al8, Option.bind_some, h8]
    rw [z_il (Nat.le_refl _) (by omega)]) 100000 (by omega) 0 (Nat.zero_le _)
  show (F_X9_lengthOf_4 om e 100000 (nI 0) (nI 0)).bind _ = _
  have h : F_X9_lengthOf_4 om e 100000 (nI 0) (nI 0) = _ := h
  rw [h]
  rfl
/-- the place's search: k is the first that lies there -/
theorem M_at1 {om : ob} {P k0 pl : Nat} {e : Int32} (hP : P ≤ 10) (hpl : pl < 2 ^ 31) (h8 : om.2 1 8 = nI P) (hk0 : k0 < P) (h1 : z_lof (om.2 1) e k0 = true) (h2 : z_cnt (z_pof (om.2 1) k0) P = pl) (h3 : ∀ k : Nat, k < k0 → z_lof (om.2 1) e k = true → z_cnt (z_pof (om.2 1) k) P ≠ pl) : F_X9_at om e (nI pl) = some (nI k0) := by
  have h := z_for k0 (fun fu k (_ : Unit) => F_X9_at_2 om e (nI pl) fu (nI k)) (fun _ => ()) (r := some (nI k0)) (by
    intro fu k hk
    show F_X9_at_2 om e (nI pl) (fu + 1) (nI k) = F_X9_at_2 om e (nI pl) fu (nI (k + 1))
    simp only [F_X9_at_2, z_al8, Option.bind_some, h8]
    rw [z_ig (show k < P by omega) (by omega)]
    simp only [M_qd (show k < 10 by omega), M_of1 (show k < 10 by omega), M_po hP h8 (show k < P by omega), Option.bind_some, z_10, nI_1]
    have hc : z_cnt (z_pof (om.2 1) k) P ≤ P := z_cnt_le
    have h4 := h3 k hk
    simp only [z_lof, Bool.and_eq_true, decide_eq_true_eq] at h4
    by_cases q1 : z_qd (om.2 1) k = true
    · by_cases q2 : om.2 1 (12 + 8 * k + 1) = e
      · have q3 : ¬ nI (z_cnt (z_pof (om.2 1) k) P) = nI pl := fun q => h4 ⟨q1, q2⟩ ((nI_eq (by omega) hpl).mp q)
        simp [q1, q2, q3]
      · simp [q1, q2]
    · simp [q1]) (by
    intro fu
    show F_X9_at_2 om e (nI pl) (fu + 1) (nI k0) = _
    simp only [F_X9_at_2, z_al8, Option.bind_some, h8]
    rw [z_ig hk0 (by omega)]
    simp only [z_lof, Bool.and_eq_true, decide_eq_true_eq] at h1
    simp only [M_qd (show k0 < 10 by omega), M_of1 (show k0 < 10 by omega), M_po hP h8 hk0, Option.bind_some, h1.1, h1.2, h2]
    simp) 100000 (by omega) 0 (Nat.zero_le _)
  exact h
theorem M_at0 {om : ob} {P : Nat} {e pl : Int32} (hP : P ≤ 10) (h8 : om.2 1 8 = nI P) (h3 : ∀ k : Nat, k < P → z_lof (om.2 1) e k = true → nI (z_cnt (z_pof (om.2 1) k) P) ≠ pl) : F_X9_at om e pl = some (-1) := by
  have h := z_for P (fun fu k (_ : Unit) => F_X9_at_2 om e pl fu (nI k)) (fun _ => ()) (r := some (-1)) (by
    intro fu k hk
    show F_X9_at_2 om e pl (fu + 1) (nI k) = F_X9_at_2 om e pl fu (nI (k + 1))
    simp only [F_X9_at_2, z_al8, Option.bind_some, h8]
    rw [z_ig (show k < P by omega) (by omega)]
    simp only [M_qd (show k < 10 by omega), M_of1 (show k < 10 by omega), M_po hP h8 (show k < P by omega), Option.bind_some, z_10, nI_1]
    have h4 := h3 k hk
    simp only [z_lof, Bool.and_eq_true, decide_eq_true_eq] at h4
    by_cases q1 : z_qd (om.2 1) k = true
    · by_cases q2 : om.2 1 (12 + 8 * k + 1) = e
      · have q3 := h4 ⟨q1, q2⟩
        simp [q1, q2, q3]
      · simp [q1, q2]
    · simp [q1]) (by
    intro fu
    show F_X9_at_2 om e pl (fu + 1) (nI P) = _
    simp only [F_X9_at_2, z_al8, Option.bind_some, h8]
    rw [z_il (Nat.le_refl _) (by omega)]) 100000 (by omega) 0 (Nat.zero_le _)
  exact h
