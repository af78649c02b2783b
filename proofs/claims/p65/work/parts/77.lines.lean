/-! The lines of a text that is known: its head, its people, its bridges. -/
abbrev psn : Type := Nat × Nat × Nat × Nat × Nat
abbrev brg : Type := Nat × Nat × Nat
def okp (q : psn) : Prop := q.1 < 2 ∧ q.2.1 < 2 ∧ q.2.2.1 < 60 ∧ q.2.2.2.1 ≤ 40 ∧ q.2.2.2.2 ≤ 50
def okb (q : brg) : Prop := (1 ≤ q.1 ∧ q.1 ≤ 3) ∧ q.2.1 < q.1 ∧ 1 ≤ q.2.2 ∧ q.2.2 ≤ 3
def wKing (q : psn) : Nat := if q.1 = 0 then 3 else 2
def wBank (q : psn) : Nat := if q.2.1 = 0 then 4 else 5
def persX (q : psn) (R : List Nat) : List Nat := Wd (wKing q) ++ ([32] ++ (Wd (wBank q) ++ (numL q.2.2.1 ++ (numL q.2.2.2.1 ++ (numL q.2.2.2.2 ++ 59 :: R)))))
def brX (q : brg) (R : List Nat) : List Nat := Wd 6 ++ (numL q.1 ++ (numL q.2.1 ++ (numL q.2.2 ++ 59 :: R)))
def tplX : List psn → List Nat → List Nat
  | [], R => R
  | q :: qs, R => persX q (tplX qs R)
def tblX : List brg → List Nat → List Nat
  | [], R => R
  | q :: qs, R => brX q (tblX qs R)
theorem wKing_lt {q : psn} : 1 ≤ wKing q ∧ wKing q < 7 ∧ (wKing q = 3 ∨ wKing q = 2) := by unfold wKing; split <;> omega
theorem wBank_lt {q : psn} : 1 ≤ wBank q ∧ wBank q < 7 ∧ (wBank q = 4 ∨ wBank q = 5) := by unfold wBank; split <;> omega
theorem LN.pers {q : psn} {R : List Nat} : LN (persX q R) := Or.inr ⟨wKing q, _, wKing_lt.1, wKing_lt.2.1, rfl, ND.blank⟩
theorem LN.br {q : brg} {R : List Nat} : LN (brX q R) := Or.inr ⟨6, _, by omega, by omega, rfl, ND.num⟩
theorem LN.tpl {qs : List psn} {R : List Nat} (h : LN R) : LN (tplX qs R) := by
  cases qs with
  | nil => exact h
  | cons q qs => exact LN.pers
theorem LN.tbl {qs : List brg} : LN (tblX qs []) := by
  cases qs with
  | nil => exact Or.inl rfl
  | cons q qs => exact LN.br
/-- what the people's coins are in the row g while it grows -/
def LX (p C : Nat) (g : Nat → Int32) : Prop := gK g ∧ (∀ q : Nat, q < p → 0 ≤ (g (12 + 8 * q + 2)).toInt) ∧ zSI (fun q => g (12 + 8 * q + 2)) p = C ∧ g 10 = nI C ∧ C ≤ 60 * p
def addG (g : Nat → Int32) (p : Nat) (q : psn) : Nat → Int32 := fun i => if i = 8 then nI (p + 1) else if i = 10 then g 10 + nI q.2.2.1 else if i = 12 + 8 * p then nI q.1 else if i = 12 + 8 * p + 1 then nI q.2.1 else if i = 12 + 8 * p + 2 then nI q.2.2.1 else if i = 12 + 8 * p + 3 then nI q.2.2.2.1 else if i = 12 + 8 * p + 4 then nI p else if i = 92 + p then nI q.2.2.2.2 else if i = 102 + 3 * p then nI p else g i
def addB (g : Nat → Int32) (b : Nat) (q : brg) : Nat → Int32 := fun i => if i = 9 then nI (b + 1) else if i = 132 + 3 * b then nI q.1 else if i = 132 + 3 * b + 1 then nI q.2.1 else if i = 132 + 3 * b + 2 then nI q.2.2 else g i
section LINES
variable {ot od ot2 od2 : ob} {b : Nat → Int32} {n p C B : Nat} {g g2 : Nat → Int32} {R : List Nat}
theorem addG_k {q : psn} {i : Nat} (h8 : i ≠ 8) (h10 : i ≠ 10) (h : i < 12 + 8 * p ∨ 12 + 8 * p + 4 < i) (h2 : i ≠ 92 + p) (h3 : i ≠ 102 + 3 * p) : addG g p q i = g i := by
  unfold addG
  rw [if_neg h8, if_neg h10, if_neg (by omega), if_neg (by omega), if_neg (by omega), if_neg (by omega), if_neg (by omega), if_neg h2, if_neg h3]
theorem n01 {x : Nat} (h : x < 2) : nI x = 0 ∨ nI x = 1 := by
  have : x = 0 ∨ x = 1 := by omega
  rcases this with rfl | rfl
  · exact Or.inl rfl
  · exact Or.inr rfl
theorem R_person {q : psn} (h : AtL ot b n (persX q R)) (hq : okp q) (hR : LN R) (hL : LD p 0 od g) (hX : LX p C g) (hp : p < 10) : ∃ (ot2 od2 : ob) (g2 : Nat → Int32) (C2 : Nat), F_X8_readPerson ot od = some (ot2, od2) ∧ AtL ot2 b n R ∧ LD (p + 1) 0 od2 g2 ∧ LX (p + 1) C2 g2 := by
  obtain ⟨q1, q2, q3, q4, q5⟩ := hq
  have k1 := wKing_lt (q := q)
  have k2 := wBank_lt (q := q)
  have t1 := h.word k1.1 k1.2.1 ND.blank
  obtain ⟨a1, e1, t2⟩ := t1.word k2.1 k2.2.1 ND.num
  have c1 := TK_either t1 (t0 := 3) (t := 2) (by omega) (by omega) (by omega) (by omega) (by omega) k1.2.2 e1
  obtain ⟨a2, e2, t3⟩ := t2.num (by omega) ND.num
  have c2 := TK_either t2 (t0 := 4) (t := 5) (by omega) (by omega) (by omega) (by omega) (by omega) k2.2.2 e2
  obtain ⟨a3, e3, t4⟩ := t3.num (show q.2.2.2.1 < 100 by omega) ND.num
  have c3 := TK_num t3 (lo := 0) (hi := 999) (nI_pos (by omega)) (nI_le (b := 999) (by omega) (by omega)) e3
  obtain ⟨a4, e4, t5⟩ := t4.num (show q.2.2.2.2 < 100 by omega) ND.semi
  have c4 := TK_num t4 (lo := 0) (hi := 40) (nI_pos (by omega)) (nI_le (b := 40) (by omega) (by omega)) e4
  obtain ⟨a5, e5, t6⟩ := t5.semi
  have c5 := TK_num t5 (lo := 0) (hi := 50) (nI_pos (by omega)) (nI_le (b := 50) (by omega) (by omega)) e5
  obtain ⟨a6, e6, t7⟩ := TK_semi t6 hR
  have v1 : (if wKing q = 2 then (1 : Int32) else 0) = nI q.1 := by
    unfold wKing
    by_cases z : q.1 = 0
    · rw [if_pos z, z]; rfl
    · rw [if_neg z, if_pos rfl, show q.1 = 1 by omega]; rfl
  have v2 : (if wBank q = 5 then (1 : Int32) else 0) = nI q.2.1 := by
    unfold wBank
    by_cases z : q.2.1 = 0
    · rw [if_pos z, z]; rfl
    · rw [if_neg z, if_pos rfl, show q.2.1 = 1 by omega]; rfl
  obtain ⟨od2, d1, d2⟩ := hL.person rfl hp (g2 := addG g p q) (x1 := nI q.1) (x2 := nI q.2.1) (x3 := nI q.2.2.1) (x4 := nI q.2.2.2.1) (x5 := nI q.2.2.2.2) (n01 q1) (n01 q2)
    (by unfold addG; rw [if_neg (by omega), if_neg (by omega), if_pos rfl])
    (by unfold addG; rw [if_neg (by omega), if_neg (by omega), if_neg (by omega), if_pos rfl])
    (by unfold addG; rw [if_neg (by omega), if_neg (by omega), if_neg (by omega), if_neg (by omega), if_pos rfl])
    (by unfold addG; rw [if_neg (by omega), if_neg (by omega), if_neg (by omega), if_neg (by omega), if_neg (by omega), if_pos rfl])
    (by unfold addG; rw [if_neg (by omega), if_neg (by omega), if_neg (by omega), if_neg (by omega), if_neg (by omega), if_neg (by omega), if_pos rfl])
    (by unfold addG; rw [if_neg (by omega), if_neg (by omega), if_neg (by omega), if_neg (by omega), if_neg (by omega), if_neg (by omega), if_neg (by omega), if_pos rfl])
    (by unfold addG; rw [if_neg (by omega), if_neg (by omega), if_neg (by omega), if_neg (by omega), if_neg (by omega), if_neg (by omega), if_neg (by omega), if_neg (by omega), if_pos rfl])
    (by unfold addG; rw [if_pos rfl])
    (by unfold addG; rw [if_neg (by omega), if_pos rfl])
    (fun i h8 h10 hh h2 h3 => addG_k h8 h10 hh h2 h3)
  have e32 : addG g p q (12 + 8 * p + 2) = nI q.2.2.1 := by unfold addG; rw [if_neg (by omega), if_neg (by omega), if_neg (by omega), if_neg (by omega), if_pos rfl]
  obtain ⟨x1, x2, x3, x4, x5⟩ := hX
  refine ⟨a6, od2, addG g p q, C + q.2.2.1, ?_, t7, d2, ?_, fun r hr => ?_, ?_, ?_, by omega⟩
  · simp only [F_X8_readPerson, c1, c2, c3, c4, c5, e6, z_bsN, v1, v2, d1]
  · unfold gK
    rw [addG_k (by omega) (by omega) (by omega) (by omega) (by omega), addG_k (by omega) (by omega) (by omega) (by omega) (by omega)]
    exact x1
  · by_cases z : r = p
    · subst z; rw [e32, nI_toInt (by omega)]; omega
    · rw [addG_k (by omega) (by omega) (by omega) (by omega) (by omega)]; exact x2 r (by omega)
  · rw [zSI, zSI_congr (f := fun q => g (12 + 8 * q + 2)) (fun r hr => addG_k (by omega) (by omega) (by omega) (by omega) (by omega)), x3, e32, nI_toInt (by omega)]
    omega
  · unfold addG
    rw [if_neg (by omega), if_pos rfl, x4, nI_add]
theorem isP0 {R3 : List Nat} (h : AtL ot b n (Wd 6 ++ R3)) (hR : ND R3) : F_X8_isAtPerson ot = some 0 := by
  have t1 := h.word (by omega) (by omega) hR
  simp only [F_X8_isAtPerson, IW t1 (by omega) (by omega) (show 1 ≤ 2 by omega) (by omega), IW t1 (by omega) (by omega) (show 1 ≤ 3 by omega) (by omega), z_bsN]
  rfl
theorem isP1 {q : psn} (h : AtL ot b n (persX q R)) : F_X8_isAtPerson ot = some 1 := by
  have k1 := wKing_lt (q := q)
  have t1 := h.word k1.1 k1.2.1 ND.blank
  simp only [F_X8_isAtPerson, IW t1 k1.1 k1.2.1 (show 1 ≤ 2 by omega) (by omega), IW t1 k1.1 k1.2.1 (show 1 ≤ 3 by omega) (by omega), z_bsN]
  by_cases z : wKing q = 2
  · rw [if_pos z, if_neg (by decide)]
  · rw [if_neg z, if_pos rfl, if_pos (k1.2.2.resolve_right z), if_neg (by decide)]
theorem R_people {R3 : List Nat} (hR3 : ND R3) : ∀ (qs : List psn) (p C fu : Nat) (ot od : ob) (g : Nat → Int32), p + qs.length ≤ 10 → qs.length < fu → (∀ q : psn, q ∈ qs → okp q) → AtL ot b n (tplX qs (Wd 6 ++ R3)) → LD p 0 od g → LX p C g → ∃ (ot2 od2 : ob) (g2 : Nat → Int32) (C2 : Nat), F_X8_readPeople_2 fu ot od (nI p) = some (nI (p + qs.length), ot2, od2) ∧ AtL ot2 b n (Wd 6 ++ R3) ∧ LD (p + qs.length) 0 od2 g2 ∧ LX (p + qs.length) C2 g2 := by
  have hLN : LN (Wd 6 ++ R3) := Or.inr ⟨6, R3, by omega, by omega, rfl, hR3⟩
  intro qs
  induction qs with
  | nil =>
    intro p C fu ot od g hp hf hq h hL hX
    obtain ⟨fu, rfl⟩ : ∃ n, fu = n + 1 := ⟨fu - 1, by omega⟩
    refine ⟨ot, od, g, C, ?_, h, hL, hX⟩
    have hp : p ≤ 10 := hp
    simp only [F_X8_readPeople_2, isP0 h hR3]
    rw [if_neg (show ¬ (10 : Int32) < nI p from Int32.not_lt.mpr (nI_le (b := 10) hp (by omega))), z_bsN, if_pos rfl]
    rfl
  | cons q qs ih =>
    intro p C fu ot od g hp hf hq h hL hX
    rw [List.length_cons] at hp hf
    obtain ⟨fu, rfl⟩ : ∃ n, fu = n + 1 := ⟨fu - 1, by omega⟩
    have h : AtL ot b n (persX q (tplX qs (Wd 6 ++ R3))) := h
    obtain ⟨ot2, od2, g2, C2, e2, w2, l2, x2⟩ := R_person h (hq q List.mem_cons_self) hLN.tpl hL hX (by omega)
    obtain ⟨ot3, od3, g3, C3, e3, w3, l3, x3⟩ := ih (p + 1) C2 fu ot2 od2 g2 (by omega) (by omega) (fun r hr => hq r (List.mem_cons_of_mem _ hr)) w2 l2 x2
    rw [List.length_cons, show p + (qs.length + 1) = p + 1 + qs.length by omega]
    refine ⟨ot3, od3, g3, C3, ?_, w3, l3, x3⟩
    simp only [F_X8_readPeople_2, isP1 h]
    rw [if_neg (show ¬ (10 : Int32) < nI p from Int32.not_lt.mpr (nI_le (b := 10) (by omega) (by omega))), z_bsN, if_neg (by decide), if_neg (show ¬ nI p = (10 : Int32) from fun z => by have := (nI_eq (a := p) (b := 10) (by omega) (by omega)).mp z; omega), e2, z_bsN, nI_1]
    exact e3
theorem R_bridge {q : brg} (h : AtL ot b n (brX q R)) (hq : okb q) (hR : LN R) (hL : LD p B od g) (hX : LX p C g) (hP : p ≤ 10) (hB : B < 4) : ∃ (ot2 od2 : ob) (g2 : Nat → Int32), F_X8_readBridge ot od = some (ot2, od2) ∧ AtL ot2 b n R ∧ LD p (B + 1) od2 g2 ∧ LX p C g2 := by
  obtain ⟨⟨q1, q2⟩, q3, q4, q5⟩ := hq
  have t1 := h.word (t := 6) (by omega) (by omega) ND.num
  obtain ⟨a1, e1, t2⟩ := TK_word t1 (by omega) (by omega) (show q.1 < 100 by omega) ND.num
  obtain ⟨a2, e2, t3⟩ := t2.num (show q.2.1 < 100 by omega) ND.num
  have c2 := TK_num t2 (lo := 1) (hi := 9) (nI_nlt (b := 1) q1 (by omega)) (nI_le (b := 9) (by omega) (by omega)) e2
  obtain ⟨a3, e3, t4⟩ := t3.num (show q.2.2 < 100 by omega) ND.semi
  have s1 : nI q.1 - 1 = nI (q.1 - 1) := z_sub (b := 1) (by omega)
  have c3 := TK_num t3 (lo := 0) (hi := nI q.1 - 1) (nI_pos (by omega)) (by rw [s1]; exact nI_le (by omega) (by omega)) e3
  obtain ⟨a4, e4, t5⟩ := t4.semi
  have c4 := TK_num t4 (lo := 1) (hi := 3) (nI_nlt (b := 1) q4 (by omega)) (nI_le (b := 3) (by omega) (by omega)) e4
  obtain ⟨a5, e5, t6⟩ := TK_semi t5 hR
  have k : ∀ i : Nat, i ≠ 9 → (i < 132 + 3 * B ∨ 132 + 3 * B + 2 < i) → addB g B q i = g i := fun i h9 hh => by
    unfold addB
    rw [if_neg h9, if_neg (by omega), if_neg (by omega), if_neg (by omega)]
  obtain ⟨od2, d1, d2⟩ := hL.bridge hB (g2 := addB g B q) (x1 := nI q.1) (x2 := nI q.2.1) (x3 := nI q.2.2) ⟨q.1, q1, by omega, rfl⟩
    (by unfold addB; rw [if_neg (by omega), if_pos rfl])
    (by unfold addB; rw [if_neg (by omega), if_neg (by omega), if_pos rfl])
    (by unfold addB; rw [if_neg (by omega), if_neg (by omega), if_neg (by omega), if_pos rfl])
    (by unfold addB; rw [if_pos rfl]) k
  obtain ⟨x1, x2, x3, x4, x5⟩ := hX
  refine ⟨a5, od2, addB g B q, ?_, t6, d2, ?_, fun r hr => ?_, ?_, ?_, x5⟩
  · simp only [F_X8_readBridge, e1, c2, c3, c4, e5, z_bsN, d1]
  · unfold gK
    rw [k 3 (by omega) (by omega), k 4 (by omega) (by omega)]
    exact x1
  · rw [k _ (by omega) (by omega)]; exact x2 r hr
  · rw [zSI_congr (f := fun q => g (12 + 8 * q + 2)) (fun r hr => k _ (by omega) (by omega))]; exact x3
  · rw [k _ (by omega) (by omega)]; exact x4
theorem R_bridges : ∀ (qs : List brg) (B fu : Nat) (ot od : ob) (g : Nat → Int32), p ≤ 10 → B + qs.length ≤ 4 → qs.length < fu → (∀ q : brg, q ∈ qs → okb q) → AtL ot b n (tblX qs []) → LD p B od g → LX p C g → ∃ (ot2 od2 : ob) (g2 : Nat → Int32), F_X8_readBridges_2 fu ot od (nI B) = some (nI (B + qs.length), ot2, od2) ∧ T0 ot2 b n ∧ LD p (B + qs.length) od2 g2 ∧ LX p C g2 := by
  intro qs
  induction qs with
  | nil =>
    intro B fu ot od g hP hp hf hq h hL hX
    obtain ⟨fu, rfl⟩ : ∃ n, fu = n + 1 := ⟨fu - 1, by omega⟩
    have hT := AtL.end h
    refine ⟨ot, od, g, ?_, hT, hL, hX⟩
    have hp : B ≤ 4 := hp
    simp only [F_X8_readBridges_2, IW0 hT]
    rw [if_neg (show ¬ (4 : Int32) < nI B from Int32.not_lt.mpr (nI_le (b := 4) hp (by omega))), z_bsN, if_pos rfl]
    rfl
  | cons q qs ih =>
    intro B fu ot od g hP hp hf hq h hL hX
    rw [List.length_cons] at hp hf
    obtain ⟨fu, rfl⟩ : ∃ n, fu = n + 1 := ⟨fu - 1, by omega⟩
    have h : AtL ot b n (brX q (tblX qs [])) := h
    have t1 := h.word (t := 6) (by omega) (by omega) ND.num
    have i1 := IW t1 (by omega) (by omega) (show 1 ≤ 6 by omega) (by omega)
    obtain ⟨ot2, od2, g2, e2, w2, l2, x2⟩ := R_bridge h (hq q List.mem_cons_self) LN.tbl hL hX hP (by omega)
    obtain ⟨ot3, od3, g3, e3, w3, l3, x3⟩ := ih (B + 1) fu ot2 od2 g2 hP (by omega) (by omega) (fun r hr => hq r (List.mem_cons_of_mem _ hr)) w2 l2 x2
    rw [List.length_cons, show B + (qs.length + 1) = B + 1 + qs.length by omega]
    refine ⟨ot3, od3, g3, ?_, w3, l3, x3⟩
    simp only [F_X8_readBridges_2, i1]
    rw [if_neg (show ¬ (4 : Int32) < nI B from Int32.not_lt.mpr (nI_le (b := 4) (by omega) (by omega))), z_bsN, if_pos trivial, if_neg (by decide), if_neg (show ¬ nI B = (4 : Int32) from fun z => by have := (nI_eq (a := B) (b := 4) (by omega) (by omega)).mp z; omega), e2, z_bsN, nI_1]
    exact e3
end LINES
