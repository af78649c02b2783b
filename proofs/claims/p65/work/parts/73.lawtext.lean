/-! The text that the law writes, sign by sign. -/
def Wd (t : Nat) : List Nat := ([[110, 111], [103, 97, 109, 101], [107, 105, 110, 103], [98, 101, 103, 103, 97, 114], [119, 101, 115, 116], [101, 97, 115, 116], [98, 114, 105, 100, 103, 101], [59], [32, 101, 97, 115, 116], [32, 119, 101, 115, 116]] : List (List Nat)).getD t []
theorem Wd_chr0 : ∀ t : Nat, t < 10 → 1 ≤ t → rx_len.getD t 0 = (Wd t).length ∧ (Wd t).length ≤ 6 ∧ ∀ i : Nat, i < (Wd t).length → (rx_byt.getD t []).getD i 0 = nI ((Wd t).getD i 0) := by decide +kernel
theorem Wd_chr (t : Nat) (h1 : 1 ≤ t) (h9 : t < 10) : rx_len.getD t 0 = (Wd t).length ∧ (Wd t).length ≤ 6 ∧ ∀ i : Nat, i < (Wd t).length → (rx_byt.getD t []).getD i 0 = nI ((Wd t).getD i 0) := Wd_chr0 t h9 h1
theorem Wd_rx {t i : Nat} (h1 : 1 ≤ t) (h9 : t < 10) (hi : i < (Wd t).length) : rx_chr t (nI i) = some (nI ((Wd t).getD i 0)) := by
  obtain ⟨a, b, c⟩ := Wd_chr t h1 h9
  unfold rx_chr
  rw [nI_clamp (by omega), if_pos ⟨nI_pos' (by omega), by rw [a]; exact hi⟩, c i hi]
def numL (v : Nat) : List Nat := if v < 10 then [32, 48 + v] else [32, 48 + v / 10, 48 + v % 10]
theorem numL_le {v : Nat} : (numL v).length ≤ 3 := by
  unfold numL
  split
  · exact Nat.le_succ 2
  · exact Nat.le_refl 3
/-- the law's object holds the text L -/
def WT (om : ob) (L : List Nat) : Prop := om.1 2 = nI L.length ∧ L.length ≤ 500 ∧ ∀ i : Nat, i < L.length → om.2 0 i = nI (L.getD i 0)
def KP (om om2 : ob) : Prop := om2.1 3 = om.1 3 ∧ om2.1 4 = om.1 4 ∧ om2.2 1 = om.2 1
theorem KP.refl {om : ob} : KP om om := ⟨rfl, rfl, rfl⟩
theorem KP.trans {om om2 om3 : ob} (h : KP om om2) (h2 : KP om2 om3) : KP om om3 := ⟨h2.1.trans h.1, h2.2.1.trans h.2.1, h2.2.2.trans h.2.2⟩
theorem L_sign {om : ob} {L : List Nat} {c : Nat} (h : WT om L) (hl : L.length < 500) : ∃ om2 : ob, F_L_sign om (nI c) = some om2 ∧ WT om2 (L ++ [c]) ∧ KP om om2 := by
  obtain ⟨h1, h2, h3⟩ := h
  refine ⟨(upd om.1 2 (nI (L.length + 1)), va_up om.2 0 (upd (om.2 0) L.length (nI c))), ?_, ⟨?_, ?_, fun i hi => ?_⟩, ?_, ?_, ?_⟩
  · simp only [F_L_sign, h1, z_leN]
    rw [z_ast hl (by omega), z_bsN, nI_1]
  · dsimp only; rw [z_us, List.length_append]; rfl
  · rw [List.length_append]; exact hl
  · dsimp only
    rw [z_vs]
    rw [List.length_append, List.length_singleton] at hi
    by_cases q : i = L.length
    · subst q; rw [z_us]; simp [List.getD]
    · rw [z_un q, h3 i (by omega)]
      simp [List.getD, List.getElem?_append_left (show i < L.length by omega)]
  · dsimp only; rw [z_un (by omega)]
  · dsimp only; rw [z_un (by omega)]
  · dsimp only; rw [z_vn (by omega)]
theorem L_writes {om : ob} {L : List Nat} {t : Nat} (h1 : 1 ≤ t) (h9 : t < 10) (h : WT om L) (hl : L.length + (Wd t).length ≤ 500) : ∃ om2 : ob, F_L_writes om t = some om2 ∧ WT om2 (L ++ Wd t) ∧ KP om om2 := by
  obtain ⟨a, b, c⟩ := Wd_chr t h1 h9
  have key : ∀ (d i fu : Nat) (om1 : ob), i + d = (Wd t).length → d < fu → WT om1 (L ++ (Wd t).take i) → KP om om1 → ∃ om2 : ob, F_L_writes_2 t fu om1 (nI i) = some (nI (Wd t).length, om2) ∧ WT om2 (L ++ Wd t) ∧ KP om om2 := by
    intro d
    induction d with
    | zero =>
      intro i fu om1 hi hf hw hk
      obtain ⟨fu, rfl⟩ : ∃ n, fu = n + 1 := ⟨fu - 1, by omega⟩
      obtain rfl : i = (Wd t).length := by omega
      refine ⟨om1, ?_, by rw [List.take_length] at hw; exact hw, hk⟩
      simp only [F_L_writes_2, a]
      rw [if_pos (Int32.le_refl _)]
    | succ d ih =>
      intro i fu om1 hi hf hw hk
      obtain ⟨fu, rfl⟩ : ∃ n, fu = n + 1 := ⟨fu - 1, by omega⟩
      obtain ⟨om2, e2, w2, k2⟩ := L_sign (c := (Wd t).getD i 0) hw (by rw [List.length_append, List.length_take]; omega)
      have hT : L ++ (Wd t).take i ++ [(Wd t).getD i 0] = L ++ (Wd t).take (i + 1) := by
        rw [List.append_assoc]
        congr 1
        rw [List.take_succ_eq_append_getElem (show i < (Wd t).length by omega)]
        simp [List.getD, List.getElem?_eq_getElem (show i < (Wd t).length by omega)]
      rw [hT] at w2
      obtain ⟨om3, e3, w3, k3⟩ := ih (i + 1) fu om2 (by omega) (by omega) w2 (hk.trans k2)
      refine ⟨om3, ?_, w3, k3⟩
      simp only [F_L_writes_2, a]
      rw [if_neg (nI_ge (by omega) (by omega)), Wd_rx h1 h9 (by omega), z_bsN, e2, z_bsN, nI_1]
      exact e3
  obtain ⟨om2, e2, w2, k2⟩ := key (Wd t).length 0 100000 om (by omega) (by omega) (by rw [List.take_zero, List.append_nil]; exact h) KP.refl
  have e2 : F_L_writes_2 t 100000 om 0 = _ := e2
  exact ⟨om2, by simp only [F_L_writes, e2, z_bsN], w2, k2⟩
theorem r_div {a b : Nat} (ha : a < 2 ^ 31) (hb : 0 < b) (hb2 : b < 2 ^ 31) : rx_div (nI a) (nI b) = some (nI (a / b)) := by
  unfold rx_div
  rw [if_neg (nI_ne0 hb hb2), z_div ha hb hb2]
theorem L_number {om : ob} {L : List Nat} {v : Nat} (hv : v < 100) (h : WT om L) (hl : L.length + 3 ≤ 500) : ∃ om2 : ob, F_L_number om (nI v) = some om2 ∧ WT om2 (L ++ numL v) ∧ KP om om2 := by
  have d1 : rx_div (nI v) 1 = some (nI v) := by have := r_div (a := v) (b := 1) (by omega) (by omega) (by omega); rw [Nat.div_one] at this; exact this
  have d10 : rx_div (nI v) 10 = some (nI (v / 10)) := r_div (b := 10) (by omega) (by omega) (by omega)
  have m10 : ∀ w : Nat, w < 100 → nI w - nI w / 10 * 10 = nI (w % 10) := fun w hw => z_rem (b := 10) (by omega) (by omega) (by omega)
  have p48 : ∀ w : Nat, (48 : Int32) + nI w = nI (48 + w) := fun w => nI_add 48 w
  obtain ⟨o1, e1, w1, k1⟩ := L_sign (c := 32) h (by omega)
  have e1 : F_L_sign om 32 = some o1 := e1
  by_cases c : v < 10
  · obtain ⟨o2, e2, w2, k2⟩ := L_sign (c := 48 + v % 10) w1 (by rw [List.length_append, List.length_singleton]; omega)
    refine ⟨o2, ?_, ?_, k1.trans k2⟩
    · have n1 : ∀ fu : Nat, F_L_number_2 (nI v) (fu + 1) om 1 = some (1, om) := by
        intro fu
        simp only [F_L_number_2, d1, z_bsN]
        rw [if_pos (show nI v ≤ (9 : Int32) from nI_le (b := 9) (by omega) (by omega))]
      have n2 : ∀ fu : Nat, F_L_number_24 (nI v) (fu + 1 + 1) o1 1 = some (0, o2) := by
        intro fu
        simp only [F_L_number_24, d1, z_bsN, z_leN, m10 v hv, p48, e2]
        rw [if_neg (by decide), if_pos (by decide)]
        rfl
      simp only [F_L_number, show F_L_number_2 (nI v) 100000 om 1 = _ from n1 99999, z_bsN, e1, show F_L_number_24 (nI v) 100000 o1 1 = _ from n2 99998]
    · have : L ++ [32] ++ [48 + v % 10] = L ++ numL v := by
        rw [numL, if_pos c, Nat.mod_eq_of_lt c, List.append_assoc]; rfl
      rw [← this]; exact w2
  · obtain ⟨o2, e2, w2, k2⟩ := L_sign (c := 48 + v / 10 % 10) w1 (by rw [List.length_append, List.length_singleton]; omega)
    obtain ⟨o3, e3, w3, k3⟩ := L_sign (c := 48 + v % 10) w2 (by rw [List.length_append, List.length_append, List.length_singleton, List.length_singleton]; omega)
    refine ⟨o3, ?_, ?_, k1.trans (k2.trans k3)⟩
    · have n1 : ∀ fu : Nat, F_L_number_2 (nI v) (fu + 1 + 1) om 1 = some (10, om) := by
        intro fu
        simp only [F_L_number_2, d1, z_bsN, z_leN]
        rw [if_neg (show ¬ nI v ≤ (9 : Int32) from nI_ge (a := 9) (by omega) (by omega)), show (1 : Int32) * 10 = 10 from rfl, d10, z_bsN, if_pos (show nI (v / 10) ≤ (9 : Int32) from nI_le (b := 9) (by omega) (by omega))]
      have n2 : ∀ fu : Nat, F_L_number_24 (nI v) (fu + 1 + 1 + 1) o1 10 = some (0, o3) := by
        intro fu
        simp only [F_L_number_24, d10, z_bsN, z_leN, m10 (v / 10) (by omega), p48, e2]
        rw [if_neg (by decide), show (10 : Int32) / 10 = 1 from rfl]
        simp only [d1, z_bsN, m10 v hv, p48, e3]
        rw [if_neg (by decide), if_pos (by decide)]
        rfl
      simp only [F_L_number, show F_L_number_2 (nI v) 100000 om 1 = _ from n1 99998, z_bsN, e1, show F_L_number_24 (nI v) 100000 o1 10 = _ from n2 99997]
    · have : L ++ [32] ++ [48 + v / 10 % 10] ++ [48 + v % 10] = L ++ numL v := by
        rw [numL, if_neg c, Nat.mod_eq_of_lt (show v / 10 < 10 by omega), List.append_assoc, List.append_assoc]; rfl
      rw [← this]; exact w3
