/-! Changes: the class's and the model's do the same to the relation. -/
section FR
variable {P B J J2 : Nat} {g g2 : Nat → Int32} {os op op2 o : ob} {e : Int32} {ql : List Nat}
theorem okG.f (h : okG P B J g) (hJ : J ≤ J2) (k : ∀ i : Nat, (i < 3 ∨ (8 ≤ i ∧ i ≠ 10 ∧ i < 12) ∨ (12 ≤ i ∧ i < 92 ∧ i % 8 < 6) ∨ 102 ≤ i) → g2 i = g i) : okG P B J2 g2 := by
  have hP := h.1.1
  have hB := h.1.2.1
  exact ⟨h.1.c (k _ (by omega)) (k _ (by omega)), h.2.1.c hJ (k _ (by omega)) (fun p hp => k _ (by omega)), h.2.2.1.c (k _ (by omega)) (k _ (by omega)), h.2.2.2.1.c hJ (k _ (by omega)) (fun p hp => ⟨k _ (by omega), k _ (by omega), k _ (by omega), k _ (by omega)⟩), h.2.2.2.2.1.c (fun p hp => ⟨k _ (by omega), k _ (by omega)⟩), h.2.2.2.2.2.1.c (fun p hp => k _ (by omega)), h.2.2.2.2.2.2.1.c (fun p hp => ⟨k _ (by omega), k _ (by omega), k _ (by omega)⟩), h.2.2.2.2.2.2.2.c (fun b hb => k _ (by omega))⟩
theorem RS.f (h : RS P B os g) (hP : P ≤ 10) (k : ∀ i : Nat, ((1 < i ∧ i < 5) ∨ (7 < i ∧ i < 11) ∨ (12 ≤ i ∧ i < 92 ∧ i % 8 = 4) ∨ (92 ≤ i ∧ i < 102) ∨ 132 ≤ i) → g2 i = g i) : RS P B os g2 :=
  h.c ⟨k _ (by omega), k _ (by omega), k _ (by omega), k _ (by omega), k _ (by omega), k _ (by omega)⟩ (fun p hp => ⟨k _ (by omega), k _ (by omega)⟩) (fun b hb => ⟨k _ (by omega), k _ (by omega), k _ (by omega)⟩)
theorem RK.f (h : RK P op g) (hP : P ≤ 10) (hr : op2.2 10 = op.2 10 ∧ op2.2 11 = op.2 11 ∧ op2.2 12 = op.2 12) (k : ∀ i : Nat, ((12 ≤ i ∧ i < 92 ∧ i % 8 = 4) ∨ (102 ≤ i ∧ i < 132)) → g2 i = g i) : RK P op2 g2 :=
  h.c hr (fun q hq => ⟨k _ (by omega), k _ (by omega), k _ (by omega), k _ (by omega)⟩)
theorem RQ.f (h : RQ P o g e ql) (hP : P ≤ 10) (k : ∀ i : Nat, (12 ≤ i ∧ i < 92 ∧ (i % 8 = 5 ∨ i % 8 = 2 ∨ i % 8 = 3)) → g2 i = g i) : RQ P o g2 e ql :=
  h.c (fun p hp => ⟨k _ (by omega), k _ (by omega), k _ (by omega)⟩)
theorem z_lof0 {p : Nat} (h : g (12 + 8 * p + 6) = 0) : z_lof g e p = false := by
  simp [z_lof, z_qd, h]
/-- one leaves a queue -/
theorem RQ.remove (h : RQ P o g e ql) (hP : P ≤ 10) {i : Nat} (hi : i < ql.length) (h0 : g2 (12 + 8 * ql[i] + 6) = 0) (hk : ∀ p : Nat, p < P → p ≠ ql[i] → g2 (12 + 8 * p + 1) = g (12 + 8 * p + 1) ∧ g2 (12 + 8 * p + 6) = g (12 + 8 * p + 6) ∧ g2 (12 + 8 * p + 7) = g (12 + 8 * p + 7)) : ∃ o2 : ob, F_X3_removeAt o (nI i) = some o2 ∧ RQ P o2 g2 e (ql.eraseIdx i) := by
  have hl := h.1.lenP
  obtain ⟨o2, e1, e2, e3, e4⟩ := C_remove (show ql.length ≤ 10 by omega) hi h.2.1
  have hel : (ql.eraseIdx i).length = ql.length - 1 := List.length_eraseIdx_of_lt hi
  refine ⟨o2, e1, ⟨fun p => ?_, ?_⟩, by rw [e2, hel], fun j hj => ?_⟩
  · rw [List.mem_eraseIdx_iff_getElem]
    constructor
    · rintro ⟨j, hj, hji, rfl⟩
      have hne : ql[j] ≠ ql[i] := fun q => hji (h.1.inj hj hi q)
      have a := h.1.at hj
      have b := hk _ a.1 hne
      refine ⟨a.1, ?_⟩
      rw [z_lofc b.1 b.2.1]; exact a.2
    · rintro ⟨hp, hq⟩
      have hne : p ≠ ql[i] := fun q => by
        subst q
        rw [z_lof0 h0] at hq
        cases hq
      have b := hk _ hp hne
      rw [z_lofc b.1 b.2.1] at hq
      obtain ⟨j, hj, rfl⟩ := List.mem_iff_getElem.mp ((h.1.1 p).mpr ⟨hp, hq⟩)
      exact ⟨j, hj, fun q => hne (by subst q; rfl), rfl⟩
  · refine (h.1.2.sublist (List.eraseIdx_sublist ql i)).imp_of_mem (fun {a b} ha hb q => ?_)
    obtain ⟨j, hj, hji, rfl⟩ := List.mem_eraseIdx_iff_getElem.mp ha
    obtain ⟨j2, hj2, hji2, rfl⟩ := List.mem_eraseIdx_iff_getElem.mp hb
    have a1 := hk _ (h.1.at hj).1 (fun q => hji (h.1.inj hj hi q))
    have a2 := hk _ (h.1.at hj2).1 (fun q => hji2 (h.1.inj hj2 hi q))
    rw [z_ahc a1.2.1 a1.2.2 a2.2.1 a2.2.2]; exact q
  · rw [hel] at hj
    rw [e3 j hj, e4 j hj, List.getElem_eraseIdx]
    by_cases q : j < i
    · rw [if_pos q, if_pos q, dif_pos q]
      have a1 := hk _ (h.1.at (show j < ql.length by omega)).1 (fun r => by have := h.1.inj (show j < ql.length by omega) hi r; omega)
      rw [a1.2.1]
      exact h.2.2 j (by omega)
    · rw [if_neg q, if_neg q, dif_neg q]
      have a1 := hk _ (h.1.at (show j + 1 < ql.length by omega)).1 (fun r => by have := h.1.inj (show j + 1 < ql.length by omega) hi r; omega)
      rw [a1.2.1]
      exact h.2.2 (j + 1) (by omega)
/-- one who is not in it is changed: the queue stays -/
theorem RQ.other (h : RQ P o g e ql) {x : Nat} (hx : x ∉ ql) (h0 : z_lof g2 e x = false) (hk : ∀ p : Nat, p < P → p ≠ x → g2 (12 + 8 * p + 1) = g (12 + 8 * p + 1) ∧ g2 (12 + 8 * p + 6) = g (12 + 8 * p + 6) ∧ g2 (12 + 8 * p + 7) = g (12 + 8 * p + 7)) : RQ P o g2 e ql := by
  refine ⟨⟨fun p => ?_, ?_⟩, h.2.1, fun j hj => ?_⟩
  · constructor
    · intro hp
      have a := (h.1.1 p).mp hp
      have b := hk _ a.1 (fun q => hx (q ▸ hp))
      refine ⟨a.1, ?_⟩
      rw [z_lofc b.1 b.2.1]; exact a.2
    · rintro ⟨hp, hq⟩
      have hne : p ≠ x := fun q => by
        subst q
        rw [h0] at hq
        cases hq
      have b := hk _ hp hne
      rw [z_lofc b.1 b.2.1] at hq
      exact (h.1.1 p).mpr ⟨hp, hq⟩
  · refine h.1.2.imp_of_mem (fun {a b} ha hb q => ?_)
    have a1 := hk a ((h.1.1 a).mp ha).1 (fun q => hx (q ▸ ha))
    have a2 := hk b ((h.1.1 b).mp hb).1 (fun q => hx (q ▸ hb))
    rw [z_ahc a1.2.1 a1.2.2 a2.2.1 a2.2.2]; exact q
  · have a1 := hk _ (h.1.at hj).1 (fun q => hx (q ▸ List.getElem_mem hj))
    rw [a1.2.1]; exact h.2.2 j hj
theorem z_split {n : Nat} {D : Nat → Prop} (hD : ∀ j : Nat, j + 1 < n → D (j + 1) → D j) : ∃ i : Nat, i ≤ n ∧ (∀ j : Nat, j < i → D j) ∧ ∀ j : Nat, i ≤ j → j < n → ¬ D j := by
  induction n with
  | zero => exact ⟨0, Nat.le_refl _, fun j hj => by omega, fun j h1 h2 => by omega⟩
  | succ n ih =>
    obtain ⟨i, hi, h1, h2⟩ := ih (fun j hj => hD j (by omega))
    rcases Nat.lt_or_ge i n with q | q
    · refine ⟨i, by omega, h1, fun j hj hj2 hd => ?_⟩
      rcases Nat.lt_or_ge j n with r | r
      · exact h2 j hj r hd
      · obtain rfl : j = n := by omega
        have := hD (j - 1) (by omega) (by rw [Nat.sub_add_cancel (by omega)]; exact hd)
        exact h2 (j - 1) (by omega) (by omega) this
    · obtain rfl : i = n := by omega
      by_cases hd : D i
      · exact ⟨i + 1, Nat.le_refl _, fun j hj => by
          rcases Nat.lt_or_ge j i with r | r
          · exact h1 j r
          · obtain rfl : j = i := by omega
            exact hd, fun j h3 h4 => by omega⟩
      · exact ⟨i, by omega, h1, fun j h3 h4 => by
          obtain rfl : j = i := by omega
          exact hd⟩
/-- one joins a queue -/
theorem RQ.join (h : RQ P o g e ql) (hP : P ≤ 10) {x : Nat} {v : Int32} (hx : x < P) (hn : x ∉ ql) (hv : 0 ≤ v) (hv2 : v ≤ 99) (h1 : g2 (12 + 8 * x + 1) = e) (h6 : g2 (12 + 8 * x + 6) = v + 1) (h7 : ∀ p : Nat, p ∈ ql → g (12 + 8 * p + 7) < g2 (12 + 8 * x + 7)) (hk : ∀ p : Nat, p < P → p ≠ x → g2 (12 + 8 * p + 1) = g (12 + 8 * p + 1) ∧ g2 (12 + 8 * p + 6) = g (12 + 8 * p + 6) ∧ g2 (12 + 8 * p + 7) = g (12 + 8 * p + 7)) (hb : ∀ p : Nat, p ∈ ql → g (12 + 8 * p + 6) ≤ 100) : ∃ (i : Nat) (o2 : ob) (ql2 : List Nat), F_X3_insert o (nI x) v = some (nI i, o2) ∧ RQ P o2 g2 e ql2 ∧ ∃ hi : i < ql2.length, ql2[i] = x := by
  have hl := h.1.lenP
  have hlt : ql.length < P := by
    have h3 := h.1.len
    have hf : z_lof g e x = false := by
      cases hq : z_lof g e x with
      | false => rfl
      | true => exact absurd ((h.1.1 x).mpr ⟨hx, hq⟩) hn
    rw [← h3]
    have key : ∀ n : Nat, x < n → z_cnt (z_lof g e) n < n := by
      intro n
      induction n with
      | zero => intro q; omega
      | succ n ih =>
        intro q
        rw [z_cnt]
        by_cases r : x = n
        · subst r
          rw [hf]
          have := z_cnt_le (f := z_lof g e) (n := x)
          simp only [Bool.false_eq_true, if_false]
          omega
        · have := ih (by omega)
          split <;> omega
    exact key P hx
  have hpw := List.pairwise_iff_getElem.mp h.1.2
  -- how the class's row of offers reads
  have hoff : ∀ (j : Nat) (hj : j < ql.length), (v ≤ o.2 1 j ↔ v + 1 ≤ g (12 + 8 * ql[j] + 6)) := by
    intro j hj
    rw [(h.2.2 j hj).2]
    have := (h.1.bank hj).2
    have := hb _ (List.getElem_mem hj)
    grind
  obtain ⟨i, hi, a1, a2⟩ := z_split (n := ql.length) (D := fun j => v ≤ o.2 1 j) (fun j hj hd => by
    have h3 := hpw j (j + 1) (by omega) hj (by omega)
    have h4 := (hoff (j + 1) hj).mp hd
    refine (hoff j (by omega)).mpr ?_
    simp only [z_ah, Bool.or_eq_true, Bool.and_eq_true, decide_eq_true_eq] at h3
    grind)
  obtain ⟨o2, e1, e2, e3, e4⟩ := C_insert (p := nI x) (show ql.length < 10 by omega) hi h.2.1 a1 (fun j hj hj2 => Int32.not_le.mp (a2 j hj hj2))
  have hlen : (ql.take i ++ x :: ql.drop i).length = ql.length + 1 := by
    rw [List.length_append, List.length_cons, List.length_take, List.length_drop]; omega
  have htk : (ql.take i).length = i := by rw [List.length_take]; omega
  have hget : ∀ (j : Nat) (hj : j < (ql.take i ++ x :: ql.drop i).length), (∃ hj2 : j < ql.length, j < i ∧ (ql.take i ++ x :: ql.drop i)[j] = ql[j]) ∨ (j = i ∧ (ql.take i ++ x :: ql.drop i)[j] = x) ∨ (∃ hj2 : j - 1 < ql.length, i < j ∧ (ql.take i ++ x :: ql.drop i)[j] = ql[j - 1]) := by
    intro j hj
    rw [hlen] at hj
    rcases Nat.lt_trichotomy j i with r | r | r
    · refine Or.inl ⟨by omega, r, ?_⟩
      rw [List.getElem_append_left (by omega), List.getElem_take]
    · refine Or.inr (Or.inl ⟨r, ?_⟩)
      subst r
      rw [List.getElem_append_right (by omega)]
      simp [htk]
    · refine Or.inr (Or.inr ⟨by omega, r, ?_⟩)
      rw [List.getElem_append_right (by omega)]
      obtain ⟨d, hd⟩ : ∃ d, j - (ql.take i).length = d + 1 := ⟨j - i - 1, by omega⟩
      simp only [hd, List.getElem_cons_succ, List.getElem_drop]
      congr 1
      omega
  have hmem : ∀ p : Nat, p ∈ ql.take i ++ x :: ql.drop i ↔ p = x ∨ p ∈ ql := by
    intro p
    rw [List.mem_append, List.mem_cons]
    constructor
    · rintro (q | q | q)
      · exact Or.inr (List.mem_of_mem_take q)
      · exact Or.inl q
      · exact Or.inr (List.mem_of_mem_drop q)
    · rintro (q | q)
      · exact Or.inr (Or.inl q)
      · rw [← List.take_append_drop i ql, List.mem_append] at q
        rcases q with q | q
        · exact Or.inl q
        · exact Or.inr (Or.inr q)
  refine ⟨i, o2, ql.take i ++ x :: ql.drop i, e1, ⟨⟨fun p => ?_, ?_⟩, by rw [e2, hlen], fun j hj => ?_⟩, by rw [hlen]; omega, ?_⟩
  · rw [hmem]
    by_cases q : p = x
    · subst q
      refine ⟨fun _ => ⟨hx, ?_⟩, fun _ => Or.inl rfl⟩
      simp only [z_lof, z_qd, Bool.and_eq_true, decide_eq_true_eq]
      refine ⟨?_, h1⟩
      rw [h6]; grind
    · refine ⟨fun r => ?_, fun r => Or.inr ?_⟩
      · have a := (h.1.1 p).mp (r.resolve_left q)
        have b := hk p a.1 q
        exact ⟨a.1, by rw [z_lofc b.1 b.2.1]; exact a.2⟩
      · have b := hk p r.1 q
        exact (h.1.1 p).mpr ⟨r.1, by rw [← z_lofc b.1 b.2.1]; exact r.2⟩
  · have hb2 : ∀ p : Nat, p ∈ ql → g2 (12 + 8 * p + 6) = g (12 + 8 * p + 6) ∧ g2 (12 + 8 * p + 7) = g (12 + 8 * p + 7) := fun p hp => (hk p ((h.1.1 p).mp hp).1 (fun q => hn (q ▸ hp))).2
    have hold : ∀ (j k : Nat) (hj : j < ql.length) (hk2 : k < ql.length), j < k → z_ah g2 ql[j] ql[k] = true := by
      intro j k hj hk2 hjk
      rw [z_ahc (hb2 _ (List.getElem_mem hj)).1 (hb2 _ (List.getElem_mem hj)).2 (hb2 _ (List.getElem_mem hk2)).1 (hb2 _ (List.getElem_mem hk2)).2]
      exact hpw j k hj hk2 hjk
    refine List.pairwise_iff_getElem.mpr (fun j k hj hk2 hjk => ?_)
    rcases hget j hj with ⟨j2, r1, r2⟩ | ⟨r1, r2⟩ | ⟨j2, r1, r2⟩ <;> rcases hget k hk2 with ⟨k2, s1, s2⟩ | ⟨s1, s2⟩ | ⟨k2, s1, s2⟩
    · rw [r2, s2]; exact hold j k j2 k2 hjk
    · rw [r2, s2]
      have h3 := (hoff j j2).mp (a1 j r1)
      have h4 := h7 _ (List.getElem_mem j2)
      have h5 := hb2 _ (List.getElem_mem j2)
      simp only [z_ah, Bool.or_eq_true, Bool.and_eq_true, decide_eq_true_eq]
      rw [h6, h5.1, h5.2]
      grind
    · rw [r2, s2]; exact hold j (k - 1) j2 k2 (by omega)
    · omega
    · omega
    · rw [r2, s2]
      have h3 := fun q => a2 (k - 1) (by omega) k2 ((hoff (k - 1) k2).mpr q)
      have h5 := hb2 _ (List.getElem_mem k2)
      simp only [z_ah, Bool.or_eq_true, Bool.and_eq_true, decide_eq_true_eq]
      rw [h6, h5.1]
      exact Or.inl (Int32.not_le.mp h3)
    · omega
    · omega
    · rw [r2, s2]; exact hold (j - 1) (k - 1) j2 k2 (by omega)
  · have hj' := hj
    rw [hlen] at hj'
    rw [e3 j hj', e4 j hj']
    rcases hget j hj with ⟨j2, r1, r2⟩ | ⟨r1, r2⟩ | ⟨j2, r1, r2⟩
    · rw [if_pos r1, if_pos r1, r2, (hk _ (h.1.at j2).1 (fun q => hn (q ▸ List.getElem_mem j2))).2.1]
      exact h.2.2 j j2
    · rw [if_neg (show ¬ j < i by omega), if_pos r1, if_neg (show ¬ j < i by omega), if_pos r1, r2, h6]
      exact ⟨rfl, by grind⟩
    · rw [if_neg (show ¬ j < i by omega), if_neg (show ¬ j = i by omega), if_neg (show ¬ j < i by omega), if_neg (show ¬ j = i by omega), r2, (hk _ (h.1.at j2).1 (fun q => hn (q ▸ List.getElem_mem j2))).2.1]
      exact h.2.2 (j - 1) j2
  · rcases hget i (by rw [hlen]; omega) with ⟨_, r1, _⟩ | ⟨_, r2⟩ | ⟨_, r1, _⟩
    · omega
    · exact r2
    · omega
end FR
