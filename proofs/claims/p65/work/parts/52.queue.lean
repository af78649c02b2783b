/-! The queue of a bank as a list of people: what the model counts, what the class keeps in rows. -/
theorem q_len {l : List Nat} {f : Nat → Bool} {P : Nat} (hn : l.Nodup) (hm : ∀ p : Nat, p ∈ l ↔ p < P ∧ f p = true) : z_cnt f P = l.length := by
  have h1 : ∀ n : Nat, z_cnt f n = ((List.range n).filter f).length := by
    intro n
    induction n with
    | zero => rfl
    | succ n ih =>
      rw [z_cnt, ih, List.range_succ, List.filter_append, List.length_append]
      by_cases h : f n = true <;> simp [h]
  rw [h1]
  refine List.Perm.length_eq ((List.perm_ext_iff_of_nodup ?_ hn).mpr fun a => ?_)
  · exact (List.nodup_range (n := P)).sublist List.filter_sublist
  · rw [List.mem_filter, List.mem_range, hm]
theorem z_ahI {g : Nat → Int32} {a : Nat} : z_ah g a a = false := by
  simp [z_ah, Int32.lt_irrefl]
theorem z_ahA {g : Nat → Int32} {a b : Nat} (h : z_ah g a b = true) : z_ah g b a = false := by
  simp only [z_ah, Bool.or_eq_true, Bool.and_eq_true, decide_eq_true_eq] at h
  simp only [z_ah, Bool.or_eq_false_iff, Bool.and_eq_false_iff, decide_eq_false_iff_not]
  grind
def okQ (P : Nat) (g : Nat → Int32) (e : Int32) (ql : List Nat) : Prop := (∀ p : Nat, p ∈ ql ↔ p < P ∧ z_lof g e p = true) ∧ ql.Pairwise (fun a b => z_ah g a b = true)
theorem okQ.nd {P : Nat} {g : Nat → Int32} {e : Int32} {ql : List Nat} (h : okQ P g e ql) : ql.Nodup := h.2.imp (fun {a b} hab q => by
  subst q
  rw [z_ahI] at hab
  cases hab)
theorem okQ.len {P : Nat} {g : Nat → Int32} {e : Int32} {ql : List Nat} (h : okQ P g e ql) : z_cnt (z_lof g e) P = ql.length := q_len h.nd h.1
theorem okQ.lenP {P : Nat} {g : Nat → Int32} {e : Int32} {ql : List Nat} (h : okQ P g e ql) : ql.length ≤ P := by rw [← h.len]; exact z_cnt_le
theorem okQ.at {P : Nat} {g : Nat → Int32} {e : Int32} {ql : List Nat} (h : okQ P g e ql) {i : Nat} (hi : i < ql.length) : ql[i] < P ∧ z_lof g e ql[i] = true := (h.1 _).mp (List.getElem_mem hi)
theorem okQ.inj {P : Nat} {g : Nat → Int32} {e : Int32} {ql : List Nat} (h : okQ P g e ql) {i j : Nat} (hi : i < ql.length) (hj : j < ql.length) (hij : ql[i] = ql[j]) : i = j := by
  have h2 := List.pairwise_iff_getElem.mp h.nd
  rcases Nat.lt_trichotomy i j with q | q | q
  · exact absurd hij (h2 i j hi hj q)
  · exact q
  · exact absurd hij.symm (h2 j i hj hi q)
theorem okQ.place {P : Nat} {g : Nat → Int32} {e : Int32} {ql : List Nat} (h : okQ P g e ql) {i : Nat} (hi : i < ql.length) : z_cnt (z_pof g ql[i]) P = i := by
  have hpw := List.pairwise_iff_getElem.mp h.2
  have hat := h.at hi
  have hE : g (12 + 8 * ql[i] + 1) = e := by
    have := hat.2
    simp only [z_lof, Bool.and_eq_true, decide_eq_true_eq] at this
    exact this.2
  have hl : (ql.take i).length = i := by rw [List.length_take]; omega
  refine (q_len (l := ql.take i) (h.nd.sublist (List.take_sublist _ _)) (fun p => ?_)).trans hl
  rw [List.mem_take_iff_getElem]
  constructor
  · rintro ⟨j, hj, rfl⟩
    have hj2 : j < i := by omega
    have hj3 : j < ql.length := by omega
    have h1 := h.at hj3
    have h2 := hpw j i hj3 hi hj2
    refine ⟨h1.1, ?_⟩
    have h3 := h1.2
    simp only [z_lof, Bool.and_eq_true, decide_eq_true_eq] at h3
    simp only [z_pof, Bool.and_eq_true, decide_eq_true_eq]
    exact ⟨fun q => by have := h.inj hj3 hi q; omega, h3.1, h3.2.trans hE.symm, h2⟩
  · rintro ⟨hp, hq⟩
    simp only [z_pof, Bool.and_eq_true, decide_eq_true_eq] at hq
    obtain ⟨q1, q2, q3, q4⟩ := hq
    have hm : p ∈ ql := (h.1 p).mpr ⟨hp, by simp only [z_lof, Bool.and_eq_true, decide_eq_true_eq]; exact ⟨q2, q3.trans hE⟩⟩
    obtain ⟨j, hj, rfl⟩ := List.mem_iff_getElem.mp hm
    refine ⟨j, ?_, rfl⟩
    rcases Nat.lt_trichotomy j i with r | r | r
    · omega
    · subst r; exact absurd rfl q1
    · have := z_ahA (hpw i j hi hj r)
      rw [this] at q4
      cases q4
theorem okQ.bank {P : Nat} {g : Nat → Int32} {e : Int32} {ql : List Nat} (h : okQ P g e ql) {i : Nat} (hi : i < ql.length) : g (12 + 8 * ql[i] + 1) = e ∧ 0 < g (12 + 8 * ql[i] + 6) := by
  have := (h.at hi).2
  simp only [z_lof, z_qd, Bool.and_eq_true, decide_eq_true_eq] at this
  exact ⟨this.2, this.1⟩
/-- the class's queue: rows of people and of offers -/
def RQ (P : Nat) (o : ob) (g : Nat → Int32) (e : Int32) (ql : List Nat) : Prop := okQ P g e ql ∧ o.1 2 = nI ql.length ∧ ∀ (i : Nat) (hi : i < ql.length), o.2 0 i = nI ql[i] ∧ o.2 1 i = g (12 + 8 * ql[i] + 6) - 1
theorem C_person {P : Nat} {o : ob} {g : Nat → Int32} {e : Int32} {ql : List Nat} (hP : P ≤ 10) (h : RQ P o g e ql) {i : Nat} (hi : i < ql.length) : F_X3_personAt o (nI i) = some (nI ql[i]) := by
  have hl := h.1.lenP
  simp only [F_X3_personAt, h.2.1]
  rw [if_neg (nI_pos (by omega)), z_ig hi (by omega), z_at (by omega) (by omega), (h.2.2 i hi).1]
theorem C_personO {P : Nat} {o : ob} {g : Nat → Int32} {e pl : Int32} {ql : List Nat} (h : RQ P o g e ql) (ho : pl < 0 ∨ nI ql.length ≤ pl) : F_X3_personAt o pl = some (-1) := by
  simp only [F_X3_personAt, h.2.1]
  by_cases h1 : pl < 0
  · rw [if_pos h1]
  · rw [if_neg h1, if_pos (ho.resolve_left h1)]
theorem C_offer {P : Nat} {o : ob} {g : Nat → Int32} {e : Int32} {ql : List Nat} (hP : P ≤ 10) (h : RQ P o g e ql) {i : Nat} (hi : i < ql.length) : F_X3_offerAt o (nI i) = some (g (12 + 8 * ql[i] + 6) - 1) := by
  have hl := h.1.lenP
  simp only [F_X3_offerAt, h.2.1]
  rw [if_neg (nI_pos (by omega)), z_ig hi (by omega), z_at (by omega) (by omega), (h.2.2 i hi).2]
theorem C_offerO {P : Nat} {o : ob} {g : Nat → Int32} {e pl : Int32} {ql : List Nat} (h : RQ P o g e ql) (ho : pl < 0 ∨ nI ql.length ≤ pl) : F_X3_offerAt o pl = some (-1) := by
  simp only [F_X3_offerAt, h.2.1]
  by_cases h1 : pl < 0
  · rw [if_pos h1]
  · rw [if_neg h1, if_pos (ho.resolve_left h1)]
theorem C_place {P : Nat} {o : ob} {g : Nat → Int32} {e : Int32} {ql : List Nat} (hP : P ≤ 10) (h : RQ P o g e ql) {i : Nat} (hi : i < ql.length) : F_X3_placeOf o (nI ql[i]) = some (nI i) := by
  have hl := h.1.lenP
  have hp := (h.1.at hi).1
  exact z_for i (fun fu k (_ : Unit) => F_X3_placeOf_2 o (nI ql[i]) fu (nI k)) (fun _ => ()) (r := some (nI i)) (by
    intro fu k hk
    show F_X3_placeOf_2 o (nI ql[i]) (fu + 1) (nI k) = F_X3_placeOf_2 o (nI ql[i]) fu (nI (k + 1))
    simp only [F_X3_placeOf_2, h.2.1]
    rw [z_ig (show k < ql.length by omega) (by omega), z_at (by omega) (by omega), (h.2.2 k (by omega)).1, nI_1, if_neg]
    intro q
    have hk2 := (h.1.at (show k < ql.length by omega)).1
    have := (nI_eq (by omega) (by omega)).mp q
    have := h.1.inj (show k < ql.length by omega) hi this
    omega) (by
    intro fu
    show F_X3_placeOf_2 o (nI ql[i]) (fu + 1) (nI i) = _
    simp only [F_X3_placeOf_2, h.2.1]
    rw [z_ig hi (by omega), z_at (by omega) (by omega), (h.2.2 i hi).1, if_pos rfl]) 100000 (by omega) 0 (Nat.zero_le _)
theorem C_placeO {P p : Nat} {o : ob} {g : Nat → Int32} {e : Int32} {ql : List Nat} (hP : P ≤ 10) (h : RQ P o g e ql) (hp : p < P) (hn : p ∉ ql) : F_X3_placeOf o (nI p) = some (-1) := by
  have hl := h.1.lenP
  exact z_for ql.length (fun fu k (_ : Unit) => F_X3_placeOf_2 o (nI p) fu (nI k)) (fun _ => ()) (r := some (-1)) (by
    intro fu k hk
    show F_X3_placeOf_2 o (nI p) (fu + 1) (nI k) = F_X3_placeOf_2 o (nI p) fu (nI (k + 1))
    simp only [F_X3_placeOf_2, h.2.1]
    rw [z_ig hk (by omega), z_at (by omega) (by omega), (h.2.2 k hk).1, nI_1, if_neg]
    intro q
    have hk2 := (h.1.at hk).1
    have := (nI_eq (by omega) (by omega)).mp q
    exact hn (this ▸ List.getElem_mem hk)) (by
    intro fu
    show F_X3_placeOf_2 o (nI p) (fu + 1) (nI ql.length) = _
    simp only [F_X3_placeOf_2, h.2.1]
    rw [z_il (Nat.le_refl _) (by omega)]) 100000 (by omega) 0 (Nat.zero_le _)
/-- people leave: the place's rest moves up -/
theorem C_remove {n i : Nat} {o : ob} (h10 : n ≤ 10) (hi : i < n) (h2 : o.1 2 = nI n) :
    ∃ o' : ob, F_X3_removeAt o (nI i) = some o' ∧ o'.1 2 = nI (n - 1) ∧ (∀ j : Nat, j < n - 1 → o'.2 0 j = if j < i then o.2 0 j else o.2 0 (j + 1)) ∧ (∀ j : Nat, j < n - 1 → o'.2 1 j = if j < i then o.2 1 j else o.2 1 (j + 1)) := by
  -- the loop, from k on: rows below k are done, the rest is as it was
  have key : ∀ (d k fu : Nat) (o1 : ob), k + d = n - 1 → i ≤ k → d < fu → o1.1 2 = nI (n - 1) → (∀ j : Nat, j < k → o1.2 0 j = if j < i then o.2 0 j else o.2 0 (j + 1)) → (∀ j : Nat, k ≤ j → o1.2 0 j = o.2 0 j) → (∀ j : Nat, j < k → o1.2 1 j = if j < i then o.2 1 j else o.2 1 (j + 1)) → (∀ j : Nat, k ≤ j → o1.2 1 j = o.2 1 j) →
      ∃ (o2 : ob) (x : Int32), F_X3_removeAt_25 (nI i) fu o1 (nI k) = some (x, o2) ∧ o2.1 2 = nI (n - 1) ∧ (∀ j : Nat, j < n - 1 → o2.2 0 j = if j < i then o.2 0 j else o.2 0 (j + 1)) ∧ (∀ j : Nat, j < n - 1 → o2.2 1 j = if j < i then o.2 1 j else o.2 1 (j + 1)) := by
    intro d
    induction d with
    | zero =>
      intro k fu o1 hk hik hfu e2 a0 b0 a1 b1
      cases fu with
      | zero => omega
      | succ fu =>
        simp only [F_X3_removeAt_25, e2]
        rw [z_il (by omega) (by omega)]
        exact ⟨_, _, rfl, e2, fun j hj => a0 j (by omega), fun j hj => a1 j (by omega)⟩
    | succ d ih =>
      intro k fu o1 hk hik hfu e2 a0 b0 a1 b1
      cases fu with
      | zero => omega
      | succ fu =>
        simp only [F_X3_removeAt_25, e2]
        rw [z_ig (by omega) (by omega)]
        simp only [z_le, nI_1]
        rw [z_at (by omega) (by omega), z_put (by omega) (by omega)]
        simp only [z_vn (show (1 : Nat) ≠ 0 by omega)]
        rw [z_at (by omega) (by omega), z_put (by omega) (by omega)]
        refine ih (k + 1) fu _ (by omega) (by omega) (by omega) e2 (fun j hj => ?_) (fun j hj => ?_) (fun j hj => ?_) (fun j hj => ?_)
        · dsimp only
          rw [z_vn (show (0 : Nat) ≠ 1 by omega), z_vs]
          by_cases q : j = k
          · subst q; rw [z_us, b0 _ (by omega), if_neg (by omega)]
          · rw [z_un q, a0 j (by omega)]
        · dsimp only
          rw [z_vn (show (0 : Nat) ≠ 1 by omega), z_vs, z_un (by omega), b0 j (by omega)]
        · dsimp only
          rw [z_vs]
          by_cases q : j = k
          · subst q; rw [z_us, b1 _ (by omega), if_neg (by omega)]
          · rw [z_un q, a1 j (by omega)]
        · dsimp only
          rw [z_vs, z_un (by omega), b1 j (by omega)]
  have hsub : nI n - (1 : Int32) = nI (n - 1) := by
    obtain ⟨q, rfl⟩ : ∃ q, n = q + 1 := ⟨n - 1, by omega⟩
    rw [nI_pred]; rfl
  obtain ⟨o2, x, g1, g2, g3, g4⟩ := key (n - 1 - i) i 100000 (upd o.1 2 (nI (n - 1)), o.2) (by omega) (Nat.le_refl _) (by omega) (show upd o.1 2 (nI (n - 1)) 2 = _ from z_us) (fun j hj => by rw [if_pos hj]) (fun j hj => rfl) (fun j hj => by rw [if_pos hj]) (fun j hj => rfl)
  refine ⟨o2, ?_, g2, g3, g4⟩
  simp only [F_X3_removeAt, h2]
  rw [if_neg (nI_pos (by omega)), if_pos (nI_lt hi (by omega)), hsub]
  simp only [z_le, g1, Option.bind_some]
/-- one joins: those with smaller offers move down -/
theorem C_insert {n i : Nat} {o : ob} {p v : Int32} (h10 : n < 10) (hi : i ≤ n) (h2 : o.1 2 = nI n) (hl : ∀ j : Nat, j < i → v ≤ o.2 1 j) (hr : ∀ j : Nat, i ≤ j → j < n → o.2 1 j < v) :
    ∃ o' : ob, F_X3_insert o p v = some (nI i, o') ∧ o'.1 2 = nI (n + 1) ∧ (∀ j : Nat, j < n + 1 → o'.2 0 j = if j < i then o.2 0 j else if j = i then p else o.2 0 (j - 1)) ∧ (∀ j : Nat, j < n + 1 → o'.2 1 j = if j < i then o.2 1 j else if j = i then v else o.2 1 (j - 1)) := by
  have key : ∀ (d k fu : Nat) (o1 : ob), k = i + d → k ≤ n → d < fu → o1.1 2 = nI n → (∀ j : Nat, j < k → o1.2 0 j = o.2 0 j) → (∀ j : Nat, k < j → j < n + 1 → o1.2 0 j = o.2 0 (j - 1)) → (∀ j : Nat, j < k → o1.2 1 j = o.2 1 j) → (∀ j : Nat, k < j → j < n + 1 → o1.2 1 j = o.2 1 (j - 1)) →
      ∃ o2 : ob, F_X3_insert_5 p v fu o1 (nI k) = some (nI i, o2) ∧ o2.1 2 = nI n ∧ (∀ j : Nat, j < i → o2.2 0 j = o.2 0 j) ∧ (∀ j : Nat, i < j → j < n + 1 → o2.2 0 j = o.2 0 (j - 1)) ∧ (∀ j : Nat, j < i → o2.2 1 j = o.2 1 j) ∧ (∀ j : Nat, i < j → j < n + 1 → o2.2 1 j = o.2 1 (j - 1)) := by
    intro d
    induction d with
    | zero =>
      intro k fu o1 hk hkn hfu e2 a0 b0 a1 b1
      obtain rfl : k = i := hk
      cases fu with
      | zero => omega
      | succ fu =>
        refine ⟨o1, ?_, e2, a0, b0, a1, b1⟩
        simp only [F_X3_insert_5]
        cases k with
        | zero => rw [if_pos (show nI 0 ≤ 0 by decide)]
        | succ k =>
          rw [if_neg (nI_nle (by omega) (by omega)), nI_pred, z_at (by omega) (by omega), a1 k (by omega), if_pos (hl k (by omega))]
    | succ d ih =>
      intro k fu o1 hk hkn hfu e2 a0 b0 a1 b1
      obtain ⟨k, rfl⟩ : ∃ q, k = q + 1 := ⟨k - 1, by omega⟩
      cases fu with
      | zero => omega
      | succ fu =>
        simp only [F_X3_insert_5]
        rw [if_neg (nI_nle (by omega) (by omega)), nI_pred, z_at (by omega) (by omega), a1 k (by omega), if_neg (Int32.not_le.mpr (hr k (by omega) (by omega)))]
        simp only [z_le]
        rw [z_at (by omega) (by omega), z_put (by omega) (by omega)]
        simp only [z_vn (show (1 : Nat) ≠ 0 by omega)]
        rw [z_at (by omega) (by omega), z_put (by omega) (by omega), show nI (k + 1) + -1 = nI k from by rw [← Int32.sub_eq_add_neg]; exact nI_pred k]
        refine ih k fu _ (by omega) (by omega) (by omega) e2 (fun j hj => ?_) (fun j hj hj2 => ?_) (fun j hj => ?_) (fun j hj hj2 => ?_)
        · dsimp only
          rw [z_vn (show (0 : Nat) ≠ 1 by omega), z_vs, z_un (by omega), a0 j (by omega)]
        · dsimp only
          rw [z_vn (show (0 : Nat) ≠ 1 by omega), z_vs]
          by_cases q : j = k + 1
          · subst q; rw [z_us, a0 _ (by omega)]; rfl
          · rw [z_un q, b0 j (by omega) hj2]
        · dsimp only
          rw [z_vs, z_un (by omega), a1 j (by omega)]
        · dsimp only
          rw [z_vs]
          by_cases q : j = k + 1
          · subst q; rw [z_us, a1 _ (by omega)]; rfl
          · rw [z_un q, b1 j (by omega) hj2]
  obtain ⟨o2, g1, g2, g3, g4, g5, g6⟩ := key (n - i) n 100000 o (by omega) (Nat.le_refl _) (by omega) h2 (fun j hj => rfl) (fun j hj hj2 => by omega) (fun j hj => rfl) (fun j hj hj2 => by omega)
  refine ⟨(upd o2.1 2 (nI (n + 1)), va_up (va_up o2.2 0 (upd (o2.2 0) i p)) 1 (upd (o2.2 1) i v)), ?_, (by dsimp only; exact z_us), fun j hj => ?_, fun j hj => ?_⟩
  · simp only [F_X3_insert, z_le, h2, g1, Option.bind_some]
    rw [z_put (by omega) (by omega), z_vn (show (1 : Nat) ≠ 0 by omega), z_put (by omega) (by omega), g2, nI_1]
  · dsimp only
    rw [z_vn (show (0 : Nat) ≠ 1 by omega), z_vs]
    by_cases q : j = i
    · subst q; rw [z_us, if_neg (by omega), if_pos rfl]
    · rw [z_un q]
      by_cases r : j < i
      · rw [if_pos r, g3 j r]
      · rw [if_neg r, if_neg q, g4 j (by omega) hj]
  · dsimp only
    rw [z_vs]
    by_cases q : j = i
    · subst q; rw [z_us, if_neg (by omega), if_pos rfl]
    · rw [z_un q]
      by_cases r : j < i
      · rw [if_pos r, g5 j r]
      · rw [if_neg r, if_neg q, g6 j (by omega) hj]
