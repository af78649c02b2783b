/-! What the readers take. -/
def ND (R : List Nat) : Prop := ∃ (c : Nat) (R2 : List Nat), R = c :: R2 ∧ (c = 32 ∨ c = 59)
theorem numL_cons (v : Nat) : ∃ l : List Nat, numL v = 32 :: l := by
  unfold numL
  split
  · exact ⟨_, rfl⟩
  · exact ⟨_, rfl⟩
theorem ND.num {v : Nat} {R : List Nat} : ND (numL v ++ R) := by
  obtain ⟨l, e⟩ := numL_cons v
  exact ⟨32, l ++ R, by rw [e]; rfl, Or.inl rfl⟩
theorem ND.semi {R : List Nat} : ND (59 :: R) := ⟨59, R, rfl, Or.inr rfl⟩
theorem ND.blank {R : List Nat} : ND ([32] ++ R) := ⟨32, R, rfl, Or.inl rfl⟩
theorem Wd_ltr : ∀ t : Nat, t < 7 → 1 ≤ t → 0 < (Wd t).length ∧ ∀ j : Nat, j < (Wd t).length → 97 ≤ (Wd t).getD j 0 ∧ (Wd t).getD j 0 ≤ 122 := by decide +kernel
def Wd_neB (u t : Nat) : Bool := decide (u < 1) || (decide (t < 1) || (decide (u = t) || (!(decide ((Wd u).length = (Wd t).length)) || (List.range 7).any (fun j => decide (j < (Wd t).length) && ((List.range j).all (fun i => decide ((Wd u).getD i 0 = (Wd t).getD i 0)) && !(decide ((Wd u).getD j 0 = (Wd t).getD j 0)))))))
theorem Wd_ne0 : (List.range 7).all (fun u => (List.range 7).all (fun t => Wd_neB u t)) = true := by decide +kernel
theorem Wd_ne (u : Nat) (hu : u < 7) (t : Nat) (ht : t < 7) (h1 : 1 ≤ u) (h2 : 1 ≤ t) (h3 : u ≠ t) : (Wd u).length ≠ (Wd t).length ∨ ∃ j : Nat, j < (Wd t).length ∧ (∀ i : Nat, i < j → (Wd u).getD i 0 = (Wd t).getD i 0) ∧ (Wd u).getD j 0 ≠ (Wd t).getD j 0 := by
  have z := List.all_eq_true.mp (List.all_eq_true.mp Wd_ne0 u (List.mem_range.mpr hu)) t (List.mem_range.mpr ht)
  unfold Wd_neB at z
  rw [decide_eq_false (show ¬ u < 1 by omega), decide_eq_false (show ¬ t < 1 by omega), decide_eq_false h3, Bool.false_or, Bool.false_or, Bool.false_or] at z
  rcases (Bool.or_eq_true _ _).mp z with q | q
  · exact Or.inl (by simpa using q)
  · obtain ⟨j, hj, hb⟩ := List.any_eq_true.mp q
    rw [Bool.and_eq_true, Bool.and_eq_true] at hb
    exact Or.inr ⟨j, of_decide_eq_true hb.1, fun i hi => of_decide_eq_true (List.all_eq_true.mp hb.2.1 i (List.mem_range.mpr hi)), by simpa using hb.2.2⟩
/-- the token that R begins with has been found -/
def AtL (ot : ob) (b : Nat → Int32) (n : Nat) (R : List Nat) : Prop := ∃ (ot0 : ob) (e : Nat), TP ot0 b n e R ∧ F_X6_advance ot0 = some ot
/-- a line's beginning: the text's end, or a word -/
def LN (R : List Nat) : Prop := R = [] ∨ ∃ (t : Nat) (R2 : List Nat), 1 ≤ t ∧ t < 7 ∧ R = Wd t ++ R2 ∧ ND R2
section TAKE
variable {ot o : ob} {b : Nat → Int32} {n e s v c t u : Nat} {R w pre : List Nat}
theorem ADVT (h : TP ot b n e (pre ++ (Wd t ++ R))) (hp : pre = [] ∨ pre = [32]) (h1 : 1 ≤ t) (h7 : t < 7) (hR : ND R) : ∃ ot2 : ob, F_X6_advance ot = some ot2 ∧ TW ot2 b n (Wd t) R := by
  obtain ⟨c, R2, rfl, hc⟩ := hR
  obtain ⟨a, b⟩ := Wd_ltr t h7 h1
  exact ADVW h hp b a hc
theorem ADVM (h : TP ot b n e (numL v ++ R)) (hv : v < 100) (hR : ND R) : ∃ ot2 : ob, F_X6_advance ot = some ot2 ∧ TN ot2 b n v R := by
  obtain ⟨c, R2, rfl, hc⟩ := hR
  exact ADVN h hv hc
theorem AtL.word (h : AtL ot b n (Wd t ++ R)) (h1 : 1 ≤ t) (h7 : t < 7) (hR : ND R) : TW ot b n (Wd t) R := by
  obtain ⟨ot0, e, hT, ha⟩ := h
  obtain ⟨ot2, e2, w2⟩ := ADVT (pre := []) (t := t) (R := R) hT (Or.inl rfl) h1 h7 hR
  rw [ha] at e2
  cases e2
  exact w2
theorem AtL.end (h : AtL ot b n []) : T0 ot b n := by
  obtain ⟨ot0, e, hT, ha⟩ := h
  obtain ⟨ot2, e2, w2⟩ := ADVE hT
  rw [ha] at e2
  cases e2
  exact w2
theorem ADVL (h : TP ot b n e R) (hL : LN R) : ∃ ot2 : ob, F_X6_advance ot = some ot2 ∧ AtL ot2 b n R := by
  rcases hL with rfl | ⟨t, R2, h1, h7, rfl, hR⟩
  · obtain ⟨ot2, e2, -⟩ := ADVE h
    exact ⟨ot2, e2, ot, e, h, e2⟩
  · obtain ⟨ot2, e2, -⟩ := ADVT (pre := []) (t := t) (R := R2) h (Or.inl rfl) h1 h7 hR
    exact ⟨ot2, e2, ot, e, h, e2⟩
theorem IW (h : TW ot b n (Wd u) R) (u1 : 1 ≤ u) (u7 : u < 7) (t1 : 1 ≤ t) (t7 : t < 7) : F_X6_isAtWord ot t = some (if u = t then 1 else 0) := by
  obtain ⟨e, ⟨p0, p2, p7, p8, p5, pl, pn, pA⟩, k3, s, k4, he, hA⟩ := h
  obtain ⟨ct, l6, cc⟩ := Wd_chr t t1 (by omega)
  obtain ⟨cu, l6u, -⟩ := Wd_chr u u1 (by omega)
  have hsub : ot.1 5 - ot.1 4 = nI (Wd u).length := by
    rw [p5, k4, he, z_sub (by omega)]
    congr 1; omega
  have stp : ∀ (fu k : Nat), (Wd u).length = (Wd t).length → k < (Wd t).length → F_X6_isAtWord_35 ot t (fu + 1) (nI k) = if (Wd u).getD k 0 = (Wd t).getD k 0 then F_X6_isAtWord_35 ot t fu (nI (k + 1)) else some 0 := by
    intro fu k hl hk
    simp only [F_X6_isAtWord_35, ct]
    rw [if_neg (nI_ge hk (by omega)), Wd_rx t1 (by omega) hk, z_bsN, p0, k4, nI_add, z_at (by omega) (by omega), hA k (by omega)]
    have q1 := ((Wd_ltr u u7 u1).2 k (by omega)).2
    have q2 := ((Wd_ltr t t7 t1).2 k hk).2
    by_cases q : (Wd u).getD k 0 = (Wd t).getD k 0
    · rw [if_pos q, if_pos (by rw [q]), nI_1]
    · rw [if_neg q, if_neg (fun z => q ((nI_eq (by omega) (by omega)).mp z))]
  simp only [F_X6_isAtWord, p7, k3, hsub, ct]
  rw [if_pos trivial, if_pos trivial]
  by_cases q : u = t
  · subst q
    rw [if_pos rfl, if_pos rfl]
    exact z_for (Wd u).length (fun fu k (_ : Unit) => F_X6_isAtWord_35 ot u fu (nI k)) (fun _ => ()) (r := some (1 : Int32)) (fun fu k hk => by
      show F_X6_isAtWord_35 ot u (fu + 1) (nI k) = F_X6_isAtWord_35 ot u fu (nI (k + 1))
      rw [stp fu k rfl hk, if_pos rfl]) (fun fu => by
      show F_X6_isAtWord_35 ot u (fu + 1) (nI (Wd u).length) = _
      simp only [F_X6_isAtWord_35, ct]
      rw [if_pos (Int32.le_refl _)]) 100000 (by omega) 0 (by omega)
  · rw [if_neg q]
    by_cases hl : (Wd u).length = (Wd t).length
    · rw [if_pos (by rw [hl])]
      rcases Wd_ne u u7 t t7 u1 t1 q with z | ⟨j, hj, hi, hne⟩
      · exact absurd hl z
      · exact z_for j (fun fu k (_ : Unit) => F_X6_isAtWord_35 ot t fu (nI k)) (fun _ => ()) (r := some (0 : Int32)) (fun fu k hk => by
          show F_X6_isAtWord_35 ot t (fu + 1) (nI k) = F_X6_isAtWord_35 ot t fu (nI (k + 1))
          rw [stp fu k hl (by omega), if_pos (hi k hk)]) (fun fu => by
          show F_X6_isAtWord_35 ot t (fu + 1) (nI j) = _
          rw [stp fu j hl hj, if_neg hne]) 100000 (by omega) 0 (by omega)
    · rw [if_neg (fun z => hl ((nI_eq (by omega) (by omega)).mp z))]
theorem IW0 (h : T0 ot b n) : F_X6_isAtWord ot t = some 0 := by
  obtain ⟨e, ⟨p0, p2, p7, p8, p5, pl, pn, pA⟩, k3⟩ := h
  simp only [F_X6_isAtWord, p7, k3]
  rw [if_pos trivial, if_neg (by decide)]
theorem TK_word (h : TW ot b n (Wd t) (numL v ++ R)) (t1 : 1 ≤ t) (t7 : t < 7) (hv : v < 100) (hR : ND R) : ∃ ot2 : ob, F_X6_takeWord ot t = some ot2 ∧ TN ot2 b n v R := by
  have hi := IW h t1 t7 t1 t7
  obtain ⟨e, hT, -⟩ := h
  obtain ⟨ot2, e2, w2⟩ := ADVM hT hv hR
  refine ⟨ot2, ?_, w2⟩
  simp only [F_X6_takeWord, hi, z_bsN, if_true]
  rw [if_neg (by decide), e2]
  rfl
theorem TK_either (h : TW ot b n (Wd u) R) {t0 : Nat} (a1 : 1 ≤ t0) (a7 : t0 < 7) (t1 : 1 ≤ t) (t7 : t < 7) (hne : t0 ≠ t) (hu : u = t0 ∨ u = t) {ot2 : ob} (ha : F_X6_advance ot = some ot2) : F_X6_takeEither ot t0 t = some (if u = t then 1 else 0, ot2) := by
  have u1 : 1 ≤ u := by omega
  have u7 : u < 7 := by omega
  have i1 := IW h u1 u7 t1 t7
  have i0 := IW h u1 u7 a1 a7
  simp only [F_X6_takeEither, i1, i0, z_bsN, ha]
  by_cases q : u = t
  · subst q
    rw [if_pos rfl, if_neg (by decide), if_neg (by decide)]
  · obtain rfl : u = t0 := hu.resolve_right q
    rw [if_neg q, if_pos rfl, if_pos rfl, if_neg (by decide), if_pos rfl]
theorem TK_num (h : TN ot b n v R) {lo hi : Int32} (h1 : ¬ nI v < lo) (h2 : nI v ≤ hi) {ot2 : ob} (ha : F_X6_advance ot = some ot2) : F_X6_takeNumber ot lo hi = some (nI v, ot2) := by
  obtain ⟨e, hT, k3, k6⟩ := h
  simp only [F_X6_takeNumber, z_leN, k3, k6]
  rw [if_pos trivial, if_neg h1, if_pos h2, ha]
  rfl
theorem TN.num (h : TN ot b n v (numL u ++ R)) (hu : u < 100) (hR : ND R) : ∃ ot2 : ob, F_X6_advance ot = some ot2 ∧ TN ot2 b n u R := by
  obtain ⟨e, hT, -⟩ := h
  exact ADVM hT hu hR
theorem TN.semi (h : TN ot b n v (59 :: R)) : ∃ ot2 : ob, F_X6_advance ot = some ot2 ∧ T3 ot2 b n R := by
  obtain ⟨e, hT, -⟩ := h
  exact ADVS hT
theorem TW.num (h : TW ot b n w (numL u ++ R)) (hu : u < 100) (hR : ND R) : ∃ ot2 : ob, F_X6_advance ot = some ot2 ∧ TN ot2 b n u R := by
  obtain ⟨e, hT, -⟩ := h
  exact ADVM hT hu hR
theorem TW.word (h : TW ot b n w ([32] ++ (Wd t ++ R))) (h1 : 1 ≤ t) (h7 : t < 7) (hR : ND R) : ∃ ot2 : ob, F_X6_advance ot = some ot2 ∧ TW ot2 b n (Wd t) R := by
  obtain ⟨e, hT, -⟩ := h
  exact ADVT hT (Or.inr rfl) h1 h7 hR
theorem TK_semi (h : T3 ot b n R) (hL : LN R) : ∃ ot2 : ob, F_X6_takeSemicolon ot = some ot2 ∧ AtL ot2 b n R := by
  obtain ⟨e, hT, k3⟩ := h
  obtain ⟨ot2, e2, w2⟩ := ADVL hT hL
  refine ⟨ot2, ?_, w2⟩
  simp only [F_X6_takeSemicolon, k3]
  rw [if_pos trivial, e2]
  rfl
end TAKE
