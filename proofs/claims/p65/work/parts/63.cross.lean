/-! One tries to cross. -/
/-- the relation, for the queue o of bank e and the other queue -/
def RT (P B J : Nat) (e f : Int32) (os op o o2 : ob) (g : Nat → Int32) (q q2 : List Nat) : Prop := okG P B J g ∧ RS P B os g ∧ RP P op g ∧ RK P op g ∧ RQ P o g e q ∧ RQ P o2 g f q2
def z_cc (f h : Nat → Int32) (p : Nat) : Nat → Nat → Int32
  | 0 => h
  | k + 1 => if f k = nI p then upd (z_cc f h p k) k 1 else z_cc f h p k
def z_ct (g : Nat → Int32) (p : Nat) : Nat → Nat → Int32
  | 0 => g
  | k + 1 => if g (12 + 8 * k) = 1 ∧ g (102 + 3 * k) = nI p then upd (z_ct g p k) (102 + 3 * k + 2) 1 else z_ct g p k
theorem z_ccA {f h : Nat → Int32} {p k c : Nat} : z_cc f h p k c = if c < k ∧ f c = nI p then 1 else h c := by
  induction k with
  | zero => rw [z_cc, if_neg (by omega)]
  | succ k ih =>
    rw [z_cc]
    by_cases q : f k = nI p
    · rw [if_pos q]
      by_cases r : c = k
      · subst r; rw [z_us, if_pos ⟨by omega, q⟩]
      · rw [z_un r, ih]
        by_cases s : c < k ∧ f c = nI p
        · rw [if_pos s, if_pos ⟨by omega, s.2⟩]
        · rw [if_neg s, if_neg (fun t => s ⟨by omega, t.2⟩)]
    · rw [if_neg q, ih]
      by_cases s : c < k ∧ f c = nI p
      · rw [if_pos s, if_pos ⟨by omega, s.2⟩]
      · rw [if_neg s, if_neg (fun t => s ⟨by
          rcases Nat.lt_or_ge c k with u | u
          · exact u
          · obtain rfl : c = k := by omega
            exact absurd t.2 q, t.2⟩)]
theorem z_ctO {g : Nat → Int32} {p k i : Nat} (h : ∀ c : Nat, c < k → i ≠ 102 + 3 * c + 2) : z_ct g p k i = g i := by
  induction k with
  | zero => rfl
  | succ k ih =>
    rw [z_ct]
    split
    · rw [z_un (h k (by omega))]; exact ih (fun c hc => h c (by omega))
    · exact ih (fun c hc => h c (by omega))
theorem z_ctA {g : Nat → Int32} {p k c : Nat} (hc : c < k) : z_ct g p k (102 + 3 * c + 2) = if g (12 + 8 * c) = 1 ∧ g (102 + 3 * c) = nI p then 1 else g (102 + 3 * c + 2) := by
  induction k with
  | zero => omega
  | succ k ih =>
    rw [z_ct]
    by_cases r : c = k
    · subst r
      split
      · rw [z_us]
      · exact z_ctO (fun d hd => by omega)
    · have := ih (by omega)
      split
      · rw [z_un (by omega)]; exact this
      · exact this
theorem z_ctN {g : Nat → Int32} {p P i : Nat} (hP : P ≤ 10) (h : i < 102 ∨ 132 ≤ i ∨ i % 3 ≠ 2) : z_ct g p P i = g i := z_ctO (fun c hc => by omega)
section CROSS
variable {P B J : Nat} {os op op2 o o2 oB : ob} {g g2 : Nat → Int32} {q q2 : List Nat} {e f : Int32}
theorem C_cnt (h4 : os.1 4 = nI P) (hP : P ≤ 10) {p : Nat} : F_X2_countRoyalCoinsOf op os (nI p) = some (op.1, va_up op.2 12 (z_cc (op.2 10) (op.2 12) p P)) := by
  have h0 : (op.1, va_up op.2 12 (z_cc (op.2 10) (op.2 12) p 0)) = op := by rw [z_cc, z_vid]
  have h := z_for P (fun fu k (s : ob) => F_X2_countRoyalCoinsOf_2 os (nI p) fu s (nI k)) (fun k => (op.1, va_up op.2 12 (z_cc (op.2 10) (op.2 12) p k))) (r := some (nI P, (op.1, va_up op.2 12 (z_cc (op.2 10) (op.2 12) p P)))) (by
    intro fu k hk
    show F_X2_countRoyalCoinsOf_2 os (nI p) (fu + 1) (op.1, va_up op.2 12 (z_cc (op.2 10) (op.2 12) p k)) (nI k) = F_X2_countRoyalCoinsOf_2 os (nI p) fu (op.1, va_up op.2 12 (z_cc (op.2 10) (op.2 12) p (k + 1))) (nI (k + 1))
    simp only [F_X2_countRoyalCoinsOf_2, h4, nI_1, z_le]
    rw [z_ig hk (by omega)]
    simp (disch := omega) only [z_vn, z_vs, z_at, z_put, z_vv, z_cc]
    by_cases r : op.2 10 k = nI p
    · rw [if_pos r, if_pos r]
    · rw [if_neg r, if_neg r]) (by
    intro fu
    show F_X2_countRoyalCoinsOf_2 os (nI p) (fu + 1) (op.1, va_up op.2 12 (z_cc (op.2 10) (op.2 12) p P)) (nI P) = _
    simp only [F_X2_countRoyalCoinsOf_2, h4]
    rw [z_il (Nat.le_refl _) (by omega)]) 100000 (by omega) 0 (Nat.zero_le _)
  rw [h0] at h
  have h : F_X2_countRoyalCoinsOf_2 os (nI p) 100000 op 0 = _ := h
  simp only [F_X2_countRoyalCoinsOf, h, Option.bind_some]
theorem RT.count (h : RT P B J e f os op o o2 g q q2) {p : Nat} (hp : p < P) : RT P B J e f os (op.1, va_up op.2 12 (z_cc (op.2 10) (op.2 12) p P)) o o2 (z_ct g p P) q q2 := by
  obtain ⟨hok, hrs, hrp, hrk, hw, he⟩ := h
  have hP := hok.1.1
  have hB := hok.1.2.1
  have k : ∀ i : Nat, (i < 102 ∨ 132 ≤ i ∨ i % 3 ≠ 2) → z_ct g p P i = g i := fun i hi => z_ctN hP.2 hi
  refine ⟨?_, hrs.f hP.2 (fun i hi => k i (by omega)), ?_, ?_, hw.f hP.2 (fun i hi => k i (by omega)), he.f hP.2 (fun i hi => k i (by omega))⟩
  · refine ⟨hok.1.c (k _ (by omega)) (k _ (by omega)), hok.2.1.c (Nat.le_refl _) (k _ (by omega)) (fun c hc => k _ (by omega)), hok.2.2.1.c (k _ (by omega)) (k _ (by omega)), hok.2.2.2.1.c (Nat.le_refl _) (k _ (by omega)) (fun c hc => ⟨k _ (by omega), k _ (by omega), k _ (by omega), k _ (by omega)⟩), hok.2.2.2.2.1.c (fun c hc => ⟨k _ (by omega), k _ (by omega)⟩), hok.2.2.2.2.2.1.c (fun c hc => k _ (by omega)), ?_, hok.2.2.2.2.2.2.2.c (fun b hb => k _ (by omega))⟩
    intro c hc
    rw [k _ (by omega), k _ (by omega), z_ctA hc]
    have := hok.2.2.2.2.2.2.1 c hc
    refine ⟨this.1, this.2.1, ?_⟩
    split
    · exact Or.inr rfl
    · exact this.2.2
  · obtain ⟨⟨a1, a2, a3, a4, a5⟩, b1, b2, b3, b4, b5⟩ := hrp.f (g2 := z_ct g p P) hP.2 (fun i hi => k i (by omega))
    refine ⟨⟨a1, a2, a3, ?_, ?_⟩, fun c hc => ?_, fun c hc => ?_, fun c hc => ?_, fun c hc => ?_, fun c hc => ?_⟩
    · dsimp only; rw [z_vn (by omega)]; exact a4
    · dsimp only; rw [z_vn (by omega)]; exact a5
    · dsimp only; rw [z_vn (by omega)]; exact b1 c hc
    · dsimp only; rw [z_vn (by omega)]; exact b2 c hc
    · dsimp only; rw [z_vn (by omega)]; exact b3 c hc
    · dsimp only; rw [z_vn (by omega)]; exact b4 c hc
    · dsimp only; rw [z_vn (by omega)]; exact b5 c hc
  · intro c hc
    have := hrk c hc
    dsimp only
    rw [k (12 + 8 * c) (by omega), k (102 + 3 * c) (by omega), k (102 + 3 * c + 1) (by omega), z_ctA hc, z_vn (show (10 : Nat) ≠ 12 by omega), z_vn (show (11 : Nat) ≠ 12 by omega), z_vs, z_ccA]
    refine ⟨fun h1 => ?_, fun h0 => ?_⟩
    · have t := this.1 h1
      refine ⟨t.1, ?_, t.2.2⟩
      rw [t.1]
      by_cases s : g (102 + 3 * c) = nI p
      · rw [if_pos ⟨hc, s⟩, if_pos ⟨h1, s⟩]
      · rw [if_neg (fun u => s u.2), if_neg (fun u => s u.2)]; exact t.2.1
    · have t := this.2 h0
      refine ⟨t.1, ?_⟩
      rw [t.1, if_neg]
      · exact t.2
      · rintro ⟨-, u⟩
        exact z_m1 (show p < 2 ^ 31 by omega) u.symm
theorem RT.any (h : RT P B J e f os op o o2 g q q2) (hef : (e = 0 ∧ f = 1) ∨ (e = 1 ∧ f = 0)) : ∃ (ow oe : ob) (qw qe : List Nat), RPos P B J os op ow oe g qw qe := by
  obtain ⟨hok, hrs, hrp, hrk, hw, he⟩ := h
  rcases hef with ⟨rfl, rfl⟩ | ⟨rfl, rfl⟩
  · exact ⟨o, o2, q, q2, hok, hrs, hrp, hrk, hw, he⟩
  · exact ⟨o2, o, q2, q, hok, hrs, hrp, hrk, he, hw⟩
end CROSS
