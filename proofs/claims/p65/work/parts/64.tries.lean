/-! Paying, learning, the whole try. -/
def z_cl (x : Int32) : Int32 := if 0 ≤ x then (if x ≤ 90 then x else 90) else 0
theorem z_clB {x : Int32} : 0 ≤ z_cl x ∧ z_cl x ≤ 90 := by
  unfold z_cl
  split
  · split
    · exact ⟨by assumption, by assumption⟩
    · exact ⟨by decide, by decide⟩
  · exact ⟨by decide, by decide⟩
section TRIES
variable {P B J : Nat} {os op op2 o o2 oB : ob} {g g2 : Nat → Int32} {q q2 : List Nat} {e f : Int32}
theorem RT.learn (h : RT P B J e f os op o o2 g q q2) {v : Int32} (hv : 0 ≤ v ∧ v ≤ 90) : RT P B J e f os (upd op.1 2 v, op.2) o o2 (upd g 1 v) q q2 := by
  obtain ⟨hok, hrs, hrp, hrk, hw, he⟩ := h
  have hP := hok.1.1
  have hB := hok.1.2.1
  have k : ∀ i : Nat, i ≠ 1 → upd g 1 v i = g i := fun i hi => z_un hi
  refine ⟨?_, hrs.f hP.2 (fun i hi => k i (by omega)), ?_, hrk.f hP.2 ⟨rfl, rfl, rfl⟩ (fun i hi => k i (by omega)), hw.f hP.2 (fun i hi => k i (by omega)), he.f hP.2 (fun i hi => k i (by omega))⟩
  · refine ⟨hok.1.c (k _ (by omega)) (k _ (by omega)), hok.2.1.c (Nat.le_refl _) (k _ (by omega)) (fun c hc => k _ (by omega)), ⟨by rw [z_us]; exact hv, by rw [k _ (by omega)]; exact hok.2.2.1.2⟩, hok.2.2.2.1.c (Nat.le_refl _) (k _ (by omega)) (fun c hc => ⟨k _ (by omega), k _ (by omega), k _ (by omega), k _ (by omega)⟩), hok.2.2.2.2.1.c (fun c hc => ⟨k _ (by omega), k _ (by omega)⟩), hok.2.2.2.2.2.1.c (fun c hc => k _ (by omega)), hok.2.2.2.2.2.2.1.c (fun c hc => ⟨k _ (by omega), k _ (by omega), k _ (by omega)⟩), hok.2.2.2.2.2.2.2.c (fun b hb => k _ (by omega))⟩
  · obtain ⟨⟨a1, a2, a3, a4, a5⟩, b1, b2, b3, b4, b5⟩ := hrp
    refine ⟨⟨?_, ?_, ?_, ?_, ?_⟩, fun c hc => ?_, fun c hc => ?_, fun c hc => ?_, fun c hc => ?_, fun c hc => ?_⟩
    · rw [k _ (by omega)]; exact a1
    · dsimp only; rw [z_us, z_us]
    · rw [k _ (by omega)]; exact a3
    · rw [k _ (by omega)]; exact a4
    · rw [k _ (by omega)]; exact a5
    · rw [k _ (by omega)]; exact b1 c hc
    · rw [k _ (by omega)]; exact b2 c hc
    · rw [k _ (by omega)]; exact b3 c hc
    · rw [k _ (by omega)]; exact b4 c hc
    · rw [k _ (by omega)]; exact b5 c hc
theorem RT.pay (h : RT P B J e f os op o o2 g q q2) (hJ : J + 1 < 2 ^ 31) {p : Nat} {v : Int32} (hp : p < P) (h0 : g (12 + 8 * p + 6) = 0) (hf : f = 0 ∨ f = 1) :
    RT P B (J + 1) e f os (upd op.1 3 (op.1 3 + v), va_up (va_up (va_up op.2 6 (upd (op.2 6) p (op.2 6 p + -v))) 5 (upd (op.2 5) p f)) 9 (upd (op.2 9) p (op.2 9 p + 1))) o o2 (upd (upd (upd (upd g (12 + 8 * p + 2) (g (12 + 8 * p + 2) - v)) 5 (g 5 + v)) (12 + 8 * p + 1) f) (12 + 8 * p + 5) (g (12 + 8 * p + 5) + 1)) q q2 := by
  obtain ⟨hok, hrs, hrp, hrk, hw, he⟩ := h
  have hP := hok.1.1
  have hB := hok.1.2.1
  have k : ∀ i : Nat, i ≠ 5 → i ≠ 12 + 8 * p + 1 → i ≠ 12 + 8 * p + 2 → i ≠ 12 + 8 * p + 5 → upd (upd (upd (upd g (12 + 8 * p + 2) (g (12 + 8 * p + 2) - v)) 5 (g 5 + v)) (12 + 8 * p + 1) f) (12 + 8 * p + 5) (g (12 + 8 * p + 5) + 1) i = g i := fun i h1 h2 h3 h4 => by rw [z_un h4, z_un h2, z_un h1, z_un h3]
  have k5 : upd (upd (upd (upd g (12 + 8 * p + 2) (g (12 + 8 * p + 2) - v)) 5 (g 5 + v)) (12 + 8 * p + 1) f) (12 + 8 * p + 5) (g (12 + 8 * p + 5) + 1) 5 = g 5 + v := by rw [z_un (by omega), z_un (by omega), z_us]
  have kb : upd (upd (upd (upd g (12 + 8 * p + 2) (g (12 + 8 * p + 2) - v)) 5 (g 5 + v)) (12 + 8 * p + 1) f) (12 + 8 * p + 5) (g (12 + 8 * p + 5) + 1) (12 + 8 * p + 1) = f := by rw [z_un (by omega), z_us]
  have kp : upd (upd (upd (upd g (12 + 8 * p + 2) (g (12 + 8 * p + 2) - v)) 5 (g 5 + v)) (12 + 8 * p + 1) f) (12 + 8 * p + 5) (g (12 + 8 * p + 5) + 1) (12 + 8 * p + 2) = g (12 + 8 * p + 2) - v := by rw [z_un (by omega), z_un (by omega), z_un (by omega), z_us]
  have kc : upd (upd (upd (upd g (12 + 8 * p + 2) (g (12 + 8 * p + 2) - v)) 5 (g 5 + v)) (12 + 8 * p + 1) f) (12 + 8 * p + 5) (g (12 + 8 * p + 5) + 1) (12 + 8 * p + 5) = g (12 + 8 * p + 5) + 1 := by rw [z_us]
  generalize upd (upd (upd (upd g (12 + 8 * p + 2) (g (12 + 8 * p + 2) - v)) 5 (g 5 + v)) (12 + 8 * p + 1) f) (12 + 8 * p + 5) (g (12 + 8 * p + 5) + 1) = g2 at k k5 kb kp kc
  have hk2 : ∀ c : Nat, c < P → c ≠ p → g2 (12 + 8 * c + 1) = g (12 + 8 * c + 1) ∧ g2 (12 + 8 * c + 6) = g (12 + 8 * c + 6) ∧ g2 (12 + 8 * c + 7) = g (12 + 8 * c + 7) := fun c hc hne => ⟨k _ (by omega) (by omega) (by omega) (by omega), k _ (by omega) (by omega) (by omega) (by omega), k _ (by omega) (by omega) (by omega) (by omega)⟩
  have k0 : g2 (12 + 8 * p + 6) = 0 := (k _ (by omega) (by omega) (by omega) (by omega)).trans h0
  have hno : ∀ (o : ob) (e : Int32) (ql : List Nat), RQ P o g e ql → p ∉ ql := by
    intro o e ql hr hc
    have := ((hr.1.1 p).mp hc).2
    rw [z_lof0 h0] at this
    cases this
  refine ⟨?_, hrs.f hP.2 (fun i hi => k i (by omega) (by omega) (by omega) (by omega)), ?_, hrk.f hP.2 ⟨by simp (disch := omega) only [z_vn], by simp (disch := omega) only [z_vn], by simp (disch := omega) only [z_vn]⟩ (fun i hi => k i (by omega) (by omega) (by omega) (by omega)), hw.other (hno _ _ _ hw) (z_lof0 k0) hk2, he.other (hno _ _ _ he) (z_lof0 k0) hk2⟩
  · refine ⟨hok.1.c (k _ (by omega) (by omega) (by omega) (by omega)) (k _ (by omega) (by omega) (by omega) (by omega)), ?_, hok.2.2.1.c (k _ (by omega) (by omega) (by omega) (by omega)) (k _ (by omega) (by omega) (by omega) (by omega)), ?_, hok.2.2.2.2.1.c (fun c hc => ⟨k _ (by omega) (by omega) (by omega) (by omega), k _ (by omega) (by omega) (by omega) (by omega)⟩), hok.2.2.2.2.2.1.c (fun c hc => k _ (by omega) (by omega) (by omega) (by omega)), hok.2.2.2.2.2.2.1.c (fun c hc => ⟨k _ (by omega) (by omega) (by omega) (by omega), k _ (by omega) (by omega) (by omega) (by omega), k _ (by omega) (by omega) (by omega) (by omega)⟩), hok.2.2.2.2.2.2.2.c (fun b hb => k _ (by omega) (by omega) (by omega) (by omega))⟩
    · obtain ⟨t, ht, e0, hc5⟩ := hok.2.1
      refine ⟨t, ht, (k _ (by omega) (by omega) (by omega) (by omega)).trans e0, fun c hc => ?_⟩
      obtain ⟨n, hn, en⟩ := hc5 c hc
      by_cases r : c = p
      · subst r
        exact ⟨n + 1, by omega, by rw [kc, en, nI_1]⟩
      · exact ⟨n, by omega, (k _ (by omega) (by omega) (by omega) (by omega)).trans en⟩
    · obtain ⟨⟨n, hn, en⟩, hg⟩ := hok.2.2.2.1
      refine ⟨⟨n, by omega, (k _ (by omega) (by omega) (by omega) (by omega)).trans en⟩, fun c hc => ?_⟩
      have a := hg c hc
      rw [k (12 + 8 * c) (by omega) (by omega) (by omega) (by omega), k (12 + 8 * c + 6) (by omega) (by omega) (by omega) (by omega), k (12 + 8 * c + 7) (by omega) (by omega) (by omega) (by omega), k 11 (by omega) (by omega) (by omega) (by omega)]
      refine ⟨a.1, ?_, a.2.2⟩
      by_cases r : c = p
      · subst r; rw [kb]; exact hf
      · rw [k _ (by omega) (by omega) (by omega) (by omega)]; exact a.2.1
  · obtain ⟨⟨a1, a2, a3, a4, a5⟩, b1, b2, b3, b4, b5⟩ := hrp
    refine ⟨⟨?_, ?_, ?_, ?_, ?_⟩, ?_, ?_, fun c hc => ?_, fun c hc => ?_, ?_⟩
    · dsimp only; rw [z_un (by omega), k _ (by omega) (by omega) (by omega) (by omega)]; exact a1
    · dsimp only; rw [z_un (by omega), k _ (by omega) (by omega) (by omega) (by omega)]; exact a2
    · dsimp only; rw [z_us, k5, a3]
    · dsimp only; rw [z_vn (by omega), z_vn (by omega), z_vn (by omega), k _ (by omega) (by omega) (by omega) (by omega)]; exact a4
    · dsimp only; rw [z_vn (by omega), z_vn (by omega), z_vn (by omega), k _ (by omega) (by omega) (by omega) (by omega)]; exact a5
    · dsimp only; rw [z_vn (by omega), z_vs]
      exact z_upc (fun c hc hne => by rw [k _ (by omega) (by omega) (by omega) (by omega)]; exact b1 c hc) kb.symm
    · dsimp only; rw [z_vn (by omega), z_vn (by omega), z_vs]
      exact z_upc (fun c hc hne => by rw [k _ (by omega) (by omega) (by omega) (by omega)]; exact b2 c hc) (by rw [kp, b2 p hp]; grind)
    · dsimp only; rw [z_vn (by omega), z_vn (by omega), z_vn (by omega), k _ (by omega) (by omega) (by omega) (by omega)]; exact b3 c hc
    · dsimp only; rw [z_vn (by omega), z_vn (by omega), z_vn (by omega), k _ (by omega) (by omega) (by omega) (by omega)]; exact b4 c hc
    · dsimp only; rw [z_vs]
      exact z_upc (fun c hc hne => by rw [k _ (by omega) (by omega) (by omega) (by omega)]; exact b5 c hc) (by rw [kc, b5 p hp])
/-- what a crossing teaches -/
def z_ln (g : Nat → Int32) (p : Nat) (T : Prop) [Decidable T] : Option Int32 := if T then (if g (12 + 8 * p) = 1 then none else some (z_cl (g 1 - g 2))) else (if g (12 + 8 * p) = 1 then some (z_cl (g 1 + g 2)) else none)
def z_oL (op : ob) (w : Option Int32) : ob := match w with | none => op | some v => (upd op.1 2 v, op.2)
theorem C_learn {t : Prop} [Decidable t] {s2 : Int32} {p : Nat} (hl : op.1 2 = g 1) (hs : os.1 1 = g 2) (hb : gL g) : F_X2_learn op os (if t then 1 else 0) (if g (12 + 8 * p) = 1 then 1 else 0) = some (z_oL op (z_ln g p t)) := by
  obtain ⟨h1, h2⟩ := hb
  have e1 : (if g 1 + g 2 < 90 then g 1 + g 2 else 90) = z_cl (g 1 + g 2) := by
    unfold z_cl
    split <;> split <;> (try split) <;> grind
  have e2 : (if 0 < g 1 - g 2 then g 1 - g 2 else 0) = z_cl (g 1 - g 2) := by
    unfold z_cl
    split <;> split <;> (try split) <;> grind
  unfold F_X2_learn z_ln
  by_cases c1 : t <;> by_cases c2 : g (12 + 8 * p) = 1
  · simp [c1, c2, z_oL]
  · simp (decide := true) [c1, c2, hl, hs, z_le, e2, z_oL]
  · simp (decide := true) [c1, c2, hl, hs, z_le, e1, z_oL]
  · simp [c1, c2, z_oL]
end TRIES
