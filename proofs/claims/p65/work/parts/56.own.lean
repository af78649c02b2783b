/-! What the law asks of the row g: the coins and their sum, the sets of rags, what is counted. -/
theorem i_add {x y : Int32} (h1 : -2147483648 ≤ x.toInt + y.toInt) (h2 : x.toInt + y.toInt < 2147483648) : (x + y).toInt = x.toInt + y.toInt := by
  rw [Int32.toInt_add]
  exact Int.bmod_eq_of_le_mul_two (by omega) (by omega)
theorem i_sub {x y : Int32} (h1 : -2147483648 ≤ x.toInt - y.toInt) (h2 : x.toInt - y.toInt < 2147483648) : (x - y).toInt = x.toInt - y.toInt := by
  rw [Int32.toInt_sub]
  exact Int.bmod_eq_of_le_mul_two (by omega) (by omega)
theorem i_0 : (0 : Int32).toInt = 0 := rfl
theorem i_le {x y : Int32} : x ≤ y ↔ x.toInt ≤ y.toInt := Int32.le_iff_toInt_le
theorem i_lt {x y : Int32} : x < y ↔ x.toInt < y.toInt := Int32.lt_iff_toInt_lt
def zSI (f : Nat → Int32) : Nat → Int
  | 0 => 0
  | n + 1 => zSI f n + (f n).toInt
theorem zSI_congr {f f2 : Nat → Int32} {n : Nat} (h : ∀ k : Nat, k < n → f2 k = f k) : zSI f2 n = zSI f n := by
  induction n with
  | zero => rfl
  | succ n ih => rw [zSI, zSI, ih (fun k hk => h k (by omega)), h n (by omega)]
theorem zSI_at {f f2 : Nat → Int32} {n p : Nat} (hp : p < n) (h : ∀ k : Nat, k < n → k ≠ p → f2 k = f k) : zSI f2 n = zSI f n - (f p).toInt + (f2 p).toInt := by
  induction n with
  | zero => omega
  | succ n ih =>
    rw [zSI, zSI]
    by_cases e : p = n
    · subst e
      rw [zSI_congr (f := f) (f2 := f2) (fun k hk => h k (by omega) (by omega))]
      omega
    · rw [ih (by omega) (fun k hk => h k (by omega)), h n (by omega) (by omega)]
      omega
theorem zSI_nn {f : Nat → Int32} {n : Nat} (h : ∀ k : Nat, k < n → 0 ≤ (f k).toInt) : 0 ≤ zSI f n := by
  induction n with
  | zero => exact Int.le_refl _
  | succ n ih =>
    have := ih (fun k hk => h k (by omega))
    have := h n (by omega)
    rw [zSI]; omega
theorem zSI_le {f : Nat → Int32} {n p : Nat} (hp : p < n) (h : ∀ k : Nat, k < n → 0 ≤ (f k).toInt) : (f p).toInt ≤ zSI f n := by
  induction n with
  | zero => omega
  | succ n ih =>
    rw [zSI]
    by_cases e : p = n
    · subst e
      have := zSI_nn (f := f) (n := p) (fun k hk => h k (by omega))
      omega
    · have := ih (by omega) (fun k hk => h k (by omega))
      have := h n (by omega)
      omega
theorem z_suI {s : Int32} {f : Nat → Int32} {n : Nat} (h : ∀ k : Nat, k < n → 0 ≤ (f k).toInt) (hs : 0 ≤ s.toInt) (hb : s.toInt + zSI f n < 2147483648) : (z_su s f n).toInt = s.toInt + zSI f n := by
  induction n with
  | zero => rw [z_su, zSI]; omega
  | succ n ih =>
    rw [zSI] at hb
    have h1 := h n (by omega)
    have h2 := ih (fun k hk => h k (by omega)) (by omega)
    have h3 := zSI_nn (f := f) (n := n) (fun k hk => h k (by omega))
    rw [z_su, zSI, i_add (by omega) (by omega)]
    omega
/-- the copper coins: none is negative, their sum is C, the setting's own sum is C -/
def gC (P C : Nat) (g : Nat → Int32) : Prop := (0 ≤ (g 5).toInt ∧ 0 ≤ (g 6).toInt ∧ 0 ≤ (g 7).toInt) ∧ (∀ p : Nat, p < P → 0 ≤ (g (12 + 8 * p + 2)).toInt) ∧ (g 5).toInt + (g 6).toInt + (g 7).toInt + zSI (fun p => g (12 + 8 * p + 2)) P = C ∧ C ≤ 999 ∧ g 10 = nI C
def gK (g : Nat → Int32) : Prop := (0 ≤ (g 3).toInt ∧ (g 3).toInt ≤ 99) ∧ 0 ≤ (g 4).toInt ∧ (g 4).toInt ≤ 99
def gI (P : Nat) (g : Nat → Int32) : Prop := ∀ p q : Nat, p < P → q < P → g (12 + 8 * p + 4) = g (12 + 8 * q + 4) → p = q
def XI (P C : Nat) (g : Nat → Int32) : Prop := gC P C g ∧ gK g ∧ gI P g
/-- from g to g2: nobody's crossings grow less, a counted coin stays so, and coins are counted only when somebody crosses -/
def zD (P : Nat) (g g2 : Nat → Int32) : Prop := (∀ c : Nat, c < P → g (12 + 8 * c + 5) ≤ g2 (12 + 8 * c + 5)) ∧ (∀ c : Nat, c < P → g2 (12 + 8 * c) = g (12 + 8 * c)) ∧ (∀ c : Nat, c < P → g (102 + 3 * c + 2) = 1 → g2 (102 + 3 * c + 2) = 1) ∧ ((∀ c : Nat, c < P → g2 (102 + 3 * c + 2) = g (102 + 3 * c + 2)) ∨ ∃ c : Nat, c < P ∧ g (12 + 8 * c + 5) < g2 (12 + 8 * c + 5))
section OWN
variable {P C : Nat} {g g2 g3 : Nat → Int32}
theorem zD.f (hP : P ≤ 10) (k : ∀ i : Nat, ((12 ≤ i ∧ i < 92 ∧ (i % 8 = 1 ∨ i % 8 = 4)) ∨ (102 ≤ i ∧ i < 132 ∧ i % 3 = 2)) → g2 i = g i) : zD P g g2 :=
  ⟨fun c hc => by rw [k _ (by omega)]; exact Int32.le_refl _, fun c hc => k _ (by omega), fun c hc h => by rw [k _ (by omega)]; exact h, Or.inl fun c hc => k _ (by omega)⟩
theorem zD.refl : zD P g g := ⟨fun _ _ => Int32.le_refl _, fun _ _ => rfl, fun _ _ h => h, Or.inl fun _ _ => rfl⟩
theorem zD.trans (h1 : zD P g g2) (h2 : zD P g2 g3) : zD P g g3 := by
  refine ⟨fun c hc => Int32.le_trans (h1.1 c hc) (h2.1 c hc), fun c hc => (h2.2.1 c hc).trans (h1.2.1 c hc), fun c hc h => h2.2.2.1 c hc (h1.2.2.1 c hc h), ?_⟩
  rcases h1.2.2.2 with a | ⟨c, hc, a⟩
  · rcases h2.2.2.2 with b | ⟨c, hc, b⟩
    · exact Or.inl fun c hc => (b c hc).trans (a c hc)
    · exact Or.inr ⟨c, hc, i_lt.mpr (by have := i_le.mp (h1.1 c hc); have := i_lt.mp b; omega)⟩
  · exact Or.inr ⟨c, hc, i_lt.mpr (by have := i_le.mp (h2.1 c hc); have := i_lt.mp a; omega)⟩
theorem gC.f (hP : P ≤ 10) (h : gC P C g) (k : ∀ i : Nat, ((4 < i ∧ i < 8) ∨ i = 10 ∨ (12 ≤ i ∧ i < 92 ∧ i % 8 = 6)) → g2 i = g i) : gC P C g2 := by
  obtain ⟨⟨a1, a2, a3⟩, b, c, d, e⟩ := h
  refine ⟨?_, fun p hp => ?_, ?_, d, ?_⟩
  · rw [k 5 (by omega), k 6 (by omega), k 7 (by omega)]; exact ⟨a1, a2, a3⟩
  · rw [k _ (by omega)]; exact b p hp
  · rw [k 5 (by omega), k 6 (by omega), k 7 (by omega), zSI_congr (f := fun p => g (12 + 8 * p + 2)) (fun p hp => k _ (by omega))]; exact c
  · rw [k 10 (by omega)]; exact e
theorem gC.mv (hP : P ≤ 10) (h : gC P C g) {p a : Nat} (hp : p < P) (ha : 4 < a ∧ a < 8) {d : Int} (e1 : (g2 a).toInt = (g a).toInt + d) (e2 : (g2 (12 + 8 * p + 2)).toInt = (g (12 + 8 * p + 2)).toInt - d) (n1 : 0 ≤ (g a).toInt + d) (n2 : 0 ≤ (g (12 + 8 * p + 2)).toInt - d) (k : ∀ i : Nat, i ≠ a → i ≠ 12 + 8 * p + 2 → ((4 < i ∧ i < 8) ∨ i = 10 ∨ (12 ≤ i ∧ i < 92 ∧ i % 8 = 6)) → g2 i = g i) : gC P C g2 := by
  obtain ⟨⟨a1, a2, a3⟩, b, c, d2, e⟩ := h
  have hs : zSI (fun p => g2 (12 + 8 * p + 2)) P = zSI (fun p => g (12 + 8 * p + 2)) P - (g (12 + 8 * p + 2)).toInt + (g2 (12 + 8 * p + 2)).toInt := zSI_at (f := fun p => g (12 + 8 * p + 2)) (f2 := fun p => g2 (12 + 8 * p + 2)) hp (fun q hq hne => k _ (by omega) (by omega) (by omega))
  have h5 : a ≠ 5 → g2 5 = g 5 := fun q => k _ (by omega) (by omega) (by omega)
  have h6 : a ≠ 6 → g2 6 = g 6 := fun q => k _ (by omega) (by omega) (by omega)
  have h7 : a ≠ 7 → g2 7 = g 7 := fun q => k _ (by omega) (by omega) (by omega)
  have hpp : ∀ q : Nat, q < P → 0 ≤ (g2 (12 + 8 * q + 2)).toInt := fun q hq => by
    by_cases r : q = p
    · subst r; rw [e2]; exact n2
    · rw [k _ (by omega) (by omega) (by omega)]; exact b q hq
  have hA : a = 5 ∨ a = 6 ∨ a = 7 := by omega
  rcases hA with rfl | rfl | rfl
  · exact ⟨⟨by rw [e1]; exact n1, by rw [h6 (by omega)]; exact a2, by rw [h7 (by omega)]; exact a3⟩, hpp, by rw [e1, h6 (by omega), h7 (by omega), hs, e2]; omega, d2, (k 10 (by omega) (by omega) (by omega)).trans e⟩
  · exact ⟨⟨by rw [h5 (by omega)]; exact a1, by rw [e1]; exact n1, by rw [h7 (by omega)]; exact a3⟩, hpp, by rw [e1, h5 (by omega), h7 (by omega), hs, e2]; omega, d2, (k 10 (by omega) (by omega) (by omega)).trans e⟩
  · exact ⟨⟨by rw [h5 (by omega)]; exact a1, by rw [h6 (by omega)]; exact a2, by rw [e1]; exact n1⟩, hpp, by rw [e1, h5 (by omega), h6 (by omega), hs, e2]; omega, d2, (k 10 (by omega) (by omega) (by omega)).trans e⟩
theorem gC.le (h : gC P C g) {p : Nat} (hp : p < P) : 0 ≤ (g (12 + 8 * p + 2)).toInt ∧ (g 5).toInt + (g (12 + 8 * p + 2)).toInt ≤ 999 ∧ (g 6).toInt + (g (12 + 8 * p + 2)).toInt ≤ 999 ∧ (g 7).toInt + (g (12 + 8 * p + 2)).toInt ≤ 999 := by
  obtain ⟨⟨a1, a2, a3⟩, b, c, d, e⟩ := h
  have := zSI_le (f := fun p => g (12 + 8 * p + 2)) hp b
  have h0 := b p hp
  omega
theorem XI.f (hP : P ≤ 10) (h : XI P C g) (k : ∀ i : Nat, ((2 < i ∧ i < 8) ∨ i = 10 ∨ (12 ≤ i ∧ i < 92 ∧ (i % 8 = 6 ∨ i % 8 = 0))) → g2 i = g i) : XI P C g2 := by
  refine ⟨h.1.f hP (fun i hi => k i (by omega)), ?_, fun p q hp hq e => h.2.2 p q hp hq ?_⟩
  · unfold gK
    rw [k 3 (by omega), k 4 (by omega)]
    exact h.2.1
  · rw [← k (12 + 8 * p + 4) (by omega), ← k (12 + 8 * q + 4) (by omega)]; exact e
theorem XI.c (hP : P ≤ 10) (h : XI P C g) (h1 : gC P C g2) (k : ∀ i : Nat, ((2 < i ∧ i < 5) ∨ (12 ≤ i ∧ i < 92 ∧ i % 8 = 0)) → g2 i = g i) : XI P C g2 := by
  refine ⟨h1, ?_, fun p q hp hq e => h.2.2 p q hp hq ?_⟩
  · unfold gK
    rw [k 3 (by omega), k 4 (by omega)]
    exact h.2.1
  · rw [← k (12 + 8 * p + 4) (by omega), ← k (12 + 8 * q + 4) (by omega)]; exact e
end OWN
