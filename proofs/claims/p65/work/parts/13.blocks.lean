/-! The objects as blocks of the picture: their ints by slot (o.1), their rows by slot (o.2). -/
def rx_out (M : List (Nat × Nat)) (a : Nat) : Prop := match M with
  | [] => True
  | r :: M => (a < r.1 ∨ r.1 + r.2 ≤ a) ∧ rx_out M a
/-- all but what lies in M is as it was -/
def rx_fr (M : List (Nat × Nat)) (h h1 : hp) : Prop := ∀ a : Nat, rx_out M a → h1 a = h a
def rx_dis (q z : Nat) (M : List (Nat × Nat)) : Prop := match M with
  | [] => True
  | r :: M => (q + z ≤ r.1 ∨ r.1 + r.2 ≤ q) ∧ rx_dis q z M
theorem rx_dis_out {q z : Nat} {M : List (Nat × Nat)} (hd : rx_dis q z M) {a : Nat} (h1 : q ≤ a) (h2 : a < q + z) : rx_out M a := by
  induction M with
  | nil => trivial
  | cons r M ih => exact ⟨by have := hd.1; omega, ih hd.2⟩
theorem rx_fr0 {M : List (Nat × Nat)} {h : hp} : rx_fr M h h := fun _ _ => rfl
theorem rx_frt {M N : List (Nat × Nat)} {h h1 h2 : hp} (f1 : rx_fr M h h1) (f2 : rx_fr N h1 h2) (hs : ∀ a, rx_out M a → rx_out N a) : rx_fr M h h2 := fun a ha => (f2 a (hs a ha)).trans (f1 a ha)
theorem rx_fr1 {h : hp} {a q z : Nat} {x : Option va_E} (h1 : q ≤ a) (h2 : a < q + z) : rx_fr [(q, z)] h (va_up h a x) := fun b hb => va_up_ne _ _ (by have := hb.1; dsimp only at this; omega)
theorem rx_upself {f : hp} {a : Nat} {x : Option va_E} : va_up f a x a = x := va_up_self _ _ _
abbrev obv : Type := ob × (Nat → Option Nat)
theorem rx_vmap {k : Nat → Nat} {f : Nat → Option Nat} {i z0 : Nat} : va_up (fun j => (f j).map (fun z => k (10 + z))) i (some (k (10 + z0))) = fun j => (va_up f i (some z0) j).map (fun z => k (10 + z)) := by
  funext j
  by_cases e : j = i <;> simp [va_up, e]
/-- a step of a function that mirrors code: a name for a value -/
def rx_le {α β : Type} (a : α) (f : α → Option β) : Option β := f a
theorem rx_leE {α β : Type} {a : α} {f : α → Option β} {r : β} (h : rx_le a f = some r) : ∃ x, a = x ∧ f x = some r := ⟨a, rfl, h⟩
theorem rx_biE {α β : Type} {a : Option α} {f : α → Option β} {r : β} (h : a.bind f = some r) : ∃ x, a = some x ∧ f x = some r := Option.bind_eq_some_iff.mp h
/-- a row's place, as the machine reads and writes it -/
def rx_ald (len : Nat) (f : Nat → Int32) (i : Int32) : Option Int32 := if 0 ≤ i ∧ i.toNatClampNeg < len then some (f i.toNatClampNeg) else none
def rx_ast (len : Nat) (f : Nat → Int32) (i v : Int32) : Option (Nat → Int32) := if 0 ≤ i ∧ i.toNatClampNeg < len then some (upd f i.toNatClampNeg v) else none
theorem rx_vin {i : Int32} {len : Nat} (h : 0 ≤ i ∧ i.toNatClampNeg < len) : vp_in i len := fun q => by
  rcases q with q | q
  · exact absurd h.1 (by rw [Int32.not_le]; exact q)
  · omega
theorem rx_aldE {len : Nat} {f : Nat → Int32} {i x : Int32} (h : rx_ald len f i = some x) : vp_in i len ∧ f i.toNatClampNeg = x := by
  unfold rx_ald at h
  split at h
  · rename_i c
    exact ⟨rx_vin c, Option.some.inj h⟩
  · cases h
theorem rx_astE {len : Nat} {f g : Nat → Int32} {i v : Int32} (h : rx_ast len f i v = some g) : vp_in i len ∧ upd f i.toNatClampNeg v = g := by
  unfold rx_ast at h
  split at h
  · rename_i c
    exact ⟨rx_vin c, Option.some.inj h⟩
  · cases h
def rx_div (x y : Int32) : Option Int32 := if y = 0 then none else some (x / y)
def rx_rem (x y : Int32) : Option Int32 := if y = 0 then none else some (x - x / y * y)
theorem rx_divE {x y z : Int32} (h : rx_div x y = some z) : ¬ y = 0 ∧ x / y = z := by
  unfold rx_div at h
  split at h
  · cases h
  · rename_i c; exact ⟨c, Option.some.inj h⟩
theorem rx_remE {x y z : Int32} (h : rx_rem x y = some z) : ¬ y = 0 ∧ x - x / y * y = z := by
  unfold rx_rem at h
  split at h
  · cases h
  · rename_i c; exact ⟨c, Option.some.inj h⟩
/-- the class's own readers and writers of rows, which test the place -/
def rx_at (len : Nat) (f : Nat → Int32) (i : Int32) : Int32 := if i < 0 then 0 else if nI len ≤ i then 0 else f i.toNatClampNeg
def rx_put (len : Nat) (f : Nat → Int32) (i v : Int32) : Nat → Int32 := if i < 0 then f else if nI len ≤ i then f else upd f i.toNatClampNeg v
def rx_cp (n1 n2 : Nat) (f g : Nat → Int32) : Nat → Int32 := va_cpy f g 0 0 (min n1 n2)
theorem rx_nz {v : Int32} (h : v = 0 ∨ v = 1) : narrow .boolean (.int v) = .int v := by rcases h with rfl | rfl <;> rfl
def bQ (k : Nat → Nat) (q : Nat) (o : ob) (h : hp) : Prop := h q = some (.inr (2, [.ref (q + 1), .ref (q + 2), .int (o.1 2)])) ∧ h (q + 1) = some (rx_ia k 10 (o.2 0)) ∧ h (q + 2) = some (rx_ia k 10 (o.2 1))
theorem bQ.keep0 {k : Nat → Nat} {q : Nat} {o : ob} {h h1 : hp} (hb : bQ k q o h) (hf : ∀ a : Nat, q ≤ a → a < q + 3 → h1 a = h a) : bQ k q o h1 := ⟨(hf _ (by omega) (by omega)).trans hb.1, (hf _ (by omega) (by omega)).trans hb.2.1, (hf _ (by omega) (by omega)).trans hb.2.2⟩
theorem bQ.keep {k : Nat → Nat} {q : Nat} {o : ob} {h h1 : hp} {M : List (Nat × Nat)} (hb : bQ k q o h) (hf : rx_fr M h h1) (hd : rx_dis q 3 M) : bQ k q o h1 := hb.keep0 (fun a h2 h3 => hf a (rx_dis_out hd h2 h3))
theorem bQ.put2 {k : Nat → Nat} {q : Nat} {o : ob} {h : hp} {v : Int32} (hb : bQ k q o h) : bQ k q (upd o.1 2 v, o.2) (va_up h q (some (.inr (2, [.ref (q + 1), .ref (q + 2), .int v])))) := by
  exact ⟨va_up_self _ _ _, (va_up_ne _ _ (by omega)).trans hb.2.1, (va_up_ne _ _ (by omega)).trans hb.2.2⟩
theorem bQ.ast0 {k : Nat → Nat} {q : Nat} {o : ob} {h : hp} {f : Nat → Int32} (hb : bQ k q o h) : bQ k q (o.1, va_up o.2 0 f) (va_up h (q + 1) (some (rx_ia k 10 f))) := by
  exact ⟨(va_up_ne _ _ (by omega)).trans hb.1, va_up_self _ _ _, (va_up_ne _ _ (by omega)).trans hb.2.2⟩
theorem bQ.ast1 {k : Nat → Nat} {q : Nat} {o : ob} {h : hp} {f : Nat → Int32} (hb : bQ k q o h) : bQ k q (o.1, va_up o.2 1 f) (va_up h (q + 2) (some (rx_ia k 10 f))) := by
  exact ⟨(va_up_ne _ _ (by omega)).trans hb.1, (va_up_ne _ _ (by omega)).trans hb.2.1, va_up_self _ _ _⟩
def bS (k : Nat → Nat) (q : Nat) (o : ob) (h : hp) : Prop := h q = some (.inr (4, [.int (o.1 0), .int (o.1 1), .int (o.1 2), .int (o.1 3), .int (o.1 4), .int (o.1 5), .ref (q + 1), .ref (q + 2), .ref (q + 3), .ref (q + 4), .ref (q + 5), .ref (q + 6), .ref (q + 7), .ref (q + 8)])) ∧ h (q + 1) = some (rx_ia k 10 (o.2 6)) ∧ h (q + 2) = some (rx_ia k 10 (o.2 7)) ∧ h (q + 3) = some (rx_ia k 10 (o.2 8)) ∧ h (q + 4) = some (rx_ia k 10 (o.2 9)) ∧ h (q + 5) = some (rx_ia k 10 (o.2 10)) ∧ h (q + 6) = some (rx_ia k 4 (o.2 11)) ∧ h (q + 7) = some (rx_ia k 4 (o.2 12)) ∧ h (q + 8) = some (rx_ia k 4 (o.2 13))
theorem bS.keep0 {k : Nat → Nat} {q : Nat} {o : ob} {h h1 : hp} (hb : bS k q o h) (hf : ∀ a : Nat, q ≤ a → a < q + 9 → h1 a = h a) : bS k q o h1 := ⟨(hf _ (by omega) (by omega)).trans hb.1, (hf _ (by omega) (by omega)).trans hb.2.1, (hf _ (by omega) (by omega)).trans hb.2.2.1, (hf _ (by omega) (by omega)).trans hb.2.2.2.1, (hf _ (by omega) (by omega)).trans hb.2.2.2.2.1, (hf _ (by omega) (by omega)).trans hb.2.2.2.2.2.1, (hf _ (by omega) (by omega)).trans hb.2.2.2.2.2.2.1, (hf _ (by omega) (by omega)).trans hb.2.2.2.2.2.2.2.1, (hf _ (by omega) (by omega)).trans hb.2.2.2.2.2.2.2.2⟩
theorem bS.keep {k : Nat → Nat} {q : Nat} {o : ob} {h h1 : hp} {M : List (Nat × Nat)} (hb : bS k q o h) (hf : rx_fr M h h1) (hd : rx_dis q 9 M) : bS k q o h1 := hb.keep0 (fun a h2 h3 => hf a (rx_dis_out hd h2 h3))
theorem bS.put0 {k : Nat → Nat} {q : Nat} {o : ob} {h : hp} {v : Int32} (hb : bS k q o h) : bS k q (upd o.1 0 v, o.2) (va_up h q (some (.inr (4, [.int v, .int (o.1 1), .int (o.1 2), .int (o.1 3), .int (o.1 4), .int (o.1 5), .ref (q + 1), .ref (q + 2), .ref (q + 3), .ref (q + 4), .ref (q + 5), .ref (q + 6), .ref (q + 7), .ref (q + 8)])))) := by
  exact ⟨va_up_self _ _ _, (va_up_ne _ _ (by omega)).trans hb.2.1, (va_up_ne _ _ (by omega)).trans hb.2.2.1, (va_up_ne _ _ (by omega)).trans hb.2.2.2.1, (va_up_ne _ _ (by omega)).trans hb.2.2.2.2.1, (va_up_ne _ _ (by omega)).trans hb.2.2.2.2.2.1, (va_up_ne _ _ (by omega)).trans hb.2.2.2.2.2.2.1, (va_up_ne _ _ (by omega)).trans hb.2.2.2.2.2.2.2.1, (va_up_ne _ _ (by omega)).trans hb.2.2.2.2.2.2.2.2⟩
theorem bS.put1 {k : Nat → Nat} {q : Nat} {o : ob} {h : hp} {v : Int32} (hb : bS k q o h) : bS k q (upd o.1 1 v, o.2) (va_up h q (some (.inr (4, [.int (o.1 0), .int v, .int (o.1 2), .int (o.1 3), .int (o.1 4), .int (o.1 5), .ref (q + 1), .ref (q + 2), .ref (q + 3), .ref (q + 4), .ref (q + 5), .ref (q + 6), .ref (q + 7), .ref (q + 8)])))) := by
  exact ⟨va_up_self _ _ _, (va_up_ne _ _ (by omega)).trans hb.2.1, (va_up_ne _ _ (by omega)).trans hb.2.2.1, (va_up_ne _ _ (by omega)).trans hb.2.2.2.1, (va_up_ne _ _ (by omega)).trans hb.2.2.2.2.1, (va_up_ne _ _ (by omega)).trans hb.2.2.2.2.2.1, (va_up_ne _ _ (by omega)).trans hb.2.2.2.2.2.2.1, (va_up_ne _ _ (by omega)).trans hb.2.2.2.2.2.2.2.1, (va_up_ne _ _ (by omega)).trans hb.2.2.2.2.2.2.2.2⟩
theorem bS.put2 {k : Nat → Nat} {q : Nat} {o : ob} {h : hp} {v : Int32} (hb : bS k q o h) : bS k q (upd o.1 2 v, o.2) (va_up h q (some (.inr (4, [.int (o.1 0), .int (o.1 1), .int v, .int (o.1 3), .int (o.1 4), .int (o.1 5), .ref (q + 1), .ref (q + 2), .ref (q + 3), .ref (q + 4), .ref (q + 5), .ref (q + 6), .ref (q + 7), .ref (q + 8)])))) := by
  exact ⟨va_up_self _ _ _, (va_up_ne _ _ (by omega)).trans hb.2.1, (va_up_ne _ _ (by omega)).trans hb.2.2.1, (va_up_ne _ _ (by omega)).trans hb.2.2.2.1, (va_up_ne _ _ (by omega)).trans hb.2.2.2.2.1, (va_up_ne _ _ (by omega)).trans hb.2.2.2.2.2.1, (va_up_ne _ _ (by omega)).trans hb.2.2.2.2.2.2.1, (va_up_ne _ _ (by omega)).trans hb.2.2.2.2.2.2.2.1, (va_up_ne _ _ (by omega)).trans hb.2.2.2.2.2.2.2.2⟩
theorem bS.put3 {k : Nat → Nat} {q : Nat} {o : ob} {h : hp} {v : Int32} (hb : bS k q o h) : bS k q (upd o.1 3 v, o.2) (va_up h q (some (.inr (4, [.int (o.1 0), .int (o.1 1), .int (o.1 2), .int v, .int (o.1 4), .int (o.1 5), .ref (q + 1), .ref (q + 2), .ref (q + 3), .ref (q + 4), .ref (q + 5), .ref (q + 6), .ref (q + 7), .ref (q + 8)])))) := by
  exact ⟨va_up_self _ _ _, (va_up_ne _ _ (by omega)).trans hb.2.1, (va_up_ne _ _ (by omega)).trans hb.2.2.1, (va_up_ne _ _ (by omega)).trans hb.2.2.2.1, (va_up_ne _ _ (by omega)).trans hb.2.2.2.2.1, (va_up_ne _ _ (by omega)).trans hb.2.2.2.2.2.1, (va_up_ne _ _ (by omega)).trans hb.2.2.2.2.2.2.1, (va_up_ne _ _ (by omega)).trans hb.2.2.2.2.2.2.2.1, (va_up_ne _ _ (by omega)).trans hb.2.2.2.2.2.2.2.2⟩
theorem bS.put4 {k : Nat → Nat} {q : Nat} {o : ob} {h : hp} {v : Int32} (hb : bS k q o h) : bS k q (upd o.1 4 v, o.2) (va_up h q (some (.inr (4, [.int (o.1 0), .int (o.1 1), .int (o.1 2), .int (o.1 3), .int v, .int (o.1 5), .ref (q + 1), .ref (q + 2), .ref (q + 3), .ref (q + 4), .ref (q + 5), .ref (q + 6), .ref (q + 7), .ref (q + 8)])))) := by
  exact ⟨va_up_self _ _ _, (va_up_ne _ _ (by omega)).trans hb.2.1, (va_up_ne _ _ (by omega)).trans hb.2.2.1, (va_up_ne _ _ (by omega)).trans hb.2.2.2.1, (va_up_ne _ _ (by omega)).trans hb.2.2.2.2.1, (va_up_ne _ _ (by omega)).trans hb.2.2.2.2.2.1, (va_up_ne _ _ (by omega)).trans hb.2.2.2.2.2.2.1, (va_up_ne _ _ (by omega)).trans hb.2.2.2.2.2.2.2.1, (va_up_ne _ _ (by omega)).trans hb.2.2.2.2.2.2.2.2⟩
theorem bS.put5 {k : Nat → Nat} {q : Nat} {o : ob} {h : hp} {v : Int32} (hb : bS k q o h) : bS k q (upd o.1 5 v, o.2) (va_up h q (some (.inr (4, [.int (o.1 0), .int (o.1 1), .int (o.1 2), .int (o.1 3), .int (o.1 4), .int v, .ref (q + 1), .ref (q + 2), .ref (q + 3), .ref (q + 4), .ref (q + 5), .ref (q + 6), .ref (q + 7), .ref (q + 8)])))) := by
  exact ⟨va_up_self _ _ _, (va_up_ne _ _ (by omega)).trans hb.2.1, (va_up_ne _ _ (by omega)).trans hb.2.2.1, (va_up_ne _ _ (by omega)).trans hb.2.2.2.1, (va_up_ne _ _ (by omega)).trans hb.2.2.2.2.1, (va_up_ne _ _ (by omega)).trans hb.2.2.2.2.2.1, (va_up_ne _ _ (by omega)).trans hb.2.2.2.2.2.2.1, (va_up_ne _ _ (by omega)).trans hb.2.2.2.2.2.2.2.1, (va_up_ne _ _ (by omega)).trans hb.2.2.2.2.2.2.2.2⟩
theorem bS.ast6 {k : Nat → Nat} {q : Nat} {o : ob} {h : hp} {f : Nat → Int32} (hb : bS k q o h) : bS k q (o.1, va_up o.2 6 f) (va_up h (q + 1) (some (rx_ia k 10 f))) := by
  exact ⟨(va_up_ne _ _ (by omega)).trans hb.1, va_up_self _ _ _, (va_up_ne _ _ (by omega)).trans hb.2.2.1, (va_up_ne _ _ (by omega)).trans hb.2.2.2.1, (va_up_ne _ _ (by omega)).trans hb.2.2.2.2.1, (va_up_ne _ _ (by omega)).trans hb.2.2.2.2.2.1, (va_up_ne _ _ (by omega)).trans hb.2.2.2.2.2.2.1, (va_up_ne _ _ (by omega)).trans hb.2.2.2.2.2.2.2.1, (va_up_ne _ _ (by omega)).trans hb.2.2.2.2.2.2.2.2⟩
theorem bS.ast7 {k : Nat → Nat} {q : Nat} {o : ob} {h : hp} {f : Nat → Int32} (hb : bS k q o h) : bS k q (o.1, va_up o.2 7 f) (va_up h (q + 2) (some (rx_ia k 10 f))) := by
  exact ⟨(va_up_ne _ _ (by omega)).trans hb.1, (va_up_ne _ _ (by omega)).trans hb.2.1, va_up_self _ _ _, (va_up_ne _ _ (by omega)).trans hb.2.2.2.1, (va_up_ne _ _ (by omega)).trans hb.2.2.2.2.1, (va_up_ne _ _ (by omega)).trans hb.2.2.2.2.2.1, (va_up_ne _ _ (by omega)).trans hb.2.2.2.2.2.2.1, (va_up_ne _ _ (by omega)).trans hb.2.2.2.2.2.2.2.1, (va_up_ne _ _ (by omega)).trans hb.2.2.2.2.2.2.2.2⟩
theorem bS.ast8 {k : Nat → Nat} {q : Nat} {o : ob} {h : hp} {f : Nat → Int32} (hb : bS k q o h) : bS k q (o.1, va_up o.2 8 f) (va_up h (q + 3) (some (rx_ia k 10 f))) := by
  exact ⟨(va_up_ne _ _ (by omega)).trans hb.1, (va_up_ne _ _ (by omega)).trans hb.2.1, (va_up_ne _ _ (by omega)).trans hb.2.2.1, va_up_self _ _ _, (va_up_ne _ _ (by omega)).trans hb.2.2.2.2.1, (va_up_ne _ _ (by omega)).trans hb.2.2.2.2.2.1, (va_up_ne _ _ (by omega)).trans hb.2.2.2.2.2.2.1, (va_up_ne _ _ (by omega)).trans hb.2.2.2.2.2.2.2.1, (va_up_ne _ _ (by omega)).trans hb.2.2.2.2.2.2.2.2⟩
theorem bS.ast9 {k : Nat → Nat} {q : Nat} {o : ob} {h : hp} {f : Nat → Int32} (hb : bS k q o h) : bS k q (o.1, va_up o.2 9 f) (va_up h (q + 4) (some (rx_ia k 10 f))) := by
  exact ⟨(va_up_ne _ _ (by omega)).trans hb.1, (va_up_ne _ _ (by omega)).trans hb.2.1, (va_up_ne _ _ (by omega)).trans hb.2.2.1, (va_up_ne _ _ (by omega)).trans hb.2.2.2.1, va_up_self _ _ _, (va_up_ne _ _ (by omega)).trans hb.2.2.2.2.2.1, (va_up_ne _ _ (by omega)).trans hb.2.2.2.2.2.2.1, (va_up_ne _ _ (by omega)).trans hb.2.2.2.2.2.2.2.1, (va_up_ne _ _ (by omega)).trans hb.2.2.2.2.2.2.2.2⟩
theorem bS.ast10 {k : Nat → Nat} {q : Nat} {o : ob} {h : hp} {f : Nat → Int32} (hb : bS k q o h) : bS k q (o.1, va_up o.2 10 f) (va_up h (q + 5) (some (rx_ia k 10 f))) := by
  exact ⟨(va_up_ne _ _ (by omega)).trans hb.1, (va_up_ne _ _ (by omega)).trans hb.2.1, (va_up_ne _ _ (by omega)).trans hb.2.2.1, (va_up_ne _ _ (by omega)).trans hb.2.2.2.1, (va_up_ne _ _ (by omega)).trans hb.2.2.2.2.1, va_up_self _ _ _, (va_up_ne _ _ (by omega)).trans hb.2.2.2.2.2.2.1, (va_up_ne _ _ (by omega)).trans hb.2.2.2.2.2.2.2.1, (va_up_ne _ _ (by omega)).trans hb.2.2.2.2.2.2.2.2⟩
theorem bS.ast11 {k : Nat → Nat} {q : Nat} {o : ob} {h : hp} {f : Nat → Int32} (hb : bS k q o h) : bS k q (o.1, va_up o.2 11 f) (va_up h (q + 6) (some (rx_ia k 4 f))) := by
  exact ⟨(va_up_ne _ _ (by omega)).trans hb.1, (va_up_ne _ _ (by omega)).trans hb.2.1, (va_up_ne _ _ (by omega)).trans hb.2.2.1, (va_up_ne _ _ (by omega)).trans hb.2.2.2.1, (va_up_ne _ _ (by omega)).trans hb.2.2.2.2.1, (va_up_ne _ _ (by omega)).trans hb.2.2.2.2.2.1, va_up_self _ _ _, (va_up_ne _ _ (by omega)).trans hb.2.2.2.2.2.2.2.1, (va_up_ne _ _ (by omega)).trans hb.2.2.2.2.2.2.2.2⟩
theorem bS.ast12 {k : Nat → Nat} {q : Nat} {o : ob} {h : hp} {f : Nat → Int32} (hb : bS k q o h) : bS k q (o.1, va_up o.2 12 f) (va_up h (q + 7) (some (rx_ia k 4 f))) := by
  exact ⟨(va_up_ne _ _ (by omega)).trans hb.1, (va_up_ne _ _ (by omega)).trans hb.2.1, (va_up_ne _ _ (by omega)).trans hb.2.2.1, (va_up_ne _ _ (by omega)).trans hb.2.2.2.1, (va_up_ne _ _ (by omega)).trans hb.2.2.2.2.1, (va_up_ne _ _ (by omega)).trans hb.2.2.2.2.2.1, (va_up_ne _ _ (by omega)).trans hb.2.2.2.2.2.2.1, va_up_self _ _ _, (va_up_ne _ _ (by omega)).trans hb.2.2.2.2.2.2.2.2⟩
theorem bS.ast13 {k : Nat → Nat} {q : Nat} {o : ob} {h : hp} {f : Nat → Int32} (hb : bS k q o h) : bS k q (o.1, va_up o.2 13 f) (va_up h (q + 8) (some (rx_ia k 4 f))) := by
  exact ⟨(va_up_ne _ _ (by omega)).trans hb.1, (va_up_ne _ _ (by omega)).trans hb.2.1, (va_up_ne _ _ (by omega)).trans hb.2.2.1, (va_up_ne _ _ (by omega)).trans hb.2.2.2.1, (va_up_ne _ _ (by omega)).trans hb.2.2.2.2.1, (va_up_ne _ _ (by omega)).trans hb.2.2.2.2.2.1, (va_up_ne _ _ (by omega)).trans hb.2.2.2.2.2.2.1, (va_up_ne _ _ (by omega)).trans hb.2.2.2.2.2.2.2.1, va_up_self _ _ _⟩
def bT (k : Nat → Nat) (q : Nat) (o : ob) (h : hp) : Prop := h q = some (.inr (5, [.ref (q + 1), .int (o.1 1), .int (o.1 2), .int (o.1 3), .int (o.1 4), .int (o.1 5), .int (o.1 6), .int (o.1 7), .int (o.1 8)])) ∧ h (q + 1) = some (rx_ia k 500 (o.2 0))
theorem bT.keep0 {k : Nat → Nat} {q : Nat} {o : ob} {h h1 : hp} (hb : bT k q o h) (hf : ∀ a : Nat, q ≤ a → a < q + 2 → h1 a = h a) : bT k q o h1 := ⟨(hf _ (by omega) (by omega)).trans hb.1, (hf _ (by omega) (by omega)).trans hb.2⟩
theorem bT.keep {k : Nat → Nat} {q : Nat} {o : ob} {h h1 : hp} {M : List (Nat × Nat)} (hb : bT k q o h) (hf : rx_fr M h h1) (hd : rx_dis q 2 M) : bT k q o h1 := hb.keep0 (fun a h2 h3 => hf a (rx_dis_out hd h2 h3))
theorem bT.put1 {k : Nat → Nat} {q : Nat} {o : ob} {h : hp} {v : Int32} (hb : bT k q o h) : bT k q (upd o.1 1 v, o.2) (va_up h q (some (.inr (5, [.ref (q + 1), .int v, .int (o.1 2), .int (o.1 3), .int (o.1 4), .int (o.1 5), .int (o.1 6), .int (o.1 7), .int (o.1 8)])))) := by
  exact ⟨va_up_self _ _ _, (va_up_ne _ _ (by omega)).trans hb.2⟩
theorem bT.put2 {k : Nat → Nat} {q : Nat} {o : ob} {h : hp} {v : Int32} (hb : bT k q o h) : bT k q (upd o.1 2 v, o.2) (va_up h q (some (.inr (5, [.ref (q + 1), .int (o.1 1), .int v, .int (o.1 3), .int (o.1 4), .int (o.1 5), .int (o.1 6), .int (o.1 7), .int (o.1 8)])))) := by
  exact ⟨va_up_self _ _ _, (va_up_ne _ _ (by omega)).trans hb.2⟩
theorem bT.put3 {k : Nat → Nat} {q : Nat} {o : ob} {h : hp} {v : Int32} (hb : bT k q o h) : bT k q (upd o.1 3 v, o.2) (va_up h q (some (.inr (5, [.ref (q + 1), .int (o.1 1), .int (o.1 2), .int v, .int (o.1 4), .int (o.1 5), .int (o.1 6), .int (o.1 7), .int (o.1 8)])))) := by
  exact ⟨va_up_self _ _ _, (va_up_ne _ _ (by omega)).trans hb.2⟩
theorem bT.put4 {k : Nat → Nat} {q : Nat} {o : ob} {h : hp} {v : Int32} (hb : bT k q o h) : bT k q (upd o.1 4 v, o.2) (va_up h q (some (.inr (5, [.ref (q + 1), .int (o.1 1), .int (o.1 2), .int (o.1 3), .int v, .int (o.1 5), .int (o.1 6), .int (o.1 7), .int (o.1 8)])))) := by
  exact ⟨va_up_self _ _ _, (va_up_ne _ _ (by omega)).trans hb.2⟩
theorem bT.put5 {k : Nat → Nat} {q : Nat} {o : ob} {h : hp} {v : Int32} (hb : bT k q o h) : bT k q (upd o.1 5 v, o.2) (va_up h q (some (.inr (5, [.ref (q + 1), .int (o.1 1), .int (o.1 2), .int (o.1 3), .int (o.1 4), .int v, .int (o.1 6), .int (o.1 7), .int (o.1 8)])))) := by
  exact ⟨va_up_self _ _ _, (va_up_ne _ _ (by omega)).trans hb.2⟩
theorem bT.put6 {k : Nat → Nat} {q : Nat} {o : ob} {h : hp} {v : Int32} (hb : bT k q o h) : bT k q (upd o.1 6 v, o.2) (va_up h q (some (.inr (5, [.ref (q + 1), .int (o.1 1), .int (o.1 2), .int (o.1 3), .int (o.1 4), .int (o.1 5), .int v, .int (o.1 7), .int (o.1 8)])))) := by
  exact ⟨va_up_self _ _ _, (va_up_ne _ _ (by omega)).trans hb.2⟩
theorem bT.put7 {k : Nat → Nat} {q : Nat} {o : ob} {h : hp} {v : Int32} (hb : bT k q o h) : bT k q (upd o.1 7 v, o.2) (va_up h q (some (.inr (5, [.ref (q + 1), .int (o.1 1), .int (o.1 2), .int (o.1 3), .int (o.1 4), .int (o.1 5), .int (o.1 6), .int v, .int (o.1 8)])))) := by
  exact ⟨va_up_self _ _ _, (va_up_ne _ _ (by omega)).trans hb.2⟩
theorem bT.put8 {k : Nat → Nat} {q : Nat} {o : ob} {h : hp} {v : Int32} (hb : bT k q o h) : bT k q (upd o.1 8 v, o.2) (va_up h q (some (.inr (5, [.ref (q + 1), .int (o.1 1), .int (o.1 2), .int (o.1 3), .int (o.1 4), .int (o.1 5), .int (o.1 6), .int (o.1 7), .int v])))) := by
  exact ⟨va_up_self _ _ _, (va_up_ne _ _ (by omega)).trans hb.2⟩
theorem bT.ast0 {k : Nat → Nat} {q : Nat} {o : ob} {h : hp} {f : Nat → Int32} (hb : bT k q o h) : bT k q (o.1, va_up o.2 0 f) (va_up h (q + 1) (some (rx_ia k 500 f))) := by
  exact ⟨(va_up_ne _ _ (by omega)).trans hb.1, va_up_self _ _ _⟩
def bP (k : Nat → Nat) (q g : Nat) (o : ob) (h : hp) : Prop := h q = some (.inr (1, [.ref g, .int (o.1 1), .int (o.1 2), .int (o.1 3), .ref (q + 1), .ref (q + 2), .ref (q + 3), .ref (q + 4), .ref (q + 5), .ref (q + 6), .ref (q + 7), .ref (q + 8), .ref (q + 9), .ref (q + 10), .ref (q + 13)])) ∧ h (q + 1) = some (rx_ia k 2 (o.2 4)) ∧ h (q + 2) = some (rx_ia k 10 (o.2 5)) ∧ h (q + 3) = some (rx_ia k 10 (o.2 6)) ∧ h (q + 4) = some (rx_ia k 10 (o.2 7)) ∧ h (q + 5) = some (rx_ia k 10 (o.2 8)) ∧ h (q + 6) = some (rx_ia k 10 (o.2 9)) ∧ h (q + 7) = some (rx_ia k 10 (o.2 10)) ∧ h (q + 8) = some (rx_ia k 10 (o.2 11)) ∧ h (q + 9) = some (rx_ia k 10 (o.2 12))
theorem bP.keep0 {k : Nat → Nat} {q g : Nat} {o : ob} {h h1 : hp} (hb : bP k q g o h) (hf : ∀ a : Nat, q ≤ a → a < q + 10 → h1 a = h a) : bP k q g o h1 := ⟨(hf _ (by omega) (by omega)).trans hb.1, (hf _ (by omega) (by omega)).trans hb.2.1, (hf _ (by omega) (by omega)).trans hb.2.2.1, (hf _ (by omega) (by omega)).trans hb.2.2.2.1, (hf _ (by omega) (by omega)).trans hb.2.2.2.2.1, (hf _ (by omega) (by omega)).trans hb.2.2.2.2.2.1, (hf _ (by omega) (by omega)).trans hb.2.2.2.2.2.2.1, (hf _ (by omega) (by omega)).trans hb.2.2.2.2.2.2.2.1, (hf _ (by omega) (by omega)).trans hb.2.2.2.2.2.2.2.2.1, (hf _ (by omega) (by omega)).trans hb.2.2.2.2.2.2.2.2.2⟩
theorem bP.keep {k : Nat → Nat} {q g : Nat} {o : ob} {h h1 : hp} {M : List (Nat × Nat)} (hb : bP k q g o h) (hf : rx_fr M h h1) (hd : rx_dis q 10 M) : bP k q g o h1 := hb.keep0 (fun a h2 h3 => hf a (rx_dis_out hd h2 h3))
theorem bP.put1 {k : Nat → Nat} {q g : Nat} {o : ob} {h : hp} {v : Int32} (hb : bP k q g o h) : bP k q g (upd o.1 1 v, o.2) (va_up h q (some (.inr (1, [.ref g, .int v, .int (o.1 2), .int (o.1 3), .ref (q + 1), .ref (q + 2), .ref (q + 3), .ref (q + 4), .ref (q + 5), .ref (q + 6), .ref (q + 7), .ref (q + 8), .ref (q + 9), .ref (q + 10), .ref (q + 13)])))) := by
  exact ⟨va_up_self _ _ _, (va_up_ne _ _ (by omega)).trans hb.2.1, (va_up_ne _ _ (by omega)).trans hb.2.2.1, (va_up_ne _ _ (by omega)).trans hb.2.2.2.1, (va_up_ne _ _ (by omega)).trans hb.2.2.2.2.1, (va_up_ne _ _ (by omega)).trans hb.2.2.2.2.2.1, (va_up_ne _ _ (by omega)).trans hb.2.2.2.2.2.2.1, (va_up_ne _ _ (by omega)).trans hb.2.2.2.2.2.2.2.1, (va_up_ne _ _ (by omega)).trans hb.2.2.2.2.2.2.2.2.1, (va_up_ne _ _ (by omega)).trans hb.2.2.2.2.2.2.2.2.2⟩
theorem bP.put2 {k : Nat → Nat} {q g : Nat} {o : ob} {h : hp} {v : Int32} (hb : bP k q g o h) : bP k q g (upd o.1 2 v, o.2) (va_up h q (some (.inr (1, [.ref g, .int (o.1 1), .int v, .int (o.1 3), .ref (q + 1), .ref (q + 2), .ref (q + 3), .ref (q + 4), .ref (q + 5), .ref (q + 6), .ref (q + 7), .ref (q + 8), .ref (q + 9), .ref (q + 10), .ref (q + 13)])))) := by
  exact ⟨va_up_self _ _ _, (va_up_ne _ _ (by omega)).trans hb.2.1, (va_up_ne _ _ (by omega)).trans hb.2.2.1, (va_up_ne _ _ (by omega)).trans hb.2.2.2.1, (va_up_ne _ _ (by omega)).trans hb.2.2.2.2.1, (va_up_ne _ _ (by omega)).trans hb.2.2.2.2.2.1, (va_up_ne _ _ (by omega)).trans hb.2.2.2.2.2.2.1, (va_up_ne _ _ (by omega)).trans hb.2.2.2.2.2.2.2.1, (va_up_ne _ _ (by omega)).trans hb.2.2.2.2.2.2.2.2.1, (va_up_ne _ _ (by omega)).trans hb.2.2.2.2.2.2.2.2.2⟩
theorem bP.put3 {k : Nat → Nat} {q g : Nat} {o : ob} {h : hp} {v : Int32} (hb : bP k q g o h) : bP k q g (upd o.1 3 v, o.2) (va_up h q (some (.inr (1, [.ref g, .int (o.1 1), .int (o.1 2), .int v, .ref (q + 1), .ref (q + 2), .ref (q + 3), .ref (q + 4), .ref (q + 5), .ref (q + 6), .ref (q + 7), .ref (q + 8), .ref (q + 9), .ref (q + 10), .ref (q + 13)])))) := by
  exact ⟨va_up_self _ _ _, (va_up_ne _ _ (by omega)).trans hb.2.1, (va_up_ne _ _ (by omega)).trans hb.2.2.1, (va_up_ne _ _ (by omega)).trans hb.2.2.2.1, (va_up_ne _ _ (by omega)).trans hb.2.2.2.2.1, (va_up_ne _ _ (by omega)).trans hb.2.2.2.2.2.1, (va_up_ne _ _ (by omega)).trans hb.2.2.2.2.2.2.1, (va_up_ne _ _ (by omega)).trans hb.2.2.2.2.2.2.2.1, (va_up_ne _ _ (by omega)).trans hb.2.2.2.2.2.2.2.2.1, (va_up_ne _ _ (by omega)).trans hb.2.2.2.2.2.2.2.2.2⟩
theorem bP.ast4 {k : Nat → Nat} {q g : Nat} {o : ob} {h : hp} {f : Nat → Int32} (hb : bP k q g o h) : bP k q g (o.1, va_up o.2 4 f) (va_up h (q + 1) (some (rx_ia k 2 f))) := by
  exact ⟨(va_up_ne _ _ (by omega)).trans hb.1, va_up_self _ _ _, (va_up_ne _ _ (by omega)).trans hb.2.2.1, (va_up_ne _ _ (by omega)).trans hb.2.2.2.1, (va_up_ne _ _ (by omega)).trans hb.2.2.2.2.1, (va_up_ne _ _ (by omega)).trans hb.2.2.2.2.2.1, (va_up_ne _ _ (by omega)).trans hb.2.2.2.2.2.2.1, (va_up_ne _ _ (by omega)).trans hb.2.2.2.2.2.2.2.1, (va_up_ne _ _ (by omega)).trans hb.2.2.2.2.2.2.2.2.1, (va_up_ne _ _ (by omega)).trans hb.2.2.2.2.2.2.2.2.2⟩
theorem bP.ast5 {k : Nat → Nat} {q g : Nat} {o : ob} {h : hp} {f : Nat → Int32} (hb : bP k q g o h) : bP k q g (o.1, va_up o.2 5 f) (va_up h (q + 2) (some (rx_ia k 10 f))) := by
  exact ⟨(va_up_ne _ _ (by omega)).trans hb.1, (va_up_ne _ _ (by omega)).trans hb.2.1, va_up_self _ _ _, (va_up_ne _ _ (by omega)).trans hb.2.2.2.1, (va_up_ne _ _ (by omega)).trans hb.2.2.2.2.1, (va_up_ne _ _ (by omega)).trans hb.2.2.2.2.2.1, (va_up_ne _ _ (by omega)).trans hb.2.2.2.2.2.2.1, (va_up_ne _ _ (by omega)).trans hb.2.2.2.2.2.2.2.1, (va_up_ne _ _ (by omega)).trans hb.2.2.2.2.2.2.2.2.1, (va_up_ne _ _ (by omega)).trans hb.2.2.2.2.2.2.2.2.2⟩
theorem bP.ast6 {k : Nat → Nat} {q g : Nat} {o : ob} {h : hp} {f : Nat → Int32} (hb : bP k q g o h) : bP k q g (o.1, va_up o.2 6 f) (va_up h (q + 3) (some (rx_ia k 10 f))) := by
  exact ⟨(va_up_ne _ _ (by omega)).trans hb.1, (va_up_ne _ _ (by omega)).trans hb.2.1, (va_up_ne _ _ (by omega)).trans hb.2.2.1, va_up_self _ _ _, (va_up_ne _ _ (by omega)).trans hb.2.2.2.2.1, (va_up_ne _ _ (by omega)).trans hb.2.2.2.2.2.1, (va_up_ne _ _ (by omega)).trans hb.2.2.2.2.2.2.1, (va_up_ne _ _ (by omega)).trans hb.2.2.2.2.2.2.2.1, (va_up_ne _ _ (by omega)).trans hb.2.2.2.2.2.2.2.2.1, (va_up_ne _ _ (by omega)).trans hb.2.2.2.2.2.2.2.2.2⟩
theorem bP.ast7 {k : Nat → Nat} {q g : Nat} {o : ob} {h : hp} {f : Nat → Int32} (hb : bP k q g o h) : bP k q g (o.1, va_up o.2 7 f) (va_up h (q + 4) (some (rx_ia k 10 f))) := by
  exact ⟨(va_up_ne _ _ (by omega)).trans hb.1, (va_up_ne _ _ (by omega)).trans hb.2.1, (va_up_ne _ _ (by omega)).trans hb.2.2.1, (va_up_ne _ _ (by omega)).trans hb.2.2.2.1, va_up_self _ _ _, (va_up_ne _ _ (by omega)).trans hb.2.2.2.2.2.1, (va_up_ne _ _ (by omega)).trans hb.2.2.2.2.2.2.1, (va_up_ne _ _ (by omega)).trans hb.2.2.2.2.2.2.2.1, (va_up_ne _ _ (by omega)).trans hb.2.2.2.2.2.2.2.2.1, (va_up_ne _ _ (by omega)).trans hb.2.2.2.2.2.2.2.2.2⟩
theorem bP.ast8 {k : Nat → Nat} {q g : Nat} {o : ob} {h : hp} {f : Nat → Int32} (hb : bP k q g o h) : bP k q g (o.1, va_up o.2 8 f) (va_up h (q + 5) (some (rx_ia k 10 f))) := by
  exact ⟨(va_up_ne _ _ (by omega)).trans hb.1, (va_up_ne _ _ (by omega)).trans hb.2.1, (va_up_ne _ _ (by omega)).trans hb.2.2.1, (va_up_ne _ _ (by omega)).trans hb.2.2.2.1, (va_up_ne _ _ (by omega)).trans hb.2.2.2.2.1, va_up_self _ _ _, (va_up_ne _ _ (by omega)).trans hb.2.2.2.2.2.2.1, (va_up_ne _ _ (by omega)).trans hb.2.2.2.2.2.2.2.1, (va_up_ne _ _ (by omega)).trans hb.2.2.2.2.2.2.2.2.1, (va_up_ne _ _ (by omega)).trans hb.2.2.2.2.2.2.2.2.2⟩
theorem bP.ast9 {k : Nat → Nat} {q g : Nat} {o : ob} {h : hp} {f : Nat → Int32} (hb : bP k q g o h) : bP k q g (o.1, va_up o.2 9 f) (va_up h (q + 6) (some (rx_ia k 10 f))) := by
  exact ⟨(va_up_ne _ _ (by omega)).trans hb.1, (va_up_ne _ _ (by omega)).trans hb.2.1, (va_up_ne _ _ (by omega)).trans hb.2.2.1, (va_up_ne _ _ (by omega)).trans hb.2.2.2.1, (va_up_ne _ _ (by omega)).trans hb.2.2.2.2.1, (va_up_ne _ _ (by omega)).trans hb.2.2.2.2.2.1, va_up_self _ _ _, (va_up_ne _ _ (by omega)).trans hb.2.2.2.2.2.2.2.1, (va_up_ne _ _ (by omega)).trans hb.2.2.2.2.2.2.2.2.1, (va_up_ne _ _ (by omega)).trans hb.2.2.2.2.2.2.2.2.2⟩
theorem bP.ast10 {k : Nat → Nat} {q g : Nat} {o : ob} {h : hp} {f : Nat → Int32} (hb : bP k q g o h) : bP k q g (o.1, va_up o.2 10 f) (va_up h (q + 7) (some (rx_ia k 10 f))) := by
  exact ⟨(va_up_ne _ _ (by omega)).trans hb.1, (va_up_ne _ _ (by omega)).trans hb.2.1, (va_up_ne _ _ (by omega)).trans hb.2.2.1, (va_up_ne _ _ (by omega)).trans hb.2.2.2.1, (va_up_ne _ _ (by omega)).trans hb.2.2.2.2.1, (va_up_ne _ _ (by omega)).trans hb.2.2.2.2.2.1, (va_up_ne _ _ (by omega)).trans hb.2.2.2.2.2.2.1, va_up_self _ _ _, (va_up_ne _ _ (by omega)).trans hb.2.2.2.2.2.2.2.2.1, (va_up_ne _ _ (by omega)).trans hb.2.2.2.2.2.2.2.2.2⟩
theorem bP.ast11 {k : Nat → Nat} {q g : Nat} {o : ob} {h : hp} {f : Nat → Int32} (hb : bP k q g o h) : bP k q g (o.1, va_up o.2 11 f) (va_up h (q + 8) (some (rx_ia k 10 f))) := by
  exact ⟨(va_up_ne _ _ (by omega)).trans hb.1, (va_up_ne _ _ (by omega)).trans hb.2.1, (va_up_ne _ _ (by omega)).trans hb.2.2.1, (va_up_ne _ _ (by omega)).trans hb.2.2.2.1, (va_up_ne _ _ (by omega)).trans hb.2.2.2.2.1, (va_up_ne _ _ (by omega)).trans hb.2.2.2.2.2.1, (va_up_ne _ _ (by omega)).trans hb.2.2.2.2.2.2.1, (va_up_ne _ _ (by omega)).trans hb.2.2.2.2.2.2.2.1, va_up_self _ _ _, (va_up_ne _ _ (by omega)).trans hb.2.2.2.2.2.2.2.2.2⟩
theorem bP.ast12 {k : Nat → Nat} {q g : Nat} {o : ob} {h : hp} {f : Nat → Int32} (hb : bP k q g o h) : bP k q g (o.1, va_up o.2 12 f) (va_up h (q + 9) (some (rx_ia k 10 f))) := by
  exact ⟨(va_up_ne _ _ (by omega)).trans hb.1, (va_up_ne _ _ (by omega)).trans hb.2.1, (va_up_ne _ _ (by omega)).trans hb.2.2.1, (va_up_ne _ _ (by omega)).trans hb.2.2.2.1, (va_up_ne _ _ (by omega)).trans hb.2.2.2.2.1, (va_up_ne _ _ (by omega)).trans hb.2.2.2.2.2.1, (va_up_ne _ _ (by omega)).trans hb.2.2.2.2.2.2.1, (va_up_ne _ _ (by omega)).trans hb.2.2.2.2.2.2.2.1, (va_up_ne _ _ (by omega)).trans hb.2.2.2.2.2.2.2.2.1, va_up_self _ _ _⟩
def bH (k : Nat → Nat) (q : Nat) (o : ob) (h : hp) : Prop := h q = some (.inr (0, [.ref (q + 1), .int (o.1 1), .int (o.1 2)])) ∧ h (q + 1) = some (rx_qa (k 3) 8 (fun j => if j < 8 then some (q + 2 + 16 * j) else none))
theorem bH.keep0 {k : Nat → Nat} {q : Nat} {o : ob} {h h1 : hp} (hb : bH k q o h) (hf : ∀ a : Nat, q ≤ a → a < q + 2 → h1 a = h a) : bH k q o h1 := ⟨(hf _ (by omega) (by omega)).trans hb.1, (hf _ (by omega) (by omega)).trans hb.2⟩
theorem bH.keep {k : Nat → Nat} {q : Nat} {o : ob} {h h1 : hp} {M : List (Nat × Nat)} (hb : bH k q o h) (hf : rx_fr M h h1) (hd : rx_dis q 2 M) : bH k q o h1 := hb.keep0 (fun a h2 h3 => hf a (rx_dis_out hd h2 h3))
theorem bH.put1 {k : Nat → Nat} {q : Nat} {o : ob} {h : hp} {v : Int32} (hb : bH k q o h) : bH k q (upd o.1 1 v, o.2) (va_up h q (some (.inr (0, [.ref (q + 1), .int v, .int (o.1 2)])))) := by
  exact ⟨va_up_self _ _ _, (va_up_ne _ _ (by omega)).trans hb.2⟩
theorem bH.put2 {k : Nat → Nat} {q : Nat} {o : ob} {h : hp} {v : Int32} (hb : bH k q o h) : bH k q (upd o.1 2 v, o.2) (va_up h q (some (.inr (0, [.ref (q + 1), .int (o.1 1), .int v])))) := by
  exact ⟨va_up_self _ _ _, (va_up_ne _ _ (by omega)).trans hb.2⟩
def bC (k : Nat → Nat) (q : Nat) (o : obv) (h : hp) : Prop := h q = some (.inr (3, [.ref (q + 1), .ref (q + 2), .ref (q + 3), .int (o.1.1 3)])) ∧ h (q + 1) = some (rx_qa (k 4) 20 (fun j => (o.2 j).map (fun z => k (10 + z)))) ∧ h (q + 2) = some (rx_ia k 20 (o.1.2 1)) ∧ h (q + 3) = some (rx_ia k 20 (o.1.2 2)) ∧ (∀ j z, o.2 j = some z → z < 9)
theorem bC.keep0 {k : Nat → Nat} {q : Nat} {o : obv} {h h1 : hp} (hb : bC k q o h) (hf : ∀ a : Nat, q ≤ a → a < q + 4 → h1 a = h a) : bC k q o h1 := ⟨(hf _ (by omega) (by omega)).trans hb.1, (hf _ (by omega) (by omega)).trans hb.2.1, (hf _ (by omega) (by omega)).trans hb.2.2.1, (hf _ (by omega) (by omega)).trans hb.2.2.2.1, hb.2.2.2.2⟩
theorem bC.keep {k : Nat → Nat} {q : Nat} {o : obv} {h h1 : hp} {M : List (Nat × Nat)} (hb : bC k q o h) (hf : rx_fr M h h1) (hd : rx_dis q 4 M) : bC k q o h1 := hb.keep0 (fun a h2 h3 => hf a (rx_dis_out hd h2 h3))
theorem bC.put3 {k : Nat → Nat} {q : Nat} {o : obv} {h : hp} {v : Int32} (hb : bC k q o h) : bC k q ((upd o.1.1 3 v, o.1.2), o.2) (va_up h q (some (.inr (3, [.ref (q + 1), .ref (q + 2), .ref (q + 3), .int v])))) := by
  exact ⟨va_up_self _ _ _, (va_up_ne _ _ (by omega)).trans hb.2.1, (va_up_ne _ _ (by omega)).trans hb.2.2.1, (va_up_ne _ _ (by omega)).trans hb.2.2.2.1, hb.2.2.2.2⟩
theorem bC.vst {k : Nat → Nat} {q i z0 : Nat} {o : obv} {h : hp} (hb : bC k q o h) (hz0 : z0 < 9) : bC k q (o.1, va_up o.2 i (some z0)) (va_up h (q + 1) (some (rx_qa (k 4) 20 (va_up (fun j => (o.2 j).map (fun z => k (10 + z))) i (some (k (10 + z0))))))) := by
  exact ⟨(va_up_ne _ _ (by omega)).trans hb.1, (va_up_self _ _ _).trans (by rw [rx_vmap]), (va_up_ne _ _ (by omega)).trans hb.2.2.1, (va_up_ne _ _ (by omega)).trans hb.2.2.2.1, (fun j z hz2 => by by_cases e : j = i <;> simp [va_up, e] at hz2 <;> first | omega | exact hb.2.2.2.2 j z hz2)⟩
theorem bC.ast1 {k : Nat → Nat} {q : Nat} {o : obv} {h : hp} {f : Nat → Int32} (hb : bC k q o h) : bC k q ((o.1.1, va_up o.1.2 1 f), o.2) (va_up h (q + 2) (some (rx_ia k 20 f))) := by
  exact ⟨(va_up_ne _ _ (by omega)).trans hb.1, (va_up_ne _ _ (by omega)).trans hb.2.1, va_up_self _ _ _, (va_up_ne _ _ (by omega)).trans hb.2.2.2.1, hb.2.2.2.2⟩
theorem bC.ast2 {k : Nat → Nat} {q : Nat} {o : obv} {h : hp} {f : Nat → Int32} (hb : bC k q o h) : bC k q ((o.1.1, va_up o.1.2 2 f), o.2) (va_up h (q + 3) (some (rx_ia k 20 f))) := by
  exact ⟨(va_up_ne _ _ (by omega)).trans hb.1, (va_up_ne _ _ (by omega)).trans hb.2.1, (va_up_ne _ _ (by omega)).trans hb.2.2.1, va_up_self _ _ _, hb.2.2.2.2⟩
def bM (k : Nat → Nat) (q : Nat) (o : ob) (h : hp) : Prop := h q = some (.inr (8, [.ref (q + 1), .ref (q + 2), .int (o.1 2), .int (o.1 3), .int (o.1 4)])) ∧ h (q + 1) = some (rx_ia k 500 (o.2 0)) ∧ h (q + 2) = some (rx_ia k 5 (o.2 1))
theorem bM.keep0 {k : Nat → Nat} {q : Nat} {o : ob} {h h1 : hp} (hb : bM k q o h) (hf : ∀ a : Nat, q ≤ a → a < q + 3 → h1 a = h a) : bM k q o h1 := ⟨(hf _ (by omega) (by omega)).trans hb.1, (hf _ (by omega) (by omega)).trans hb.2.1, (hf _ (by omega) (by omega)).trans hb.2.2⟩
theorem bM.keep {k : Nat → Nat} {q : Nat} {o : ob} {h h1 : hp} {M : List (Nat × Nat)} (hb : bM k q o h) (hf : rx_fr M h h1) (hd : rx_dis q 3 M) : bM k q o h1 := hb.keep0 (fun a h2 h3 => hf a (rx_dis_out hd h2 h3))
theorem bM.put2 {k : Nat → Nat} {q : Nat} {o : ob} {h : hp} {v : Int32} (hb : bM k q o h) : bM k q (upd o.1 2 v, o.2) (va_up h q (some (.inr (8, [.ref (q + 1), .ref (q + 2), .int v, .int (o.1 3), .int (o.1 4)])))) := by
  exact ⟨va_up_self _ _ _, (va_up_ne _ _ (by omega)).trans hb.2.1, (va_up_ne _ _ (by omega)).trans hb.2.2⟩
theorem bM.put3 {k : Nat → Nat} {q : Nat} {o : ob} {h : hp} {v : Int32} (hb : bM k q o h) : bM k q (upd o.1 3 v, o.2) (va_up h q (some (.inr (8, [.ref (q + 1), .ref (q + 2), .int (o.1 2), .int v, .int (o.1 4)])))) := by
  exact ⟨va_up_self _ _ _, (va_up_ne _ _ (by omega)).trans hb.2.1, (va_up_ne _ _ (by omega)).trans hb.2.2⟩
theorem bM.put4 {k : Nat → Nat} {q : Nat} {o : ob} {h : hp} {v : Int32} (hb : bM k q o h) : bM k q (upd o.1 4 v, o.2) (va_up h q (some (.inr (8, [.ref (q + 1), .ref (q + 2), .int (o.1 2), .int (o.1 3), .int v])))) := by
  exact ⟨va_up_self _ _ _, (va_up_ne _ _ (by omega)).trans hb.2.1, (va_up_ne _ _ (by omega)).trans hb.2.2⟩
theorem bM.ast0 {k : Nat → Nat} {q : Nat} {o : ob} {h : hp} {f : Nat → Int32} (hb : bM k q o h) : bM k q (o.1, va_up o.2 0 f) (va_up h (q + 1) (some (rx_ia k 500 f))) := by
  exact ⟨(va_up_ne _ _ (by omega)).trans hb.1, va_up_self _ _ _, (va_up_ne _ _ (by omega)).trans hb.2.2⟩
theorem bM.ast1 {k : Nat → Nat} {q : Nat} {o : ob} {h : hp} {f : Nat → Int32} (hb : bM k q o h) : bM k q (o.1, va_up o.2 1 f) (va_up h (q + 2) (some (rx_ia k 5 f))) := by
  exact ⟨(va_up_ne _ _ (by omega)).trans hb.1, (va_up_ne _ _ (by omega)).trans hb.2.1, va_up_self _ _ _⟩
def bB (k : Nat → Nat) (q : Nat) (o : ob) (h : hp) : Prop := h q = some (.inr (7, [.ref (q + 1), .ref (q + 3), .ref (q + 12), .ref (q + 21), .ref (q + 37), .ref (q + 53), .ref (q + 69), .ref (q + 199), .ref (q + 203), .int (o.1 9), .int (o.1 10)]))
theorem bB.keep0 {k : Nat → Nat} {q : Nat} {o : ob} {h h1 : hp} (hb : bB k q o h) (hf : ∀ a : Nat, q ≤ a → a < q + 1 → h1 a = h a) : bB k q o h1 := (hf _ (by omega) (by omega)).trans hb
theorem bB.keep {k : Nat → Nat} {q : Nat} {o : ob} {h h1 : hp} {M : List (Nat × Nat)} (hb : bB k q o h) (hf : rx_fr M h h1) (hd : rx_dis q 1 M) : bB k q o h1 := hb.keep0 (fun a h2 h3 => hf a (rx_dis_out hd h2 h3))
theorem bB.put9 {k : Nat → Nat} {q : Nat} {o : ob} {h : hp} {v : Int32} (hb : bB k q o h) : bB k q (upd o.1 9 v, o.2) (va_up h q (some (.inr (7, [.ref (q + 1), .ref (q + 3), .ref (q + 12), .ref (q + 21), .ref (q + 37), .ref (q + 53), .ref (q + 69), .ref (q + 199), .ref (q + 203), .int v, .int (o.1 10)])))) := by
  exact va_up_self _ _ _
theorem bB.put10 {k : Nat → Nat} {q : Nat} {o : ob} {h : hp} {v : Int32} (hb : bB k q o h) : bB k q (upd o.1 10 v, o.2) (va_up h q (some (.inr (7, [.ref (q + 1), .ref (q + 3), .ref (q + 12), .ref (q + 21), .ref (q + 37), .ref (q + 53), .ref (q + 69), .ref (q + 199), .ref (q + 203), .int (o.1 9), .int v])))) := by
  exact va_up_self _ _ _
def bO (k : Nat → Nat) (q : Nat) (o : ob) (h : hp) : Prop := h q = some (rx_ia k 64 (o.2 0))
theorem bO.keep0 {k : Nat → Nat} {q : Nat} {o : ob} {h h1 : hp} (hb : bO k q o h) (hf : ∀ a : Nat, q ≤ a → a < q + 1 → h1 a = h a) : bO k q o h1 := (hf _ (by omega) (by omega)).trans hb
theorem bO.keep {k : Nat → Nat} {q : Nat} {o : ob} {h h1 : hp} {M : List (Nat × Nat)} (hb : bO k q o h) (hf : rx_fr M h h1) (hd : rx_dis q 1 M) : bO k q o h1 := hb.keep0 (fun a h2 h3 => hf a (rx_dis_out hd h2 h3))
theorem bO.ast0 {k : Nat → Nat} {q : Nat} {o : ob} {h : hp} {f : Nat → Int32} (hb : bO k q o h) : bO k q (o.1, va_up o.2 0 f) (va_up h q (some (rx_ia k 64 f))) := by
  exact va_up_self _ _ _
