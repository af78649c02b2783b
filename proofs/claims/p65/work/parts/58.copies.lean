/-! Copies: the model's rows, the class's objects. -/
def z_cpy (f h : Nat → Int32) (s d n : Nat) : Nat → Int32 := fun i => if d ≤ i ∧ i < d + n then f (s + (i - d)) else h i
theorem z_cpyS {f h : Nat → Int32} {s d k : Nat} : upd (z_cpy f h s d k) (d + k) (f (s + k)) = z_cpy f h s d (k + 1) := by
  funext i
  by_cases q : i = d + k
  · subst q; rw [z_us, z_cpy, if_pos ⟨by omega, by omega⟩, show d + k - d = k by omega]
  · rw [z_un q, z_cpy, z_cpy]
    by_cases r : d ≤ i ∧ i < d + k
    · rw [if_pos r, if_pos ⟨r.1, by omega⟩]
    · rw [if_neg r, if_neg (fun q2 => r ⟨q2.1, by omega⟩)]
theorem z_cpy0 {f h : Nat → Int32} {s d : Nat} : z_cpy f h s d 0 = h := by
  funext i
  rw [z_cpy, if_neg (by omega)]
theorem z_vv {α : Type} {f : Nat → α} {i : Nat} {a b : α} : va_up (va_up f i a) i b = va_up f i b := by
  funext j
  by_cases q : j = i
  · subst q; rw [z_vs, z_vs]
  · rw [z_vn q, z_vn q, z_vn q]
theorem z_vid {α : Type} {f : Nat → α} {i : Nat} : va_up f i (f i) = f := by
  funext j
  by_cases q : j = i
  · subst q; rw [z_vs]
  · rw [z_vn q]
theorem z_cin {f h : Nat → Int32} {s d n i : Nat} (hi : i < n) : z_cpy f h s d n (d + i) = f (s + i) := by
  rw [z_cpy, if_pos ⟨by omega, by omega⟩, show d + i - d = i by omega]
theorem z_cout {f h : Nat → Int32} {s d n i : Nat} (hi : i < d ∨ d + n ≤ i) : z_cpy f h s d n i = h i := by
  rw [z_cpy, if_neg (by omega)]
def z_shl (f : Nat → Int32) (s n : Nat) : Nat → Int32 := fun i => if i < n then f (s + i) else f i
theorem z_shlS {f : Nat → Int32} {s k : Nat} (hs : 0 < s) : upd (z_shl f s k) k (z_shl f s k (s + k)) = z_shl f s (k + 1) := by
  funext i
  by_cases q : i = k
  · subst q; rw [z_us, z_shl, z_shl, if_neg (by omega), if_pos (by omega)]
  · rw [z_un q, z_shl, z_shl]
    by_cases r : i < k
    · rw [if_pos r, if_pos (by omega)]
    · rw [if_neg r, if_neg (by omega)]
theorem z_shl0 {f : Nat → Int32} {s : Nat} : z_shl f s 0 = f := by
  funext i
  rw [z_shl, if_neg (by omega)]
/-! The class's copies. -/
theorem z_rcp {n i : Nat} {f h : Nat → Int32} (hi : i < n) : rx_cp n n f h i = f i := by
  unfold rx_cp va_cpy
  rw [Nat.min_self, if_pos ⟨by omega, by omega⟩]
  congr 1
  omega
theorem C_copyQ {P : Nat} {o o2 : ob} {g : Nat → Int32} {e : Int32} {ql : List Nat} (hP : P ≤ 10) (h : RQ P o2 g e ql) : ∃ y : ob, F_X3_copyFrom o o2 = some y ∧ RQ P y g e ql := by
  have hl := h.1.lenP
  simp only [F_X3_copyFrom, z_le]
  refine ⟨_, rfl, h.1, ?_, fun i hi => ?_⟩
  · simp (disch := omega) only [z_us]
    exact h.2.1
  · have := h.2.2 i hi
    simp (disch := omega) only [z_vs, z_vn, z_rcp]
    exact this
theorem C_copy {P B J : Nat} {os op ow oe op2 ow2 oe2 : ob} {g : Nat → Int32} {qw qe : List Nat} (h : RPos P B J os op2 ow2 oe2 g qw qe) : ∃ y : ob × ob × ob, F_X2_copyFrom op ow oe op2 ow2 oe2 = some y ∧ RPos P B J os y.1 y.2.1 y.2.2 g qw qe := by
  have hP := h.hP
  obtain ⟨y1, e1, r1⟩ := C_copyQ (o := ow) hP.2 h.hqw
  obtain ⟨y2, e2, r2⟩ := C_copyQ (o := oe) hP.2 h.hqe
  simp only [F_X2_copyFrom, z_le, e1, e2, Option.bind_some]
  obtain ⟨hok, hrs, hrp, hrk, -, -⟩ := h
  refine ⟨_, rfl, hok, hrs, ?_, ?_, r1, r2⟩
  · obtain ⟨⟨a1, a2, a3, a4, a5⟩, b1, b2, b3, b4, b5⟩ := hrp
    refine ⟨⟨?_, ?_, ?_, ?_, ?_⟩, fun p hp => ?_, fun p hp => ?_, fun p hp => ?_, fun p hp => ?_, fun p hp => ?_⟩
    · simp (disch := omega) only [z_us, z_un]; exact a1
    · simp (disch := omega) only [z_us, z_un]; exact a2
    · simp (disch := omega) only [z_us, z_un]; exact a3
    · simp (disch := omega) only [z_vs, z_vn, z_rcp]; exact a4
    · simp (disch := omega) only [z_vs, z_vn, z_rcp]; exact a5
    · simp (disch := omega) only [z_vs, z_vn, z_rcp]; exact b1 p hp
    · simp (disch := omega) only [z_vs, z_vn, z_rcp]; exact b2 p hp
    · simp (disch := omega) only [z_vs, z_vn, z_rcp]; exact b3 p hp
    · simp (disch := omega) only [z_vs, z_vn, z_rcp]; exact b4 p hp
    · simp (disch := omega) only [z_vs, z_vn, z_rcp]; exact b5 p hp
  · intro k hk
    have := hrk k hk
    simp (disch := omega) only [z_vs, z_vn, z_rcp]
    exact this
/-! The relation, piece by piece, at another row. -/
section FRAME
variable {P B J J2 : Nat} {g g2 : Nat → Int32} {os op op2 o : ob} {e : Int32} {ql : List Nat}
theorem gA.c (h : gA P B g) (h8 : g2 8 = g 8) (h9 : g2 9 = g 9) : gA P B g2 := ⟨h.1, h.2.1, h8.trans h.2.2.1, h9.trans h.2.2.2⟩
theorem gT.c (h : gT P J g) (hJ : J ≤ J2) (h0 : g2 0 = g 0) (h5 : ∀ p : Nat, p < P → g2 (12 + 8 * p + 5) = g (12 + 8 * p + 5)) : gT P J2 g2 := by
  obtain ⟨t, ht, e, h⟩ := h
  refine ⟨t, ht, h0.trans e, fun p hp => ?_⟩
  obtain ⟨c, hc, e2⟩ := h p hp
  exact ⟨c, Nat.le_trans hc hJ, (h5 p hp).trans e2⟩
theorem gL.c (h : gL g) (h1 : g2 1 = g 1) (h2 : g2 2 = g 2) : gL g2 := by
  unfold gL; rw [h1, h2]; exact h
theorem gP.c (h : gP P J g) (hJ : J ≤ J2) (h11 : g2 11 = g 11) (hk : ∀ p : Nat, p < P → g2 (12 + 8 * p) = g (12 + 8 * p) ∧ g2 (12 + 8 * p + 1) = g (12 + 8 * p + 1) ∧ g2 (12 + 8 * p + 6) = g (12 + 8 * p + 6) ∧ g2 (12 + 8 * p + 7) = g (12 + 8 * p + 7)) : gP P J2 g2 := by
  obtain ⟨⟨q, hq, e⟩, h⟩ := h
  refine ⟨⟨q, Nat.le_trans hq hJ, h11.trans e⟩, fun p hp => ?_⟩
  obtain ⟨a, b, c, d⟩ := hk p hp
  rw [a, b, c, d, h11]
  exact h p hp
theorem gN.c (h : gN P g) (hk : ∀ p : Nat, p < P → g2 (12 + 8 * p + 6) = g (12 + 8 * p + 6) ∧ g2 (12 + 8 * p + 7) = g (12 + 8 * p + 7)) : gN P g2 := by
  intro p q hp hq
  rw [(hk p hp).1, (hk p hp).2, (hk q hq).1, (hk q hq).2]
  exact h p q hp hq
theorem gW.c (h : gW P g) (hk : ∀ p : Nat, p < P → g2 (12 + 8 * p + 4) = g (12 + 8 * p + 4)) : gW P g2 := by
  refine ⟨fun p hp => ?_, fun r hr => ?_⟩
  · rw [hk p hp]; exact h.1 p hp
  · obtain ⟨p, hp, e⟩ := h.2 r hr
    exact ⟨p, hp, (hk p hp).trans e⟩
theorem gR.c (h : gR P g) (hk : ∀ k : Nat, k < P → g2 (102 + 3 * k) = g (102 + 3 * k) ∧ g2 (102 + 3 * k + 1) = g (102 + 3 * k + 1) ∧ g2 (102 + 3 * k + 2) = g (102 + 3 * k + 2)) : gR P g2 := by
  intro k hp
  obtain ⟨a, b, c⟩ := hk k hp
  rw [a, b, c]
  exact h k hp
theorem gB.c (h : gB B g) (hk : ∀ b : Nat, b < B → g2 (132 + 3 * b) = g (132 + 3 * b)) : gB B g2 := by
  intro b hb
  rw [hk b hb]
  exact h b hb
theorem RS.c (h : RS P B os g) (h1 : g2 2 = g 2 ∧ g2 3 = g 3 ∧ g2 4 = g 4 ∧ g2 8 = g 8 ∧ g2 9 = g 9 ∧ g2 10 = g 10) (hp : ∀ p : Nat, p < P → g2 (12 + 8 * p) = g (12 + 8 * p) ∧ g2 (92 + p) = g (92 + p)) (hb : ∀ b : Nat, b < B → g2 (132 + 3 * b) = g (132 + 3 * b) ∧ g2 (132 + 3 * b + 1) = g (132 + 3 * b + 1) ∧ g2 (132 + 3 * b + 2) = g (132 + 3 * b + 2)) : RS P B os g2 := by
  obtain ⟨a1, a2, a3, a4, a5, a6⟩ := h1
  unfold RS
  rw [a1, a2, a3, a4, a5, a6]
  refine ⟨h.1, fun p q => ?_, fun b q => ?_, h.2.2.2⟩
  · rw [(hp p q).1, (hp p q).2]; exact h.2.1 p q
  · rw [(hb b q).1, (hb b q).2.1, (hb b q).2.2]; exact h.2.2.1 b q
theorem RK.c (h : RK P op g) (hr : op2.2 10 = op.2 10 ∧ op2.2 11 = op.2 11 ∧ op2.2 12 = op.2 12) (hk : ∀ k : Nat, k < P → g2 (12 + 8 * k) = g (12 + 8 * k) ∧ g2 (102 + 3 * k) = g (102 + 3 * k) ∧ g2 (102 + 3 * k + 1) = g (102 + 3 * k + 1) ∧ g2 (102 + 3 * k + 2) = g (102 + 3 * k + 2)) : RK P op2 g2 := by
  intro k q
  obtain ⟨a, b, c, d⟩ := hk k q
  rw [hr.1, hr.2.1, hr.2.2, a, b, c, d]
  exact h k q
theorem z_lofc {p : Nat} (h1 : g2 (12 + 8 * p + 1) = g (12 + 8 * p + 1)) (h6 : g2 (12 + 8 * p + 6) = g (12 + 8 * p + 6)) : z_lof g2 e p = z_lof g e p := by
  simp only [z_lof, z_qd, h1, h6]
theorem z_ahc {p q : Nat} (h6 : g2 (12 + 8 * p + 6) = g (12 + 8 * p + 6)) (h7 : g2 (12 + 8 * p + 7) = g (12 + 8 * p + 7)) (k6 : g2 (12 + 8 * q + 6) = g (12 + 8 * q + 6)) (k7 : g2 (12 + 8 * q + 7) = g (12 + 8 * q + 7)) : z_ah g2 p q = z_ah g p q := by
  simp only [z_ah, h6, h7, k6, k7]
theorem RQ.c (h : RQ P o g e ql) (hk : ∀ p : Nat, p < P → g2 (12 + 8 * p + 1) = g (12 + 8 * p + 1) ∧ g2 (12 + 8 * p + 6) = g (12 + 8 * p + 6) ∧ g2 (12 + 8 * p + 7) = g (12 + 8 * p + 7)) : RQ P o g2 e ql := by
  refine ⟨⟨fun p => ?_, ?_⟩, h.2.1, fun i hi => ?_⟩
  · rw [h.1.1 p]
    refine ⟨fun q => ⟨q.1, ?_⟩, fun q => ⟨q.1, ?_⟩⟩
    · rw [z_lofc (hk p q.1).1 (hk p q.1).2.1]; exact q.2
    · rw [← z_lofc (hk p q.1).1 (hk p q.1).2.1]; exact q.2
  · refine h.1.2.imp_of_mem (fun {a b} ha hb q => ?_)
    have ha := hk a ((h.1.1 a).mp ha).1
    have hb := hk b ((h.1.1 b).mp hb).1
    rw [z_ahc ha.2.1 ha.2.2 hb.2.1 hb.2.2]; exact q
  · rw [(hk _ (h.1.at hi).1).2.1]; exact h.2.2 i hi
theorem okG.mono (h : okG P B J g) (hJ : J ≤ J2) : okG P B J2 g := ⟨h.1, h.2.1.c hJ rfl (fun _ _ => rfl), h.2.2.1, h.2.2.2.1.c hJ rfl (fun _ _ => ⟨rfl, rfl, rfl, rfl⟩), h.2.2.2.2⟩
theorem RPos.mono {ow oe : ob} {qw qe : List Nat} (h : RPos P B J os op ow oe g qw qe) (hJ : J ≤ J2) : RPos P B J2 os op ow oe g qw qe := ⟨h.1.mono hJ, h.2⟩
end FRAME
