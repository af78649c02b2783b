/-! The law feeds its text, four signs a word. -/
def bN (x : Int32) : Nat := x.toBitVec.toNat
theorem bN_nI {c : Nat} (h : c < 2 ^ 32) : bN (nI c) = c := by
  show (Int32.ofNat c).toBitVec.toNat = c
  rw [Int32.toBitVec_ofNat']
  exact Nat.mod_eq_of_lt h
theorem bN_inj {x y : Int32} (h : bN x = bN y) : x = y := Int32.toBitVec_inj.mp (BitVec.eq_of_toNat_eq h)
theorem bN_step {x : Int32} {c : Nat} (hc : c < 256) : bN ((x <<< ((8 : Int32) &&& 31)) ||| nI c) = bN x % 16777216 * 256 + c := by
  have h1 : bN (x <<< ((8 : Int32) &&& 31)) = (bN x % 16777216) <<< 8 := by
    unfold bN
    rw [show (8 : Int32) &&& 31 = 8 from by decide, Int32.toBitVec_shiftLeft]
    show (x.toBitVec <<< 8).toNat = _
    rw [BitVec.toNat_shiftLeft, Nat.shiftLeft_eq, Nat.shiftLeft_eq]
    omega
  have h2 : bN ((x <<< ((8 : Int32) &&& 31)) ||| nI c) = bN (x <<< ((8 : Int32) &&& 31)) ||| bN (nI c) := by
    unfold bN
    rw [Int32.toBitVec_or, BitVec.toNat_or]
  rw [h2, h1, bN_nI (by omega), ← Nat.shiftLeft_add_eq_or_of_lt (by omega), Nat.shiftLeft_eq]
theorem bN_and (x : Int32) : bN (x &&& 255) = bN x % 256 := by
  unfold bN
  rw [Int32.toBitVec_and, BitVec.toNat_and]
  show x.toBitVec.toNat &&& 2 ^ 8 - 1 = _
  rw [Nat.and_two_pow_sub_one_eq_mod]
theorem bN_24 (x : Int32) : ((x.toUInt32 >>> ((24 : Int32).toUInt32 &&& Int32.toUInt32 31)).toInt32 &&& 255) = nI (bN x / 16777216 % 256) := by
  refine bN_inj ?_
  rw [bN_and, bN_nI (by omega), show (24 : Int32).toUInt32 &&& Int32.toUInt32 31 = 24 from by decide]
  have : bN (x.toUInt32 >>> 24).toInt32 = bN x / 16777216 := by
    show (x.toBitVec >>> 24).toNat = _
    rw [BitVec.toNat_ushiftRight, Nat.shiftRight_eq_div_pow]
    rfl
  rw [this]
theorem bN_16 (x : Int32) : ((x.toUInt32 >>> ((16 : Int32).toUInt32 &&& Int32.toUInt32 31)).toInt32 &&& 255) = nI (bN x / 65536 % 256) := by
  refine bN_inj ?_
  rw [bN_and, bN_nI (by omega), show (16 : Int32).toUInt32 &&& Int32.toUInt32 31 = 16 from by decide]
  have : bN (x.toUInt32 >>> 16).toInt32 = bN x / 65536 := by
    show (x.toBitVec >>> 16).toNat = _
    rw [BitVec.toNat_ushiftRight, Nat.shiftRight_eq_div_pow]
    rfl
  rw [this]
theorem bN_8 (x : Int32) : ((x.toUInt32 >>> ((8 : Int32).toUInt32 &&& Int32.toUInt32 31)).toInt32 &&& 255) = nI (bN x / 256 % 256) := by
  refine bN_inj ?_
  rw [bN_and, bN_nI (by omega), show (8 : Int32).toUInt32 &&& Int32.toUInt32 31 = 8 from by decide]
  have : bN (x.toUInt32 >>> 8).toInt32 = bN x / 256 := by
    show (x.toBitVec >>> 8).toNat = _
    rw [BitVec.toNat_ushiftRight, Nat.shiftRight_eq_div_pow]
    rfl
  rw [this]
theorem bN_0 (x : Int32) : ((x.toUInt32 >>> ((0 : Int32).toUInt32 &&& Int32.toUInt32 31)).toInt32 &&& 255) = nI (bN x / 1 % 256) := by
  refine bN_inj ?_
  rw [bN_and, bN_nI (by omega), show (0 : Int32).toUInt32 &&& Int32.toUInt32 31 = 0 from by decide, Nat.div_one]
  have : bN (x.toUInt32 >>> 0).toInt32 = bN x := by
    show (x.toBitVec >>> 0).toNat = _
    rw [BitVec.toNat_ushiftRight, Nat.shiftRight_eq_div_pow, Nat.pow_zero, Nat.div_one]
    rfl
  rw [this]
/-- the sign at place j, a blank behind the text -/
def ch (L : List Nat) (j : Nat) : Nat := if j < L.length then L.getD j 0 else 32
def Pv (L : List Nat) (j : Nat) : Nat → Nat
  | 0 => 0
  | r + 1 => Pv L j r * 256 + ch L (j + r)
def AllB (L : List Nat) : Prop := ∀ j : Nat, ch L j < 256
/-- the class's buffer holds the first S signs -/
def AB (L : List Nat) (S : Nat) (ot : ob) : Prop := ot.1 1 = nI S ∧ ∀ j : Nat, j < S → ot.2 0 j = nI (ch L j)
section FEED
variable {ot om oB : ob} {L : List Nat} {S k : Nat} {x : Int32}
theorem AB.put (h : AB L S ot) : AB L (S + 1) (upd ot.1 1 (nI (S + 1)), va_up ot.2 0 (upd (ot.2 0) S (nI (ch L S)))) := by
  refine ⟨by dsimp only; rw [z_us], fun i hi => ?_⟩
  dsimp only
  rw [z_vs]
  by_cases q : i = S
  · subst q; rw [z_us]
  · rw [z_un q]; exact h.2 i (by omega)
theorem AW {c : Int32} {v fu : Nat} (hc : ¬ c < 0) (hv : ((x.toUInt32 >>> (c.toUInt32 &&& Int32.toUInt32 31)).toInt32 &&& 255) = nI v) (he : v = ch L S) (hS : S < 500) (h : ot.1 1 = nI S) : F_X6_appendWord_3 x (fu + 1) ot c = F_X6_appendWord_3 x fu (upd ot.1 1 (nI (S + 1)), va_up ot.2 0 (upd (ot.2 0) S (nI (ch L S)))) (c + -8) := by
  subst he
  rw [F_X6_appendWord_3, if_neg hc]
  simp only [z_leN, h, hv, nI_1]
  rw [z_put hS (by omega)]
theorem A_word (hB : AllB L) (h : AB L S ot) (hS : S + 4 ≤ 500) (hx : bN x = Pv L S 4) : ∃ ot2 : ob, F_X6_appendWord ot x = some ot2 ∧ AB L (S + 4) ot2 := by
  have hv : bN x = (((ch L S * 256 + ch L (S + 1)) * 256 + ch L (S + 2)) * 256) + ch L (S + 3) := by
    rw [hx]; simp only [Pv, Nat.zero_mul, Nat.zero_add, Nat.add_zero]
  have b0 := hB S
  have b1 := hB (S + 1)
  have b2 := hB (S + 2)
  have b3 := hB (S + 3)
  have h1 := h.put
  have h2 := h1.put
  have h3 := h2.put
  have h4 := h3.put
  refine ⟨_, ?_, h4⟩
  rw [F_X6_appendWord, show F_X6_appendWord_3 x 100000 ot 24 = _ from AW (L := L) (fu := 99999) (c := 24) (by decide) (bN_24 x) (by omega) (by omega) h.1, show F_X6_appendWord_3 x 99999 _ (24 + -8) = _ from AW (L := L) (S := S + 1) (fu := 99998) (c := 16) (by decide) (bN_16 x) (by omega) (by omega) h1.1, show F_X6_appendWord_3 x 99998 _ (16 + -8) = _ from AW (L := L) (S := S + 2) (fu := 99997) (c := 8) (by decide) (bN_8 x) (by omega) (by omega) h2.1, show F_X6_appendWord_3 x 99997 _ (8 + -8) = _ from AW (L := L) (S := S + 3) (fu := 99996) (c := 0) (by decide) (bN_0 x) (by omega) (by omega) h3.1]
  rw [show F_X6_appendWord_3 x 99996 _ (0 + -8) = F_X6_appendWord_3 x (99995 + 1) _ (0 + -8) from rfl, F_X6_appendWord_3, if_pos (by decide)]
  rfl
/-- the five words while they are filled: i signs of the piece from k on are in -/
def WI (L : List Nat) (k i : Nat) (w : Nat → Int32) : Prop := ∀ m : Nat, m < 5 → bN (w m) % 256 ^ (min 4 (i - 4 * m)) = Pv L (k + 4 * m) (min 4 (i - 4 * m))
theorem WI0 {w : Nat → Int32} : WI L k 0 w := fun m hm => by
  rw [show min 4 (0 - 4 * m) = 0 by omega, Nat.pow_zero, Nat.mod_one]
  rfl
theorem WI.step {w : Nat → Int32} {i : Nat} (hB : AllB L) (h : WI L k i w) (hi : i < 20) : WI L k (i + 1) (upd w (i / 4) ((w (i / 4) <<< ((8 : Int32) &&& 31)) ||| nI (ch L (k + i)))) := by
  intro m hm
  by_cases q : m = i / 4
  · subst q
    have h0 := h (i / 4) hm
    have hb := hB (k + i)
    obtain ⟨r, hr, er⟩ : ∃ r : Nat, r < 4 ∧ i = 4 * (i / 4) + r := ⟨i % 4, Nat.mod_lt _ (by omega), by omega⟩
    rw [show min 4 (i - 4 * (i / 4)) = r by omega] at h0
    rw [show min 4 (i + 1 - 4 * (i / 4)) = r + 1 by omega, z_us, bN_step hb, Pv, show k + 4 * (i / 4) + r = k + i by omega, ← h0]
    generalize bN (w (i / 4)) = N
    have : r = 0 ∨ r = 1 ∨ r = 2 ∨ r = 3 := by omega
    rcases this with rfl | rfl | rfl | rfl
    · show (N % 16777216 * 256 + ch L (k + i)) % 256 = N % 1 * 256 + _; omega
    · show (N % 16777216 * 256 + ch L (k + i)) % 65536 = N % 256 * 256 + _; omega
    · show (N % 16777216 * 256 + ch L (k + i)) % 16777216 = N % 65536 * 256 + _; omega
    · show (N % 16777216 * 256 + ch L (k + i)) % 4294967296 = N % 16777216 * 256 + _; omega
  · rw [z_un q, show min 4 (i + 1 - 4 * m) = min 4 (i - 4 * m) by omega]
    exact h m hm
theorem FE_in (hB : AllB L) (hk : k ≤ 480) : ∀ (d i fu : Nat) (om : ob), i + d = 20 → d < fu → WT om L → WI L k i (om.2 1) → ∃ om2 : ob, F_L_feeds_12 oB (nI k) fu om ot (nI i) = some (nI 20, om2, ot) ∧ WT om2 L ∧ WI L k 20 (om2.2 1) ∧ om2.1 = om.1 := by
  intro d
  induction d with
  | zero =>
    intro i fu om hi hf hw hI
    obtain ⟨fu, rfl⟩ : ∃ n, fu = n + 1 := ⟨fu - 1, by omega⟩
    obtain rfl : i = 20 := by omega
    refine ⟨om, ?_, hw, hI, rfl⟩
    simp only [F_L_feeds_12]
    rw [if_pos (show (20 : Int32) ≤ nI 20 from Int32.le_refl _)]
  | succ d ih =>
    intro i fu om hi hf hw hI
    obtain ⟨fu, rfl⟩ : ∃ n, fu = n + 1 := ⟨fu - 1, by omega⟩
    have hw' := hw
    obtain ⟨w1, w2, w3⟩ := hw'
    have d4 : nI i / 4 = nI (i / 4) := z_div (b := 4) (by omega) (by omega) (by omega)
    obtain ⟨om2, e2, c2, c3, c4⟩ := ih (i + 1) fu (om.1, va_up om.2 1 (upd (om.2 1) (i / 4) ((om.2 1 (i / 4) <<< ((8 : Int32) &&& 31)) ||| nI (ch L (k + i))))) (by omega) (by omega) ⟨w1, w2, fun j hj => by dsimp only; rw [z_vn (by omega)]; exact w3 j hj⟩ (by dsimp only; rw [z_vs]; exact hI.step hB (by omega))
    refine ⟨om2, ?_, c2, c3, c4⟩
    simp only [F_L_feeds_12, d4, w1]
    rw [if_neg (show ¬ (20 : Int32) ≤ nI i from nI_ge (b := 20) (by omega) (by omega)), z_ald (by omega) (by omega), z_bsN, nI_add]
    by_cases c : k + i < L.length
    · rw [if_neg (nI_ge c (by omega)), z_ald (by omega) (by omega), z_bsN, w3 _ c, z_ast (by omega) (by omega), z_bsN, z_leN, nI_1]
      rw [show ch L (k + i) = L.getD (k + i) 0 from if_pos c] at e2
      exact e2
    · rw [if_pos (nI_le (by omega) (by omega)), z_ast (by omega) (by omega), z_bsN, z_leN, nI_1]
      rw [show ch L (k + i) = 32 from if_neg c] at e2
      exact e2
theorem FE_out (hB : AllB L) (hl : L.length ≤ 480) : ∀ (d t fu : Nat) (om ot : ob), L.length ≤ 20 * t + 20 * d → d < fu → 20 * t ≤ 480 + 20 → WT om L → AB L (20 * t) ot → ∃ (S : Nat) (om2 ot2 : ob) (y : Int32), F_L_feeds_2 oB fu om ot (nI (20 * t)) = some (y, om2, ot2) ∧ WT om2 L ∧ om2.1 = om.1 ∧ AB L S ot2 ∧ L.length ≤ S ∧ S ≤ 500 := by
  intro d
  induction d with
  | zero =>
    intro t fu om ot hd hf ht hw hA
    obtain ⟨fu, rfl⟩ : ∃ n, fu = n + 1 := ⟨fu - 1, by omega⟩
    refine ⟨20 * t, om, ot, nI (20 * t), ?_, hw, rfl, hA, by omega, by omega⟩
    simp only [F_L_feeds_2, hw.1]
    rw [if_pos (nI_le (by omega) (by omega))]
  | succ d ih =>
    intro t fu om ot hd hf ht hw hA
    obtain ⟨fu, rfl⟩ : ∃ n, fu = n + 1 := ⟨fu - 1, by omega⟩
    by_cases c : L.length ≤ 20 * t
    · refine ⟨20 * t, om, ot, nI (20 * t), ?_, hw, rfl, hA, c, by omega⟩
      simp only [F_L_feeds_2, hw.1]
      rw [if_pos (nI_le c (by omega))]
    · obtain ⟨om2, e2, w2, i2, k2⟩ := FE_in (ot := ot) (oB := oB) (k := 20 * t) hB (by omega) 20 0 100000 om (by omega) (by omega) hw WI0
      have e2 : F_L_feeds_12 oB (nI (20 * t)) 100000 om ot 0 = _ := e2
      have hwd : ∀ m : Nat, m < 5 → bN (om2.2 1 m) = Pv L (20 * t + 4 * m) 4 := fun m hm => by
        have := i2 m hm
        rw [show min 4 (20 - 4 * m) = 4 by omega] at this
        rw [← this]
        exact (Nat.mod_eq_of_lt (om2.2 1 m).toBitVec.isLt).symm
      obtain ⟨o1, a1, b1⟩ := A_word hB hA (by omega) (hwd 0 (by omega))
      obtain ⟨o2, a2, b2⟩ := A_word hB b1 (by omega) (hwd 1 (by omega))
      obtain ⟨o3, a3, b3⟩ := A_word hB b2 (by omega) (hwd 2 (by omega))
      obtain ⟨o4, a4, b4⟩ := A_word hB b3 (by omega) (hwd 3 (by omega))
      obtain ⟨o5, a5, b5⟩ := A_word hB b4 (by omega) (hwd 4 (by omega))
      obtain ⟨S, om3, ot3, y, e3, f1, f2, f3, f4, f5⟩ := ih (t + 1) fu om2 o5 (by omega) (by omega) (by omega) w2 (by rw [show 20 * (t + 1) = 20 * t + 4 + 4 + 4 + 4 + 4 by omega]; exact b5)
      refine ⟨S, om3, ot3, y, ?_, f1, f2.trans k2, f3, f4, f5⟩
      have l0 : rx_ald 5 (om2.2 1) 0 = some (om2.2 1 0) := z_ald (i := 0) (by omega) (by omega)
      have l1 : rx_ald 5 (om2.2 1) 1 = some (om2.2 1 1) := z_ald (i := 1) (by omega) (by omega)
      have l2 : rx_ald 5 (om2.2 1) 2 = some (om2.2 1 2) := z_ald (i := 2) (by omega) (by omega)
      have l3 : rx_ald 5 (om2.2 1) 3 = some (om2.2 1 3) := z_ald (i := 3) (by omega) (by omega)
      have l4 : rx_ald 5 (om2.2 1) 4 = some (om2.2 1 4) := z_ald (i := 4) (by omega) (by omega)
      have ha : F_X8_appendText oB ot (om2.2 1 0) (om2.2 1 1) (om2.2 1 2) (om2.2 1 3) (om2.2 1 4) = some (o5.1 1, o5) := by
        simp only [F_X8_appendText, hA.1, a1, a2, a3, a4, a5, z_bsN]
        rw [if_pos (show nI (20 * t) ≤ (480 : Int32) from nI_le (b := 480) (by omega) (by omega))]
      simp only [F_L_feeds_2, hw.1]
      rw [if_neg (nI_ge (by omega) (by omega)), e2, z_bsN]
      simp only [l0, l1, l2, l3, l4, z_bsN, ha]
      rw [show nI (20 * t) + 20 = nI (20 * (t + 1)) from nI_add _ 20]
      exact e3
theorem FEED (hB : AllB L) (hl : L.length ≤ 480) (hw : WT om L) (h0 : ot.1 1 = 0) : ∃ (S : Nat) (om2 ot2 : ob), F_L_feeds om oB ot = some (nI L.length, om2, ot2) ∧ om2.1 3 = om.1 3 ∧ ot2.1 1 = nI S ∧ L.length ≤ S ∧ S ≤ 500 ∧ At (ot2.2 0) 0 L := by
  obtain ⟨S, om2, ot2, y, e2, w2, k2, a2, l2, l3⟩ := FE_out (oB := oB) hB hl 24 0 100000 om ot (by omega) (by omega) (by omega) hw ⟨h0, fun j hj => by omega⟩
  have e2 : F_L_feeds_2 oB 100000 om ot 0 = _ := e2
  refine ⟨S, (upd om2.1 2 0, om2.2), ot2, ?_, by dsimp only; rw [z_un (by omega), k2], a2.1, l2, l3, fun j hj => ?_⟩
  · simp only [F_L_feeds, e2, z_bsN, z_leN, w2.1]
  · rw [Nat.zero_add, a2.2 j (by omega), ch, if_pos hj]
end FEED
