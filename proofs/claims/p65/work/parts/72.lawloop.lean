/-! The law behind its loading. -/
theorem L_cell {k : Nat → Nat} {i : Nat} (hi : i < 2 ^ 31) : ∃ v : Nat, v < 2 ^ 30 ∧ F_L_cell k (nI i) = some (nI v) := by
  unfold F_L_cell
  by_cases c : nI (k 8) ≤ nI i
  · rw [if_pos c]
    exact ⟨0, by decide, rfl⟩
  · rw [if_neg c]
    have h8 : i < k 8 := Nat.not_le.mp fun q => c (nI_le q hi)
    have hx : rx_xld k (nI i) = some (nI (k (1000 + i))) := by
      unfold rx_xld
      rw [nI_clamp hi, if_pos ⟨nI_pos' hi, h8⟩]
    rw [hx, z_bsN]
    generalize nI (k (1000 + i)) = x
    have hb : (x &&& (1073741823 : Int32)).toBitVec.toNat ≤ 1073741823 := by
      rw [Int32.toBitVec_and, BitVec.toNat_and]
      exact Nat.and_le_right
    refine ⟨(x &&& (1073741823 : Int32)).toBitVec.toNat, by omega, ?_⟩
    rw [nI_back]
theorem LL {k : Nat → Nat} {P B C : Nat} {om oB ot od os : ob} (hm : om.1 3 = nI P) : ∀ (d j fu t J : Nat) (op ow oe : ob) (oH : hst) (g : Nat → Int32) (qw qe : List Nat), j + d = 19 → d < fu → t ≤ 3 * j → J ≤ 200 * j → RPos P B J os op ow oe g qw qe → XI P C g → g 0 = nI t → F_law_seg_36 k (nI C) fu om oB ot od os op ow oe oH (nI j) = some 1 := by
  intro d
  induction d with
  | zero =>
    intro j fu t J op ow oe oH g qw qe hj hf ht hJ h hx e0
    obtain ⟨fu, rfl⟩ : ∃ n, fu = n + 1 := ⟨fu - 1, by omega⟩
    obtain rfl : j = 19 := by omega
    simp only [F_law_seg_36]
    rw [if_pos (show (19 : Int32) ≤ nI 19 from Int32.le_refl _)]
  | succ d ih =>
    intro j fu t J op ow oe oH g qw qe hj hf ht hJ h hx e0
    obtain ⟨fu, rfl⟩ : ∃ n, fu = n + 1 := ⟨fu - 1, by omega⟩
    obtain ⟨v, hv, ev⟩ := L_cell (k := k) (i := j) (by omega)
    obtain ⟨r, op2, ow2, oe2, oH2, ea, t2, ht2, g2, qw2, qe2, h2, hx2, e2, hd⟩ := A_acts (oB := oB) (oH := oH) h hx e0 (by omega) (by omega) hm hv
    have hs := A_step h.1 h2.1 (by omega) (by omega) hd
    have hi := ih (j + 1) fu t2 (J + 200) op2 ow2 oe2 oH2 g2 qw2 qe2 (by omega) (by omega) (by omega) (by omega) h2 hx2 e2
    simp only [F_law_seg_36]
    rw [if_neg (show ¬ (19 : Int32) ≤ nI j from nI_ge (b := 19) (by omega) (by omega)), A_counted h, z_bsN, A_crossed h hm, z_bsN, ev, z_bsN, ea, z_bsN, A_coins h2 hx2 hm, z_bsN, if_pos rfl, A_gap h2 hx2, z_bsN, if_pos rfl, A_well h2 hx2 hm, z_bsN, if_neg (by decide), A_counted h2, z_bsN, if_neg hs.1, z_bsN, A_crossed h2 hm, z_bsN, nI_1]
    rcases hs.2 with q | q
    · rw [if_pos q]; exact hi
    · by_cases c : cnt P g2 ≤ cnt P g
      · rw [if_pos c]; exact hi
      · rw [if_neg c, if_neg q]; exact hi
