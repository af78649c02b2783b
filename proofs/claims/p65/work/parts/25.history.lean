/-! The history: eight Positions behind one another, by hand. -/
abbrev pos3 : Type := ob × ob × ob
abbrev hst : Type := ob × (Nat → pos3)
def bR (k : Nat → Nat) (q g : Nat) (o : Nat → pos3) (h : hp) : Prop := ∀ j : Nat, j < 8 → bP k (q + 16 * j) g (o j).1 h ∧ bQ k (q + 16 * j + 10) (o j).2.1 h ∧ bQ k (q + 16 * j + 13) (o j).2.2 h
def bHH (k : Nat → Nat) (q g : Nat) (o : hst) (h : hp) : Prop := bH k q o.1 h ∧ bR k (q + 2) g o.2 h
theorem rx_dis_sub {q z q1 z1 : Nat} {M : List (Nat × Nat)} (hd : rx_dis q z M) (h1 : q ≤ q1) (h2 : q1 + z1 ≤ q + z) : rx_dis q1 z1 M := by
  induction M with
  | nil => trivial
  | cons r M ih => exact ⟨by have := hd.1; omega, ih hd.2⟩
theorem bHH.keep {k : Nat → Nat} {q g : Nat} {o : hst} {h h1 : hp} {M : List (Nat × Nat)} (hb : bHH k q g o h) (hf : rx_fr M h h1) (hd : rx_dis q 130 M) : bHH k q g o h1 :=
  ⟨hb.1.keep hf (rx_dis_sub hd (by omega) (by omega)), fun j hj => ⟨(hb.2 j hj).1.keep hf (rx_dis_sub hd (by omega) (by omega)), (hb.2 j hj).2.1.keep hf (rx_dis_sub hd (by omega) (by omega)), (hb.2 j hj).2.2.keep hf (rx_dis_sub hd (by omega) (by omega))⟩⟩
def F_X1_clear (oH : hst) : Option hst := some ((upd oH.1.1 2 0, oH.1.2), oH.2)
def F_X1_push (oH : hst) (op ow oe : ob) : Option hst :=
  if oH.1.1 1 < 0 then some oH else if nI 8 ≤ oH.1.1 1 then some oH else
  (F_X2_copyFrom (oH.2 (oH.1.1 1).toNatClampNeg).1 (oH.2 (oH.1.1 1).toNatClampNeg).2.1 (oH.2 (oH.1.1 1).toNatClampNeg).2.2 op ow oe).bind fun y =>
  some ((upd (upd oH.1.1 1 (if 8 ≤ oH.1.1 1 + 1 then 0 else oH.1.1 1 + 1)) 2 (if oH.1.1 2 + 1 < 8 then oH.1.1 2 + 1 else 8), oH.1.2), va_up oH.2 (oH.1.1 1).toNatClampNeg y)
theorem rx_in8 {x : Int32} (h0 : ¬ x < 0) (h1 : ¬ nI 8 ≤ x) : vp_in x 8 ∧ x.toNatClampNeg < 8 := by
  have e0 : ¬ x.toInt < 0 := fun z => h0 (by rw [Int32.lt_iff_toInt_lt]; exact z)
  have e1 : ¬ (8 : Int) ≤ x.toInt := fun z => h1 (by rw [Int32.le_iff_toInt_le, nI_toInt (by decide)]; exact z)
  have e2 : x.toNatClampNeg = x.toInt.toNat := rfl
  refine ⟨fun q => ?_, by omega⟩
  rcases q with q | q
  · exact h0 q
  · omega
section HIS
variable {l : Launch} {G : va_G} {k : Nat → Nat} {h : hp} {n : Nat}
set_option maxRecDepth 100000 in
set_option maxHeartbeats 4000000 in
theorem w_X1_clear {q g : Nat} {oH y : hst} (hF : F_X1_clear oH = some y) (b_H : bHH k q g oH h) : Met l yX1_clear (rx_ws yX1_clear cX1_clear 1 none) (rx_rm 0 0) (va_Pc [.ref q] (rx_G G k h n)) (va_Qv (fun u => u.2 = n ∧ bHH k q g y u.1 ∧ rx_fr [(q, 130)] h u.1) (rx_B G k) (rx_A k)) 0 0 (rx_A k) := by
  refine rx_start [(0, .ref q)] rfl (Nat.le_of_ble_eq_true rfl) (by decide) rfl (fun P9 E9 S9 M9 A9 B9 me9 c9 C hname => ?_)
  unfold F_X1_clear at hF
  obtain rfl := Option.some.inj hF
  refine rx_aload_n C dX1_clear_0 0 rfl ?_
  refine rx_iconst C dX1_clear_1 0 (by decide) ?_
  refine rx_pH2 C f_X1_20 dX1_clear_2 b_H.1 rfl (fun hh c_H ff => ?_)
  exact rx_vret C dX1_clear_5 (Nat.le_refl _) (Nat.le_refl _) ⟨rfl, ⟨c_H, fun j hj => ⟨(b_H.2 j hj).1.keep ff ⟨by omega, trivial⟩, (b_H.2 j hj).2.1.keep ff ⟨by omega, trivial⟩, (b_H.2 j hj).2.2.keep ff ⟨by omega, trivial⟩⟩⟩, rx_frt rx_fr0 ff (fun a ha => ⟨by have := ha.1; dsimp only at this ⊢; omega, trivial⟩)⟩
set_option maxRecDepth 100000 in
set_option maxHeartbeats 4000000 in
theorem w_X1_push {hs g q g2 : Nat} {oH : hst} {op ow oe : ob} {y : hst} (hF : F_X1_push oH op ow oe = some y) (b_H : bHH k hs g oH h) (b_p : bP k q g2 op h) (b_w : bQ k (q + 10) ow h) (b_e : bQ k (q + 13) oe h) (hd : hs + 130 ≤ q ∨ q + 16 ≤ hs) : Met l yX1_push (rx_ws yX1_push cX1_push 3 none) (rx_rm 4 103) (va_Pc [.ref hs, .ref q] (rx_G G k h n)) (va_Qv (fun u => u.2 = n ∧ bHH k hs g y u.1 ∧ rx_fr [(hs, 130)] h u.1) (rx_B G k) (rx_A k)) 0 0 (rx_A k) := by
  refine rx_start [(0, .ref hs), (1, .ref q)] rfl (Nat.le_of_ble_eq_true rfl) (by decide) rfl (fun P9 E9 S9 M9 A9 B9 me9 c9 C hname => ?_)
  unfold F_X1_push at hF
  refine rx_aload_n C dX1_push_0 0 rfl ?_
  refine rx_getf C f_X1_24 dX1_push_1 b_H.1.1 rfl ?_
  refine rx_if_lt C dX1_push_4 19 (by decide) (fun c1 => ?_) (fun c1 => ?_)
  · rw [if_pos c1] at hF
    obtain rfl := Option.some.inj hF
    exact rx_vret C dX1_push_19 (Nat.le_refl _) (Nat.le_refl _) ⟨rfl, b_H, rx_fr0⟩
  rw [if_neg c1] at hF
  refine rx_aload_n C dX1_push_7 0 rfl ?_
  refine rx_getf C f_X1_24 dX1_push_8 b_H.1.1 rfl ?_
  refine rx_aload_n C dX1_push_11 0 rfl ?_
  refine rx_getf C f_X1_11 dX1_push_12 b_H.1.1 rfl ?_
  refine rx_alen C 2 rfl dX1_push_15 b_H.1.2 ?_
  refine rx_icmp_lt C dX1_push_16 20 (by decide) (fun c2 => ?_) (fun c2 => ?_)
  rotate_left
  · rw [if_pos (Int32.not_lt.mp c2)] at hF
    obtain rfl := Option.some.inj hF
    exact rx_vret C dX1_push_19 (Nat.le_refl _) (Nat.le_refl _) ⟨rfl, b_H, rx_fr0⟩
  have c3 : ¬ nI 8 ≤ oH.1.1 1 := Int32.not_le.mpr c2
  rw [if_neg c3] at hF
  obtain ⟨hin, hlt⟩ := rx_in8 c1 c3
  refine rx_aload_n C dX1_push_20 0 rfl ?_
  refine rx_getf C f_X1_11 dX1_push_21 b_H.1.1 rfl ?_
  refine rx_aload_n C dX1_push_24 0 rfl ?_
  refine rx_getf C f_X1_24 dX1_push_25 b_H.1.1 rfl ?_
  refine rx_qaldP C dX1_push_28 b_H.1.2 hin ?_
  generalize hj : (oH.1.1 1).toNatClampNeg = j at hF hlt ⊢
  have hslot := b_H.2 j hlt
  rw [if_pos hlt]
  show rx_W _ _ _ _ _ _ _ _ _ _ _ _ _ _ _ _ _ _ _ _ (.ref (hs + 2 + 16 * j) :: _)
  refine rx_astore_n C dX1_push_29 (by decide) [(2, .ref (hs + 2 + 16 * j)), (0, .ref hs), (1, .ref q)] rfl ?_
  refine rx_aload_n C dX1_push_30 0 rfl ?_
  refine rx_ifnull C dX1_push_31 ?_
  refine rx_aload_n C dX1_push_34 0 rfl ?_
  refine rx_aload_n C dX1_push_35 2 rfl ?_
  replace hF := rx_biE hF; obtain ⟨y1, e1, hF⟩ := hF
  refine rx_cv (rx_rVN C (w_X2_copyFrom e1 hslot.1 hslot.2.1 hslot.2.2 b_p b_w b_e (by omega)) Y_X2_copyFrom V_X2_copyFrom m_X1_27 (Or.inl ⟨_, _, _, _, hslot.1.1, rfl⟩) ⟨⟨rfl, rfl⟩, ⟨Nat.le_of_ble_eq_true rfl, Nat.le_of_ble_eq_true rfl⟩, ⟨Nat.le_of_ble_eq_true rfl, Nat.le_of_ble_eq_true rfl⟩⟩ rfl rfl (Nat.le_of_ble_eq_true rfl) dX1_push_36) (fun hh n1 hpp => ?_)
  obtain ⟨hn, c_p, c_w, c_e, ff⟩ := hpp
  replace hn : n = n1 := Eq.symm hn; subst hn
  replace ff : rx_fr [(hs + 2 + 16 * j, 10), (hs + 2 + 16 * j + 10, 3), (hs + 2 + 16 * j + 13, 3)] h hh := ff
  have b_H1 : bH k hs oH.1 hh := b_H.1.keep ff ⟨by omega, by omega, by omega, trivial⟩
  have b_R1 : bR k (hs + 2) g (va_up oH.2 j y1) hh := fun i hi => by
    by_cases e : i = j
    · subst e
      rw [va_up_self]
      exact ⟨c_p, c_w, c_e⟩
    · rw [va_up_ne _ _ e]
      have hb := b_H.2 i hi
      exact ⟨hb.1.keep ff ⟨by omega, by omega, by omega, trivial⟩, hb.2.1.keep ff ⟨by omega, by omega, by omega, trivial⟩, hb.2.2.keep ff ⟨by omega, by omega, by omega, trivial⟩⟩
  have fr : rx_fr [(hs, 130)] h hh := rx_frt rx_fr0 ff (fun a ha => ⟨by have := ha.1; dsimp only at this ⊢; omega, by have := ha.1; dsimp only at this ⊢; omega, by have := ha.1; dsimp only at this ⊢; omega, trivial⟩)
  obtain rfl := Option.some.inj hF
  clear hF c_p c_w c_e ff b_p b_w b_e hslot
  have fin : ∀ (v : Int32) (o1 : ob), (upd oH.1.1 1 v, oH.1.2) = o1 → v = (if 8 ≤ oH.1.1 1 + 1 then 0 else oH.1.1 1 + 1) → rx_W P9 l E9 (rx_rm 4 103) S9 M9 A9 B9 me9 c9 (MQ B9 (va_Qv (fun u => u.2 = n ∧ bHH k hs g ((upd (upd oH.1.1 1 (if 8 ≤ oH.1.1 1 + 1 then 0 else oH.1.1 1 + 1)) 2 (if oH.1.1 2 + 1 < 8 then oH.1.1 2 + 1 else 8), oH.1.2), va_up oH.2 j y1) u.1 ∧ rx_fr [(hs, 130)] h u.1) (rx_B G k) (rx_A k)) A9 S9 0 0 (rx_A k)) G k 3 (0 + 0) (0 + 0) hh n 61 [(2, .ref (hs + 2 + 16 * j)), (0, .ref hs), (1, .ref q)] [.int v, .ref hs] := by
    intro v o1 ho hv
    refine rx_pH1 C f_X1_24 dX1_push_61 b_H1 ho (fun h2 b_H2 ff2 => ?_)
    refine rx_aload_n C dX1_push_64 1 rfl ?_
    refine rx_bipush C dX1_push_65 8 (by decide) ?_
    refine rx_aload_n C dX1_push_67 1 rfl ?_
    refine rx_getf C f_X1_20 dX1_push_68 b_H2.1 rfl ?_
    refine rx_iconst C dX1_push_71 1 (by decide) ?_
    refine rx_iadd C dX1_push_72 ?_
    refine rx_mmin C m_X1_31 (Nat.le_of_ble_eq_true rfl) (Nat.le_of_ble_eq_true rfl) (Nat.zero_le _) (Nat.zero_le _) dX1_push_73 ?_
    refine rx_pH2 C f_X1_20 dX1_push_76 b_H2 rfl (fun h3 b_H3 ff3 => ?_)
    subst ho
    subst hv
    refine rx_vret C dX1_push_79 (Nat.le_refl _) (Nat.le_refl _) ⟨rfl, ⟨b_H3, fun i hi => ?_⟩, ?_⟩
    · have hb := b_R1 i hi
      exact ⟨(hb.1.keep ff2 ⟨by omega, trivial⟩).keep ff3 ⟨by omega, trivial⟩, (hb.2.1.keep ff2 ⟨by omega, trivial⟩).keep ff3 ⟨by omega, trivial⟩, (hb.2.2.keep ff2 ⟨by omega, trivial⟩).keep ff3 ⟨by omega, trivial⟩⟩
    · exact rx_frt (rx_frt fr ff2 (fun a ha => ⟨by have := ha.1; dsimp only at this ⊢; omega, trivial⟩)) ff3 (fun a ha => ⟨by have := ha.1; dsimp only at this ⊢; omega, trivial⟩)
  refine rx_aload_n C dX1_push_39 1 rfl ?_
  refine rx_aload_n C dX1_push_40 1 rfl ?_
  refine rx_getf C f_X1_24 dX1_push_41 b_H1.1 rfl ?_
  refine rx_iconst C dX1_push_44 1 (by decide) ?_
  refine rx_iadd C dX1_push_45 ?_
  refine rx_bipush C dX1_push_46 8 (by decide) ?_
  refine rx_icmp_ge C dX1_push_48 60 (by decide) (fun c4 => ?_) (fun c4 => ?_)
  · refine rx_iconst C dX1_push_60 0 (by decide) ?_
    exact fin _ _ rfl (by rw [if_pos c4])
  · refine rx_aload_n C dX1_push_51 1 rfl ?_
    refine rx_getf C f_X1_24 dX1_push_52 b_H1.1 rfl ?_
    refine rx_iconst C dX1_push_55 1 (by decide) ?_
    refine rx_iadd C dX1_push_56 ?_
    refine rx_goto C dX1_push_57 61 (by decide) ?_
    exact fin _ _ rfl (by rw [if_neg c4])
end HIS
