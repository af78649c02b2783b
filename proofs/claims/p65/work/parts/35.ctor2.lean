/-! The two outer constructors: the fresh blocks, then a walk over them. -/
section RXJ
variable {l : Launch} {G : va_G} {k : Nat → Nat} {h : hp} {n : Nat}
def F_X8_init_seg (oB : ob) (os : ob) (op : ob) (ow : ob) (oe : ob) : Option (ob × ob × ob × ob) := (F_X5_begin os ((30 : Int32)) ((4 : Int32)) ((9 : Int32)) ((2 : Int32))).bind fun y1 => (F_X5_addPerson y1 ((1 : Int32)) ((0 : Int32)) ((40 : Int32)) ((10 : Int32)) ((20 : Int32))).bind fun y2 => (F_X5_addPerson y2 ((0 : Int32)) ((0 : Int32)) ((12 : Int32)) ((0 : Int32)) ((5 : Int32))).bind fun y3 => (F_X5_addPerson y3 ((0 : Int32)) ((0 : Int32)) ((3 : Int32)) ((5 : Int32)) ((40 : Int32))).bind fun y4 => (F_X5_addPerson y4 ((1 : Int32)) ((1 : Int32)) ((25 : Int32)) ((30 : Int32)) ((0 : Int32))).bind fun y5 => (F_X5_addPerson y5 ((0 : Int32)) ((1 : Int32)) ((9 : Int32)) ((20 : Int32)) ((15 : Int32))).bind fun y6 => (F_X5_addBridge y6 ((1 : Int32)) ((0 : Int32)) ((1 : Int32))).bind fun y7 => (F_X5_addBridge y7 ((3 : Int32)) ((1 : Int32)) ((2 : Int32))).bind fun y8 => (F_X2_begin op ow oe y8).bind fun y9 => some (y8, y9.1, y9.2.1, y9.2.2)
set_option maxRecDepth 100000 in
set_option maxHeartbeats 4000000 in
theorem w_X8_init_seg {P9 : Program} {E9 : Env} {S9 : State} {M9 : MethodId} {A9 : Array Value} {B9 : List Frame} {me9 : Method} {c9 : Code} {Q9 : State → Prop} {b : Nat} {oB : ob} {os : ob} {op : ob} {ow : ob} {oe : ob} {y : ob × ob × ob × ob} (hF : F_X8_init_seg oB os op ow oe = some y) (C : rx_C G k P9 M9 c9 cX8_init yX8_init.cls 1 none S9 A9 me9) (b_B : bB k b oB h) (b_s : bS k (b + 12) os h) (b_p : bP k (b + 21) (b + 12) op h) (b_w : bQ k (b + 21 + 10) ow h) (b_e : bQ k (b + 21 + 13) oe h) (KK : ∀ hh : hp, bS k (b + 12) y.1 hh → bP k (b + 21) (b + 12) y.2.1 hh → bQ k (b + 21 + 10) y.2.2.1 hh → bQ k (b + 21 + 13) y.2.2.2 hh → rx_fr [(b + 12, 9), (b + 21, 10), (b + 21 + 10, 3), (b + 21 + 13, 3)] h hh → rx_W P9 l E9 (rx_rmX 4 82 203 2373) S9 M9 A9 B9 me9 c9 Q9 G k 1 203 2373 hh n 226 [(0, .ref b)] []) : rx_W P9 l E9 (rx_rmX 4 82 203 2373) S9 M9 A9 B9 me9 c9 Q9 G k 1 203 2373 h n 116 [(0, .ref b)] [] := by
  have s_B_s : b + 1 ≤ b + 12 ∨ b + 12 + 9 ≤ b := by omega
  have s_p_s : b + 21 + 10 ≤ b + 12 ∨ b + 12 + 9 ≤ b + 21 := by omega
  have s_w_s : b + 21 + 10 + 3 ≤ b + 12 ∨ b + 12 + 9 ≤ b + 21 + 10 := by omega
  have s_e_s : b + 21 + 13 + 3 ≤ b + 12 ∨ b + 12 + 9 ≤ b + 21 + 13 := by omega
  have s_B_p : b + 1 ≤ b + 21 ∨ b + 21 + 10 ≤ b := by omega
  have s_B_w : b + 1 ≤ b + 21 + 10 ∨ b + 21 + 10 + 3 ≤ b := by omega
  have s_B_e : b + 1 ≤ b + 21 + 13 ∨ b + 21 + 13 + 3 ≤ b := by omega
  have s_s_p : b + 12 + 9 ≤ b + 21 ∨ b + 21 + 10 ≤ b + 12 := by omega
  have s_s_w : b + 12 + 9 ≤ b + 21 + 10 ∨ b + 21 + 10 + 3 ≤ b + 12 := by omega
  have s_s_e : b + 12 + 9 ≤ b + 21 + 13 ∨ b + 21 + 13 + 3 ≤ b + 12 := by omega
  unfold F_X8_init_seg at hF
  have fr : rx_fr [(b + 12, 9), (b + 21, 10), (b + 21 + 10, 3), (b + 21 + 13, 3)] h h := rx_fr0
  refine rx_aload_n C dX8_init_116 0 rfl ?_
  refine rx_getf C f_X8_23 dX8_init_117 b_B rfl ?_
  refine rx_bipush C dX8_init_120 (30 : Int32) (by decide) ?_
  refine rx_iconst C dX8_init_122 (4 : Int32) (by decide) ?_
  refine rx_bipush C dX8_init_123 (9 : Int32) (by decide) ?_
  refine rx_iconst C dX8_init_125 (2 : Int32) (by decide) ?_
  replace hF := rx_biE hF; obtain ⟨y1, e_y1, hF⟩ := hF
  refine rx_cv (rx_rVN C (w_X5_begin e_y1 b_s) Y_X5_begin V_X5_begin m_X8_59 (Or.inl ⟨_, _, _, _, b_s.1, rfl⟩) ⟨⟨rfl, rfl⟩, ⟨(Nat.le_of_ble_eq_true rfl), (Nat.le_of_ble_eq_true rfl)⟩, ⟨(Nat.le_of_ble_eq_true rfl), (Nat.le_of_ble_eq_true rfl)⟩⟩ rfl rfl (Nat.le_of_ble_eq_true rfl) dX8_init_126) (fun hh n1 hpp => ?_)
  obtain ⟨hn, c_s, ff⟩ := hpp
  replace hn : n = n1 := Eq.symm hn
  subst hn
  replace b_s : bS k (b + 12) y1 hh := c_s
  clear c_s
  replace ff : rx_fr [(b + 12, 9)] _ hh := ff
  replace b_B := b_B.keep ff ⟨s_B_s, trivial⟩
  replace b_p := b_p.keep ff ⟨s_p_s, trivial⟩
  replace b_w := b_w.keep ff ⟨s_w_s, trivial⟩
  replace b_e := b_e.keep ff ⟨s_e_s, trivial⟩
  replace fr := rx_frt fr ff (fun a ha => ⟨ha.1, trivial⟩)
  refine rx_aload_n C dX8_init_129 0 rfl ?_
  refine rx_getf C f_X8_23 dX8_init_130 b_B rfl ?_
  refine rx_iconst C dX8_init_133 (1 : Int32) (by decide) ?_
  refine rx_iconst C dX8_init_134 (0 : Int32) (by decide) ?_
  refine rx_bipush C dX8_init_135 (40 : Int32) (by decide) ?_
  refine rx_bipush C dX8_init_137 (10 : Int32) (by decide) ?_
  refine rx_bipush C dX8_init_139 (20 : Int32) (by decide) ?_
  replace hF := rx_biE hF; obtain ⟨y2, e_y2, hF⟩ := hF
  refine rx_cv (rx_rVN C (w_X5_addPerson e_y2 b_s) Y_X5_addPerson V_X5_addPerson m_X8_63 (Or.inl ⟨_, _, _, _, b_s.1, rfl⟩) ⟨⟨rfl, rfl⟩, ⟨(Nat.le_of_ble_eq_true rfl), (Nat.le_of_ble_eq_true rfl)⟩, ⟨(Nat.le_of_ble_eq_true rfl), (Nat.le_of_ble_eq_true rfl)⟩⟩ rfl rfl (Nat.le_of_ble_eq_true rfl) dX8_init_141) (fun hh n1 hpp => ?_)
  obtain ⟨hn, c_s, ff⟩ := hpp
  replace hn : n = n1 := Eq.symm hn
  subst hn
  replace b_s : bS k (b + 12) y2 hh := c_s
  clear c_s
  replace ff : rx_fr [(b + 12, 9)] _ hh := ff
  replace b_B := b_B.keep ff ⟨s_B_s, trivial⟩
  replace b_p := b_p.keep ff ⟨s_p_s, trivial⟩
  replace b_w := b_w.keep ff ⟨s_w_s, trivial⟩
  replace b_e := b_e.keep ff ⟨s_e_s, trivial⟩
  replace fr := rx_frt fr ff (fun a ha => ⟨ha.1, trivial⟩)
  refine rx_aload_n C dX8_init_144 0 rfl ?_
  refine rx_getf C f_X8_23 dX8_init_145 b_B rfl ?_
  refine rx_iconst C dX8_init_148 (0 : Int32) (by decide) ?_
  refine rx_iconst C dX8_init_149 (0 : Int32) (by decide) ?_
  refine rx_bipush C dX8_init_150 (12 : Int32) (by decide) ?_
  refine rx_iconst C dX8_init_152 (0 : Int32) (by decide) ?_
  refine rx_iconst C dX8_init_153 (5 : Int32) (by decide) ?_
  replace hF := rx_biE hF; obtain ⟨y3, e_y3, hF⟩ := hF
  refine rx_cv (rx_rVN C (w_X5_addPerson e_y3 b_s) Y_X5_addPerson V_X5_addPerson m_X8_63 (Or.inl ⟨_, _, _, _, b_s.1, rfl⟩) ⟨⟨rfl, rfl⟩, ⟨(Nat.le_of_ble_eq_true rfl), (Nat.le_of_ble_eq_true rfl)⟩, ⟨(Nat.le_of_ble_eq_true rfl), (Nat.le_of_ble_eq_true rfl)⟩⟩ rfl rfl (Nat.le_of_ble_eq_true rfl) dX8_init_154) (fun hh n1 hpp => ?_)
  obtain ⟨hn, c_s, ff⟩ := hpp
  replace hn : n = n1 := Eq.symm hn
  subst hn
  replace b_s : bS k (b + 12) y3 hh := c_s
  clear c_s
  replace ff : rx_fr [(b + 12, 9)] _ hh := ff
  replace b_B := b_B.keep ff ⟨s_B_s, trivial⟩
  replace b_p := b_p.keep ff ⟨s_p_s, trivial⟩
  replace b_w := b_w.keep ff ⟨s_w_s, trivial⟩
  replace b_e := b_e.keep ff ⟨s_e_s, trivial⟩
  replace fr := rx_frt fr ff (fun a ha => ⟨ha.1, trivial⟩)
  refine rx_aload_n C dX8_init_157 0 rfl ?_
  refine rx_getf C f_X8_23 dX8_init_158 b_B rfl ?_
  refine rx_iconst C dX8_init_161 (0 : Int32) (by decide) ?_
  refine rx_iconst C dX8_init_162 (0 : Int32) (by decide) ?_
  refine rx_iconst C dX8_init_163 (3 : Int32) (by decide) ?_
  refine rx_iconst C dX8_init_164 (5 : Int32) (by decide) ?_
  refine rx_bipush C dX8_init_165 (40 : Int32) (by decide) ?_
  replace hF := rx_biE hF; obtain ⟨y4, e_y4, hF⟩ := hF
  refine rx_cv (rx_rVN C (w_X5_addPerson e_y4 b_s) Y_X5_addPerson V_X5_addPerson m_X8_63 (Or.inl ⟨_, _, _, _, b_s.1, rfl⟩) ⟨⟨rfl, rfl⟩, ⟨(Nat.le_of_ble_eq_true rfl), (Nat.le_of_ble_eq_true rfl)⟩, ⟨(Nat.le_of_ble_eq_true rfl), (Nat.le_of_ble_eq_true rfl)⟩⟩ rfl rfl (Nat.le_of_ble_eq_true rfl) dX8_init_167) (fun hh n1 hpp => ?_)
  obtain ⟨hn, c_s, ff⟩ := hpp
  replace hn : n = n1 := Eq.symm hn
  subst hn
  replace b_s : bS k (b + 12) y4 hh := c_s
  clear c_s
  replace ff : rx_fr [(b + 12, 9)] _ hh := ff
  replace b_B := b_B.keep ff ⟨s_B_s, trivial⟩
  replace b_p := b_p.keep ff ⟨s_p_s, trivial⟩
  replace b_w := b_w.keep ff ⟨s_w_s, trivial⟩
  replace b_e := b_e.keep ff ⟨s_e_s, trivial⟩
  replace fr := rx_frt fr ff (fun a ha => ⟨ha.1, trivial⟩)
  refine rx_aload_n C dX8_init_170 0 rfl ?_
  refine rx_getf C f_X8_23 dX8_init_171 b_B rfl ?_
  refine rx_iconst C dX8_init_174 (1 : Int32) (by decide) ?_
  refine rx_iconst C dX8_init_175 (1 : Int32) (by decide) ?_
  refine rx_bipush C dX8_init_176 (25 : Int32) (by decide) ?_
  refine rx_bipush C dX8_init_178 (30 : Int32) (by decide) ?_
  refine rx_iconst C dX8_init_180 (0 : Int32) (by decide) ?_
  replace hF := rx_biE hF; obtain ⟨y5, e_y5, hF⟩ := hF
  refine rx_cv (rx_rVN C (w_X5_addPerson e_y5 b_s) Y_X5_addPerson V_X5_addPerson m_X8_63 (Or.inl ⟨_, _, _, _, b_s.1, rfl⟩) ⟨⟨rfl, rfl⟩, ⟨(Nat.le_of_ble_eq_true rfl), (Nat.le_of_ble_eq_true rfl)⟩, ⟨(Nat.le_of_ble_eq_true rfl), (Nat.le_of_ble_eq_true rfl)⟩⟩ rfl rfl (Nat.le_of_ble_eq_true rfl) dX8_init_181) (fun hh n1 hpp => ?_)
  obtain ⟨hn, c_s, ff⟩ := hpp
  replace hn : n = n1 := Eq.symm hn
  subst hn
  replace b_s : bS k (b + 12) y5 hh := c_s
  clear c_s
  replace ff : rx_fr [(b + 12, 9)] _ hh := ff
  replace b_B := b_B.keep ff ⟨s_B_s, trivial⟩
  replace b_p := b_p.keep ff ⟨s_p_s, trivial⟩
  replace b_w := b_w.keep ff ⟨s_w_s, trivial⟩
  replace b_e := b_e.keep ff ⟨s_e_s, trivial⟩
  replace fr := rx_frt fr ff (fun a ha => ⟨ha.1, trivial⟩)
  refine rx_aload_n C dX8_init_184 0 rfl ?_
  refine rx_getf C f_X8_23 dX8_init_185 b_B rfl ?_
  refine rx_iconst C dX8_init_188 (0 : Int32) (by decide) ?_
  refine rx_iconst C dX8_init_189 (1 : Int32) (by decide) ?_
  refine rx_bipush C dX8_init_190 (9 : Int32) (by decide) ?_
  refine rx_bipush C dX8_init_192 (20 : Int32) (by decide) ?_
  refine rx_bipush C dX8_init_194 (15 : Int32) (by decide) ?_
  replace hF := rx_biE hF; obtain ⟨y6, e_y6, hF⟩ := hF
  refine rx_cv (rx_rVN C (w_X5_addPerson e_y6 b_s) Y_X5_addPerson V_X5_addPerson m_X8_63 (Or.inl ⟨_, _, _, _, b_s.1, rfl⟩) ⟨⟨rfl, rfl⟩, ⟨(Nat.le_of_ble_eq_true rfl), (Nat.le_of_ble_eq_true rfl)⟩, ⟨(Nat.le_of_ble_eq_true rfl), (Nat.le_of_ble_eq_true rfl)⟩⟩ rfl rfl (Nat.le_of_ble_eq_true rfl) dX8_init_196) (fun hh n1 hpp => ?_)
  obtain ⟨hn, c_s, ff⟩ := hpp
  replace hn : n = n1 := Eq.symm hn
  subst hn
  replace b_s : bS k (b + 12) y6 hh := c_s
  clear c_s
  replace ff : rx_fr [(b + 12, 9)] _ hh := ff
  replace b_B := b_B.keep ff ⟨s_B_s, trivial⟩
  replace b_p := b_p.keep ff ⟨s_p_s, trivial⟩
  replace b_w := b_w.keep ff ⟨s_w_s, trivial⟩
  replace b_e := b_e.keep ff ⟨s_e_s, trivial⟩
  replace fr := rx_frt fr ff (fun a ha => ⟨ha.1, trivial⟩)
  refine rx_aload_n C dX8_init_199 0 rfl ?_
  refine rx_getf C f_X8_23 dX8_init_200 b_B rfl ?_
  refine rx_iconst C dX8_init_203 (1 : Int32) (by decide) ?_
  refine rx_iconst C dX8_init_204 (0 : Int32) (by decide) ?_
  refine rx_iconst C dX8_init_205 (1 : Int32) (by decide) ?_
  replace hF := rx_biE hF; obtain ⟨y7, e_y7, hF⟩ := hF
  refine rx_cv (rx_rVN C (w_X5_addBridge e_y7 b_s) Y_X5_addBridge V_X5_addBridge m_X8_67 (Or.inl ⟨_, _, _, _, b_s.1, rfl⟩) ⟨⟨rfl, rfl⟩, ⟨(Nat.le_of_ble_eq_true rfl), (Nat.le_of_ble_eq_true rfl)⟩, ⟨(Nat.le_of_ble_eq_true rfl), (Nat.le_of_ble_eq_true rfl)⟩⟩ rfl rfl (Nat.le_of_ble_eq_true rfl) dX8_init_206) (fun hh n1 hpp => ?_)
  obtain ⟨hn, c_s, ff⟩ := hpp
  replace hn : n = n1 := Eq.symm hn
  subst hn
  replace b_s : bS k (b + 12) y7 hh := c_s
  clear c_s
  replace ff : rx_fr [(b + 12, 9)] _ hh := ff
  replace b_B := b_B.keep ff ⟨s_B_s, trivial⟩
  replace b_p := b_p.keep ff ⟨s_p_s, trivial⟩
  replace b_w := b_w.keep ff ⟨s_w_s, trivial⟩
  replace b_e := b_e.keep ff ⟨s_e_s, trivial⟩
  replace fr := rx_frt fr ff (fun a ha => ⟨ha.1, trivial⟩)
  refine rx_aload_n C dX8_init_209 0 rfl ?_
  refine rx_getf C f_X8_23 dX8_init_210 b_B rfl ?_
  refine rx_iconst C dX8_init_213 (3 : Int32) (by decide) ?_
  refine rx_iconst C dX8_init_214 (1 : Int32) (by decide) ?_
  refine rx_iconst C dX8_init_215 (2 : Int32) (by decide) ?_
  replace hF := rx_biE hF; obtain ⟨y8, e_y8, hF⟩ := hF
  refine rx_cv (rx_rVN C (w_X5_addBridge e_y8 b_s) Y_X5_addBridge V_X5_addBridge m_X8_67 (Or.inl ⟨_, _, _, _, b_s.1, rfl⟩) ⟨⟨rfl, rfl⟩, ⟨(Nat.le_of_ble_eq_true rfl), (Nat.le_of_ble_eq_true rfl)⟩, ⟨(Nat.le_of_ble_eq_true rfl), (Nat.le_of_ble_eq_true rfl)⟩⟩ rfl rfl (Nat.le_of_ble_eq_true rfl) dX8_init_216) (fun hh n1 hpp => ?_)
  obtain ⟨hn, c_s, ff⟩ := hpp
  replace hn : n = n1 := Eq.symm hn
  subst hn
  replace b_s : bS k (b + 12) y8 hh := c_s
  clear c_s
  replace ff : rx_fr [(b + 12, 9)] _ hh := ff
  replace b_B := b_B.keep ff ⟨s_B_s, trivial⟩
  replace b_p := b_p.keep ff ⟨s_p_s, trivial⟩
  replace b_w := b_w.keep ff ⟨s_w_s, trivial⟩
  replace b_e := b_e.keep ff ⟨s_e_s, trivial⟩
  replace fr := rx_frt fr ff (fun a ha => ⟨ha.1, trivial⟩)
  refine rx_aload_n C dX8_init_219 0 rfl ?_
  refine rx_getf C f_X8_31 dX8_init_220 b_B rfl ?_
  replace hF := rx_biE hF; obtain ⟨y9, e_y9, hF⟩ := hF
  refine rx_cv (rx_rVN C (w_X2_begin e_y9 b_p b_w b_e b_s (by omega)) Y_X2_begin V_X2_begin m_X8_71 (Or.inl ⟨_, _, _, _, b_p.1, rfl⟩) ⟨⟨rfl, rfl⟩, ⟨(Nat.le_of_ble_eq_true rfl), (Nat.le_of_ble_eq_true rfl)⟩, ⟨(Nat.le_of_ble_eq_true rfl), (Nat.le_of_ble_eq_true rfl)⟩⟩ rfl rfl (Nat.le_of_ble_eq_true rfl) dX8_init_223) (fun hh n1 hpp => ?_)
  obtain ⟨hn, c_p, c_w, c_e, ff⟩ := hpp
  replace hn : n = n1 := Eq.symm hn
  subst hn
  replace b_p : bP k (b + 21) (b + 12) y9.1 hh := c_p
  clear c_p
  replace b_w : bQ k (b + 21 + 10) y9.2.1 hh := c_w
  clear c_w
  replace b_e : bQ k (b + 21 + 13) y9.2.2 hh := c_e
  clear c_e
  replace ff : rx_fr [(b + 21, 10), (b + 21 + 10, 3), (b + 21 + 13, 3)] _ hh := ff
  replace b_B := b_B.keep ff ⟨s_B_p, s_B_w, s_B_e, trivial⟩
  replace b_s := b_s.keep ff ⟨s_s_p, s_s_w, s_s_e, trivial⟩
  replace fr := rx_frt fr ff (fun a ha => ⟨ha.2.1, ha.2.2.1, ha.2.2.2.1, trivial⟩)
  obtain rfl := Option.some.inj hF
  refine rx_sub [0] rfl ?_
  exact KK _ b_s b_p b_w b_e fr
set_option maxRecDepth 100000 in
set_option maxHeartbeats 4000000 in
theorem w_X8_init {q : Nat} {y : ob × ob × ob × ob} (hF : F_X8_init_seg ob0 ob0 ob0 ob0 ob0 = some y) (e_0 : h q = some (.inr (7, [.null, .null, .null, .null, .null, .null, .null, .null, .null, .int 0, .int 0]))) : Met l yX8_init (rx_ws yX8_init cX8_init 1 none) (rx_rmX 4 82 203 2373) (va_Pc [.ref q] (rx_G G k h (q + 1))) (va_Qv (fun u => u.2 = q + 204 ∧ bB k q ob0 u.1 ∧ bT k (q + 1) obt0 u.1 ∧ bS k (q + 3) ob0 u.1 ∧ bS k (q + 12) y.1 u.1 ∧ bP k (q + 21) (q + 12) y.2.1 u.1 ∧ bQ k (q + 31) y.2.2.1 u.1 ∧ bQ k (q + 34) y.2.2.2 u.1 ∧ bP k (q + 37) (q + 12) ob0 u.1 ∧ bQ k (q + 47) ob0 u.1 ∧ bQ k (q + 50) ob0 u.1 ∧ bP k (q + 53) (q + 12) ob0 u.1 ∧ bQ k (q + 63) ob0 u.1 ∧ bQ k (q + 66) ob0 u.1 ∧ bHH k (q + 69) (q + 12) hst0 u.1 ∧ bC k (q + 199) obv0 u.1 ∧ bO k (q + 203) ob0 u.1 ∧ rx_fr [(q, 204)] h u.1) (rx_B G k) (rx_A k)) 203 2373 (rx_A k) := by
  refine rx_start [(0, .ref q)] rfl (Nat.le_of_ble_eq_true rfl) (by decide) rfl (fun P9 E9 S9 M9 A9 B9 me9 c9 C hname => ?_)
  replace hname : me9.name = "<init>" := hname
  have fr : rx_fr [(q, 204)] h h := rx_fr0
  refine rx_aload_n C dX8_init_0 0 rfl ?_
  refine rx_objI C mo_X8 dX8_init_1 (Nat.le_of_ble_eq_true rfl) (Nat.le_of_ble_eq_true rfl) ?_
  refine rx_aload_n C dX8_init_4 0 rfl ?_
  refine rx_new2 C N_X8_7 dX8_init_5 (Nat.le_of_ble_eq_true rfl) (Nat.le_of_ble_eq_true rfl) (fun h4 e_1 ff => ?_)
  replace e_0 := (ff _ ⟨by omega, trivial⟩).trans e_0
  replace fr := rx_frt fr ff (fun a ha => ⟨by have := ha.1; dsimp only at this ⊢; omega, trivial⟩)
  refine rx_dup C dX8_init_8 rfl ?_
  refine rx_cv (rx_rIN C (w_X6_init (q := q + 1) e_1) Y_X6_init I_X6_init rfl m_X8_9 ⟨⟨rfl, rfl⟩, ⟨(Nat.le_of_ble_eq_true rfl), (Nat.le_of_ble_eq_true rfl)⟩, ⟨(Nat.le_of_ble_eq_true rfl), (Nat.le_of_ble_eq_true rfl)⟩⟩ rfl rfl (Nat.le_of_ble_eq_true rfl) dX8_init_9) (fun h6 n1 hpp => ?_)
  obtain ⟨hn, b_1, ff⟩ := hpp
  replace hn : q + 3 = n1 := Eq.symm hn
  subst hn
  replace ff : rx_fr [(q + 1, 2)] _ h6 := ff
  replace e_0 := (ff _ ⟨by omega, trivial⟩).trans e_0
  replace fr := rx_frt fr ff (fun a ha => ⟨by have := ha.1; dsimp only at this ⊢; omega, trivial⟩)
  clear e_1
  refine rx_putfF2 C f_X8_10 t_X8_0 ⟨_, _, rfl⟩ hname dX8_init_12 e_0 (Nat.le_of_ble_eq_true rfl) rfl rfl (fs2 := [.ref (q + 1), .null, .null, .null, .null, .null, .null, .null, .null, .int 0, .int 0]) rfl (fun h7 e9 ff => ?_)
  replace e_0 := e9
  replace b_1 := b_1.keep ff ⟨by omega, trivial⟩
  replace fr := rx_frt fr ff (fun a ha => ⟨by have := ha.1; dsimp only at this ⊢; omega, trivial⟩)
  refine rx_aload_n C dX8_init_15 0 rfl ?_
  refine rx_new2 C N_X8_16 dX8_init_16 (Nat.le_of_ble_eq_true rfl) (Nat.le_of_ble_eq_true rfl) (fun h9 e_3 ff => ?_)
  replace e_0 := (ff _ ⟨by omega, trivial⟩).trans e_0
  replace b_1 := b_1.keep ff ⟨by omega, trivial⟩
  replace fr := rx_frt fr ff (fun a ha => ⟨by have := ha.1; dsimp only at this ⊢; omega, trivial⟩)
  refine rx_dup C dX8_init_19 rfl ?_
  refine rx_cv (rx_rIN C (w_X5_init (q := q + 3) e_3) Y_X5_init I_X5_init rfl m_X8_18 ⟨⟨rfl, rfl⟩, ⟨(Nat.le_of_ble_eq_true rfl), (Nat.le_of_ble_eq_true rfl)⟩, ⟨(Nat.le_of_ble_eq_true rfl), (Nat.le_of_ble_eq_true rfl)⟩⟩ rfl rfl (Nat.le_of_ble_eq_true rfl) dX8_init_20) (fun h11 n1 hpp => ?_)
  obtain ⟨hn, b_3, ff⟩ := hpp
  replace hn : q + 12 = n1 := Eq.symm hn
  subst hn
  replace ff : rx_fr [(q + 3, 9)] _ h11 := ff
  replace e_0 := (ff _ ⟨by omega, trivial⟩).trans e_0
  replace b_1 := b_1.keep ff ⟨by omega, trivial⟩
  replace fr := rx_frt fr ff (fun a ha => ⟨by have := ha.1; dsimp only at this ⊢; omega, trivial⟩)
  clear e_3
  refine rx_putfF2 C f_X8_19 t_X8_1 ⟨_, _, rfl⟩ hname dX8_init_23 e_0 (Nat.le_of_ble_eq_true rfl) rfl rfl (fs2 := [.ref (q + 1), .ref (q + 3), .null, .null, .null, .null, .null, .null, .null, .int 0, .int 0]) rfl (fun h12 e9 ff => ?_)
  replace e_0 := e9
  replace b_1 := b_1.keep ff ⟨by omega, trivial⟩
  replace b_3 := b_3.keep ff ⟨by omega, trivial⟩
  replace fr := rx_frt fr ff (fun a ha => ⟨by have := ha.1; dsimp only at this ⊢; omega, trivial⟩)
  refine rx_aload_n C dX8_init_26 0 rfl ?_
  refine rx_new2 C N_X8_16 dX8_init_27 (Nat.le_of_ble_eq_true rfl) (Nat.le_of_ble_eq_true rfl) (fun h14 e_12 ff => ?_)
  replace e_0 := (ff _ ⟨by omega, trivial⟩).trans e_0
  replace b_1 := b_1.keep ff ⟨by omega, trivial⟩
  replace b_3 := b_3.keep ff ⟨by omega, trivial⟩
  replace fr := rx_frt fr ff (fun a ha => ⟨by have := ha.1; dsimp only at this ⊢; omega, trivial⟩)
  refine rx_dup C dX8_init_30 rfl ?_
  refine rx_cv (rx_rIN C (w_X5_init (q := q + 12) e_12) Y_X5_init I_X5_init rfl m_X8_18 ⟨⟨rfl, rfl⟩, ⟨(Nat.le_of_ble_eq_true rfl), (Nat.le_of_ble_eq_true rfl)⟩, ⟨(Nat.le_of_ble_eq_true rfl), (Nat.le_of_ble_eq_true rfl)⟩⟩ rfl rfl (Nat.le_of_ble_eq_true rfl) dX8_init_31) (fun h16 n1 hpp => ?_)
  obtain ⟨hn, b_12, ff⟩ := hpp
  replace hn : q + 21 = n1 := Eq.symm hn
  subst hn
  replace ff : rx_fr [(q + 12, 9)] _ h16 := ff
  replace e_0 := (ff _ ⟨by omega, trivial⟩).trans e_0
  replace b_1 := b_1.keep ff ⟨by omega, trivial⟩
  replace b_3 := b_3.keep ff ⟨by omega, trivial⟩
  replace fr := rx_frt fr ff (fun a ha => ⟨by have := ha.1; dsimp only at this ⊢; omega, trivial⟩)
  clear e_12
  refine rx_putfF2 C f_X8_23 t_X8_2 ⟨_, _, rfl⟩ hname dX8_init_34 e_0 (Nat.le_of_ble_eq_true rfl) rfl rfl (fs2 := [.ref (q + 1), .ref (q + 3), .ref (q + 12), .null, .null, .null, .null, .null, .null, .int 0, .int 0]) rfl (fun h17 e9 ff => ?_)
  replace e_0 := e9
  replace b_1 := b_1.keep ff ⟨by omega, trivial⟩
  replace b_3 := b_3.keep ff ⟨by omega, trivial⟩
  replace b_12 := b_12.keep ff ⟨by omega, trivial⟩
  replace fr := rx_frt fr ff (fun a ha => ⟨by have := ha.1; dsimp only at this ⊢; omega, trivial⟩)
  refine rx_aload_n C dX8_init_37 0 rfl ?_
  refine rx_new2 C N_X8_26 dX8_init_38 (Nat.le_of_ble_eq_true rfl) (Nat.le_of_ble_eq_true rfl) (fun h19 e_21 ff => ?_)
  replace e_0 := (ff _ ⟨by omega, trivial⟩).trans e_0
  replace b_1 := b_1.keep ff ⟨by omega, trivial⟩
  replace b_3 := b_3.keep ff ⟨by omega, trivial⟩
  replace b_12 := b_12.keep ff ⟨by omega, trivial⟩
  replace fr := rx_frt fr ff (fun a ha => ⟨by have := ha.1; dsimp only at this ⊢; omega, trivial⟩)
  refine rx_dup C dX8_init_41 rfl ?_
  refine rx_aload_n C dX8_init_42 0 rfl ?_
  refine rx_getf C f_X8_23 dX8_init_43 e_0 rfl ?_
  refine rx_cv (rx_rIN C (w_X2_init (q := q + 21) (g := q + 12) e_21) Y_X2_init I_X2_init rfl m_X8_28 ⟨⟨rfl, rfl⟩, ⟨(Nat.le_of_ble_eq_true rfl), (Nat.le_of_ble_eq_true rfl)⟩, ⟨(Nat.le_of_ble_eq_true rfl), (Nat.le_of_ble_eq_true rfl)⟩⟩ rfl rfl (Nat.le_of_ble_eq_true rfl) dX8_init_46) (fun h23 n1 hpp => ?_)
  obtain ⟨hn, b_21, b_31, b_34, ff⟩ := hpp
  replace hn : q + 37 = n1 := Eq.symm hn
  subst hn
  replace ff : rx_fr [(q + 21, 16)] _ h23 := ff
  replace e_0 := (ff _ ⟨by omega, trivial⟩).trans e_0
  replace b_1 := b_1.keep ff ⟨by omega, trivial⟩
  replace b_3 := b_3.keep ff ⟨by omega, trivial⟩
  replace b_12 := b_12.keep ff ⟨by omega, trivial⟩
  replace fr := rx_frt fr ff (fun a ha => ⟨by have := ha.1; dsimp only at this ⊢; omega, trivial⟩)
  clear e_21
  refine rx_putfF2 C f_X8_31 t_X8_3 ⟨_, _, rfl⟩ hname dX8_init_49 e_0 (Nat.le_of_ble_eq_true rfl) rfl rfl (fs2 := [.ref (q + 1), .ref (q + 3), .ref (q + 12), .ref (q + 21), .null, .null, .null, .null, .null, .int 0, .int 0]) rfl (fun h24 e9 ff => ?_)
  replace e_0 := e9
  replace b_1 := b_1.keep ff ⟨by omega, trivial⟩
  replace b_3 := b_3.keep ff ⟨by omega, trivial⟩
  replace b_12 := b_12.keep ff ⟨by omega, trivial⟩
  replace b_21 := b_21.keep ff ⟨by omega, trivial⟩
  replace b_31 := b_31.keep ff ⟨by omega, trivial⟩
  replace b_34 := b_34.keep ff ⟨by omega, trivial⟩
  replace fr := rx_frt fr ff (fun a ha => ⟨by have := ha.1; dsimp only at this ⊢; omega, trivial⟩)
  refine rx_aload_n C dX8_init_52 0 rfl ?_
  refine rx_new2 C N_X8_26 dX8_init_53 (Nat.le_of_ble_eq_true rfl) (Nat.le_of_ble_eq_true rfl) (fun h26 e_37 ff => ?_)
  replace e_0 := (ff _ ⟨by omega, trivial⟩).trans e_0
  replace b_1 := b_1.keep ff ⟨by omega, trivial⟩
  replace b_3 := b_3.keep ff ⟨by omega, trivial⟩
  replace b_12 := b_12.keep ff ⟨by omega, trivial⟩
  replace b_21 := b_21.keep ff ⟨by omega, trivial⟩
  replace b_31 := b_31.keep ff ⟨by omega, trivial⟩
  replace b_34 := b_34.keep ff ⟨by omega, trivial⟩
  replace fr := rx_frt fr ff (fun a ha => ⟨by have := ha.1; dsimp only at this ⊢; omega, trivial⟩)
  refine rx_dup C dX8_init_56 rfl ?_
  refine rx_aload_n C dX8_init_57 0 rfl ?_
  refine rx_getf C f_X8_23 dX8_init_58 e_0 rfl ?_
  refine rx_cv (rx_rIN C (w_X2_init (q := q + 37) (g := q + 12) e_37) Y_X2_init I_X2_init rfl m_X8_28 ⟨⟨rfl, rfl⟩, ⟨(Nat.le_of_ble_eq_true rfl), (Nat.le_of_ble_eq_true rfl)⟩, ⟨(Nat.le_of_ble_eq_true rfl), (Nat.le_of_ble_eq_true rfl)⟩⟩ rfl rfl (Nat.le_of_ble_eq_true rfl) dX8_init_61) (fun h30 n1 hpp => ?_)
  obtain ⟨hn, b_37, b_47, b_50, ff⟩ := hpp
  replace hn : q + 53 = n1 := Eq.symm hn
  subst hn
  replace ff : rx_fr [(q + 37, 16)] _ h30 := ff
  replace e_0 := (ff _ ⟨by omega, trivial⟩).trans e_0
  replace b_1 := b_1.keep ff ⟨by omega, trivial⟩
  replace b_3 := b_3.keep ff ⟨by omega, trivial⟩
  replace b_12 := b_12.keep ff ⟨by omega, trivial⟩
  replace b_21 := b_21.keep ff ⟨by omega, trivial⟩
  replace b_31 := b_31.keep ff ⟨by omega, trivial⟩
  replace b_34 := b_34.keep ff ⟨by omega, trivial⟩
  replace fr := rx_frt fr ff (fun a ha => ⟨by have := ha.1; dsimp only at this ⊢; omega, trivial⟩)
  clear e_37
  refine rx_putfF2 C f_X8_35 t_X8_4 ⟨_, _, rfl⟩ hname dX8_init_64 e_0 (Nat.le_of_ble_eq_true rfl) rfl rfl (fs2 := [.ref (q + 1), .ref (q + 3), .ref (q + 12), .ref (q + 21), .ref (q + 37), .null, .null, .null, .null, .int 0, .int 0]) rfl (fun h31 e9 ff => ?_)
  replace e_0 := e9
  replace b_1 := b_1.keep ff ⟨by omega, trivial⟩
  replace b_3 := b_3.keep ff ⟨by omega, trivial⟩
  replace b_12 := b_12.keep ff ⟨by omega, trivial⟩
  replace b_21 := b_21.keep ff ⟨by omega, trivial⟩
  replace b_31 := b_31.keep ff ⟨by omega, trivial⟩
  replace b_34 := b_34.keep ff ⟨by omega, trivial⟩
  replace b_37 := b_37.keep ff ⟨by omega, trivial⟩
  replace b_47 := b_47.keep ff ⟨by omega, trivial⟩
  replace b_50 := b_50.keep ff ⟨by omega, trivial⟩
  replace fr := rx_frt fr ff (fun a ha => ⟨by have := ha.1; dsimp only at this ⊢; omega, trivial⟩)
  refine rx_aload_n C dX8_init_67 0 rfl ?_
  refine rx_new2 C N_X8_26 dX8_init_68 (Nat.le_of_ble_eq_true rfl) (Nat.le_of_ble_eq_true rfl) (fun h33 e_53 ff => ?_)
  replace e_0 := (ff _ ⟨by omega, trivial⟩).trans e_0
  replace b_1 := b_1.keep ff ⟨by omega, trivial⟩
  replace b_3 := b_3.keep ff ⟨by omega, trivial⟩
  replace b_12 := b_12.keep ff ⟨by omega, trivial⟩
  replace b_21 := b_21.keep ff ⟨by omega, trivial⟩
  replace b_31 := b_31.keep ff ⟨by omega, trivial⟩
  replace b_34 := b_34.keep ff ⟨by omega, trivial⟩
  replace b_37 := b_37.keep ff ⟨by omega, trivial⟩
  replace b_47 := b_47.keep ff ⟨by omega, trivial⟩
  replace b_50 := b_50.keep ff ⟨by omega, trivial⟩
  replace fr := rx_frt fr ff (fun a ha => ⟨by have := ha.1; dsimp only at this ⊢; omega, trivial⟩)
  refine rx_dup C dX8_init_71 rfl ?_
  refine rx_aload_n C dX8_init_72 0 rfl ?_
  refine rx_getf C f_X8_23 dX8_init_73 e_0 rfl ?_
  refine rx_cv (rx_rIN C (w_X2_init (q := q + 53) (g := q + 12) e_53) Y_X2_init I_X2_init rfl m_X8_28 ⟨⟨rfl, rfl⟩, ⟨(Nat.le_of_ble_eq_true rfl), (Nat.le_of_ble_eq_true rfl)⟩, ⟨(Nat.le_of_ble_eq_true rfl), (Nat.le_of_ble_eq_true rfl)⟩⟩ rfl rfl (Nat.le_of_ble_eq_true rfl) dX8_init_76) (fun h37 n1 hpp => ?_)
  obtain ⟨hn, b_53, b_63, b_66, ff⟩ := hpp
  replace hn : q + 69 = n1 := Eq.symm hn
  subst hn
  replace ff : rx_fr [(q + 53, 16)] _ h37 := ff
  replace e_0 := (ff _ ⟨by omega, trivial⟩).trans e_0
  replace b_1 := b_1.keep ff ⟨by omega, trivial⟩
  replace b_3 := b_3.keep ff ⟨by omega, trivial⟩
  replace b_12 := b_12.keep ff ⟨by omega, trivial⟩
  replace b_21 := b_21.keep ff ⟨by omega, trivial⟩
  replace b_31 := b_31.keep ff ⟨by omega, trivial⟩
  replace b_34 := b_34.keep ff ⟨by omega, trivial⟩
  replace b_37 := b_37.keep ff ⟨by omega, trivial⟩
  replace b_47 := b_47.keep ff ⟨by omega, trivial⟩
  replace b_50 := b_50.keep ff ⟨by omega, trivial⟩
  replace fr := rx_frt fr ff (fun a ha => ⟨by have := ha.1; dsimp only at this ⊢; omega, trivial⟩)
  clear e_53
  refine rx_putfF2 C f_X8_38 t_X8_5 ⟨_, _, rfl⟩ hname dX8_init_79 e_0 (Nat.le_of_ble_eq_true rfl) rfl rfl (fs2 := [.ref (q + 1), .ref (q + 3), .ref (q + 12), .ref (q + 21), .ref (q + 37), .ref (q + 53), .null, .null, .null, .int 0, .int 0]) rfl (fun h38 e9 ff => ?_)
  replace e_0 := e9
  replace b_1 := b_1.keep ff ⟨by omega, trivial⟩
  replace b_3 := b_3.keep ff ⟨by omega, trivial⟩
  replace b_12 := b_12.keep ff ⟨by omega, trivial⟩
  replace b_21 := b_21.keep ff ⟨by omega, trivial⟩
  replace b_31 := b_31.keep ff ⟨by omega, trivial⟩
  replace b_34 := b_34.keep ff ⟨by omega, trivial⟩
  replace b_37 := b_37.keep ff ⟨by omega, trivial⟩
  replace b_47 := b_47.keep ff ⟨by omega, trivial⟩
  replace b_50 := b_50.keep ff ⟨by omega, trivial⟩
  replace b_53 := b_53.keep ff ⟨by omega, trivial⟩
  replace b_63 := b_63.keep ff ⟨by omega, trivial⟩
  replace b_66 := b_66.keep ff ⟨by omega, trivial⟩
  replace fr := rx_frt fr ff (fun a ha => ⟨by have := ha.1; dsimp only at this ⊢; omega, trivial⟩)
  refine rx_aload_n C dX8_init_82 0 rfl ?_
  refine rx_new2 C N_X8_41 dX8_init_83 (Nat.le_of_ble_eq_true rfl) (Nat.le_of_ble_eq_true rfl) (fun h40 e_69 ff => ?_)
  replace e_0 := (ff _ ⟨by omega, trivial⟩).trans e_0
  replace b_1 := b_1.keep ff ⟨by omega, trivial⟩
  replace b_3 := b_3.keep ff ⟨by omega, trivial⟩
  replace b_12 := b_12.keep ff ⟨by omega, trivial⟩
  replace b_21 := b_21.keep ff ⟨by omega, trivial⟩
  replace b_31 := b_31.keep ff ⟨by omega, trivial⟩
  replace b_34 := b_34.keep ff ⟨by omega, trivial⟩
  replace b_37 := b_37.keep ff ⟨by omega, trivial⟩
  replace b_47 := b_47.keep ff ⟨by omega, trivial⟩
  replace b_50 := b_50.keep ff ⟨by omega, trivial⟩
  replace b_53 := b_53.keep ff ⟨by omega, trivial⟩
  replace b_63 := b_63.keep ff ⟨by omega, trivial⟩
  replace b_66 := b_66.keep ff ⟨by omega, trivial⟩
  replace fr := rx_frt fr ff (fun a ha => ⟨by have := ha.1; dsimp only at this ⊢; omega, trivial⟩)
  refine rx_dup C dX8_init_86 rfl ?_
  refine rx_aload_n C dX8_init_87 0 rfl ?_
  refine rx_getf C f_X8_23 dX8_init_88 e_0 rfl ?_
  refine rx_cv (rx_rIN C (w_X1_init (q := q + 69) (g := q + 12) e_69) Y_X1_init I_X1_init rfl m_X8_43 ⟨⟨rfl, rfl⟩, ⟨(Nat.le_of_ble_eq_true rfl), (Nat.le_of_ble_eq_true rfl)⟩, ⟨(Nat.le_of_ble_eq_true rfl), (Nat.le_of_ble_eq_true rfl)⟩⟩ rfl rfl (Nat.le_of_ble_eq_true rfl) dX8_init_91) (fun h44 n1 hpp => ?_)
  obtain ⟨hn, b_69, ff⟩ := hpp
  replace hn : q + 199 = n1 := Eq.symm hn
  subst hn
  replace ff : rx_fr [(q + 69, 130)] _ h44 := ff
  replace e_0 := (ff _ ⟨by omega, trivial⟩).trans e_0
  replace b_1 := b_1.keep ff ⟨by omega, trivial⟩
  replace b_3 := b_3.keep ff ⟨by omega, trivial⟩
  replace b_12 := b_12.keep ff ⟨by omega, trivial⟩
  replace b_21 := b_21.keep ff ⟨by omega, trivial⟩
  replace b_31 := b_31.keep ff ⟨by omega, trivial⟩
  replace b_34 := b_34.keep ff ⟨by omega, trivial⟩
  replace b_37 := b_37.keep ff ⟨by omega, trivial⟩
  replace b_47 := b_47.keep ff ⟨by omega, trivial⟩
  replace b_50 := b_50.keep ff ⟨by omega, trivial⟩
  replace b_53 := b_53.keep ff ⟨by omega, trivial⟩
  replace b_63 := b_63.keep ff ⟨by omega, trivial⟩
  replace b_66 := b_66.keep ff ⟨by omega, trivial⟩
  replace fr := rx_frt fr ff (fun a ha => ⟨by have := ha.1; dsimp only at this ⊢; omega, trivial⟩)
  clear e_69
  refine rx_putfF2 C f_X8_44 t_X8_6 ⟨_, _, rfl⟩ hname dX8_init_94 e_0 (Nat.le_of_ble_eq_true rfl) rfl rfl (fs2 := [.ref (q + 1), .ref (q + 3), .ref (q + 12), .ref (q + 21), .ref (q + 37), .ref (q + 53), .ref (q + 69), .null, .null, .int 0, .int 0]) rfl (fun h45 e9 ff => ?_)
  replace e_0 := e9
  replace b_1 := b_1.keep ff ⟨by omega, trivial⟩
  replace b_3 := b_3.keep ff ⟨by omega, trivial⟩
  replace b_12 := b_12.keep ff ⟨by omega, trivial⟩
  replace b_21 := b_21.keep ff ⟨by omega, trivial⟩
  replace b_31 := b_31.keep ff ⟨by omega, trivial⟩
  replace b_34 := b_34.keep ff ⟨by omega, trivial⟩
  replace b_37 := b_37.keep ff ⟨by omega, trivial⟩
  replace b_47 := b_47.keep ff ⟨by omega, trivial⟩
  replace b_50 := b_50.keep ff ⟨by omega, trivial⟩
  replace b_53 := b_53.keep ff ⟨by omega, trivial⟩
  replace b_63 := b_63.keep ff ⟨by omega, trivial⟩
  replace b_66 := b_66.keep ff ⟨by omega, trivial⟩
  replace b_69 := b_69.keep ff ⟨by omega, trivial⟩
  replace fr := rx_frt fr ff (fun a ha => ⟨by have := ha.1; dsimp only at this ⊢; omega, trivial⟩)
  refine rx_aload_n C dX8_init_97 0 rfl ?_
  refine rx_new2 C N_X8_48 dX8_init_98 (Nat.le_of_ble_eq_true rfl) (Nat.le_of_ble_eq_true rfl) (fun h47 e_199 ff => ?_)
  replace e_0 := (ff _ ⟨by omega, trivial⟩).trans e_0
  replace b_1 := b_1.keep ff ⟨by omega, trivial⟩
  replace b_3 := b_3.keep ff ⟨by omega, trivial⟩
  replace b_12 := b_12.keep ff ⟨by omega, trivial⟩
  replace b_21 := b_21.keep ff ⟨by omega, trivial⟩
  replace b_31 := b_31.keep ff ⟨by omega, trivial⟩
  replace b_34 := b_34.keep ff ⟨by omega, trivial⟩
  replace b_37 := b_37.keep ff ⟨by omega, trivial⟩
  replace b_47 := b_47.keep ff ⟨by omega, trivial⟩
  replace b_50 := b_50.keep ff ⟨by omega, trivial⟩
  replace b_53 := b_53.keep ff ⟨by omega, trivial⟩
  replace b_63 := b_63.keep ff ⟨by omega, trivial⟩
  replace b_66 := b_66.keep ff ⟨by omega, trivial⟩
  replace b_69 := b_69.keep ff ⟨by omega, trivial⟩
  replace fr := rx_frt fr ff (fun a ha => ⟨by have := ha.1; dsimp only at this ⊢; omega, trivial⟩)
  refine rx_dup C dX8_init_101 rfl ?_
  refine rx_cv (rx_rIN C (w_X4_init (q := q + 199) e_199) Y_X4_init I_X4_init rfl m_X8_50 ⟨⟨rfl, rfl⟩, ⟨(Nat.le_of_ble_eq_true rfl), (Nat.le_of_ble_eq_true rfl)⟩, ⟨(Nat.le_of_ble_eq_true rfl), (Nat.le_of_ble_eq_true rfl)⟩⟩ rfl rfl (Nat.le_of_ble_eq_true rfl) dX8_init_102) (fun h49 n1 hpp => ?_)
  obtain ⟨hn, b_199, ff⟩ := hpp
  replace hn : q + 203 = n1 := Eq.symm hn
  subst hn
  replace ff : rx_fr [(q + 199, 4)] _ h49 := ff
  replace e_0 := (ff _ ⟨by omega, trivial⟩).trans e_0
  replace b_1 := b_1.keep ff ⟨by omega, trivial⟩
  replace b_3 := b_3.keep ff ⟨by omega, trivial⟩
  replace b_12 := b_12.keep ff ⟨by omega, trivial⟩
  replace b_21 := b_21.keep ff ⟨by omega, trivial⟩
  replace b_31 := b_31.keep ff ⟨by omega, trivial⟩
  replace b_34 := b_34.keep ff ⟨by omega, trivial⟩
  replace b_37 := b_37.keep ff ⟨by omega, trivial⟩
  replace b_47 := b_47.keep ff ⟨by omega, trivial⟩
  replace b_50 := b_50.keep ff ⟨by omega, trivial⟩
  replace b_53 := b_53.keep ff ⟨by omega, trivial⟩
  replace b_63 := b_63.keep ff ⟨by omega, trivial⟩
  replace b_66 := b_66.keep ff ⟨by omega, trivial⟩
  replace b_69 := b_69.keep ff ⟨by omega, trivial⟩
  replace fr := rx_frt fr ff (fun a ha => ⟨by have := ha.1; dsimp only at this ⊢; omega, trivial⟩)
  clear e_199
  refine rx_putfF2 C f_X8_51 t_X8_7 ⟨_, _, rfl⟩ hname dX8_init_105 e_0 (Nat.le_of_ble_eq_true rfl) rfl rfl (fs2 := [.ref (q + 1), .ref (q + 3), .ref (q + 12), .ref (q + 21), .ref (q + 37), .ref (q + 53), .ref (q + 69), .ref (q + 199), .null, .int 0, .int 0]) rfl (fun h50 e9 ff => ?_)
  replace e_0 := e9
  replace b_1 := b_1.keep ff ⟨by omega, trivial⟩
  replace b_3 := b_3.keep ff ⟨by omega, trivial⟩
  replace b_12 := b_12.keep ff ⟨by omega, trivial⟩
  replace b_21 := b_21.keep ff ⟨by omega, trivial⟩
  replace b_31 := b_31.keep ff ⟨by omega, trivial⟩
  replace b_34 := b_34.keep ff ⟨by omega, trivial⟩
  replace b_37 := b_37.keep ff ⟨by omega, trivial⟩
  replace b_47 := b_47.keep ff ⟨by omega, trivial⟩
  replace b_50 := b_50.keep ff ⟨by omega, trivial⟩
  replace b_53 := b_53.keep ff ⟨by omega, trivial⟩
  replace b_63 := b_63.keep ff ⟨by omega, trivial⟩
  replace b_66 := b_66.keep ff ⟨by omega, trivial⟩
  replace b_69 := b_69.keep ff ⟨by omega, trivial⟩
  replace b_199 := b_199.keep ff ⟨by omega, trivial⟩
  replace fr := rx_frt fr ff (fun a ha => ⟨by have := ha.1; dsimp only at this ⊢; omega, trivial⟩)
  refine rx_aload_n C dX8_init_108 0 rfl ?_
  refine rx_bipush C dX8_init_109 (64 : Int32) (by decide) ?_
  refine rx_newi2 C 64 dX8_init_111 (by decide) (by decide) (by decide) (Nat.le_of_ble_eq_true rfl) (Nat.le_of_ble_eq_true rfl) (fun h53 e_203 ff => ?_)
  replace e_0 := (ff _ ⟨by omega, trivial⟩).trans e_0
  replace b_1 := b_1.keep ff ⟨by omega, trivial⟩
  replace b_3 := b_3.keep ff ⟨by omega, trivial⟩
  replace b_12 := b_12.keep ff ⟨by omega, trivial⟩
  replace b_21 := b_21.keep ff ⟨by omega, trivial⟩
  replace b_31 := b_31.keep ff ⟨by omega, trivial⟩
  replace b_34 := b_34.keep ff ⟨by omega, trivial⟩
  replace b_37 := b_37.keep ff ⟨by omega, trivial⟩
  replace b_47 := b_47.keep ff ⟨by omega, trivial⟩
  replace b_50 := b_50.keep ff ⟨by omega, trivial⟩
  replace b_53 := b_53.keep ff ⟨by omega, trivial⟩
  replace b_63 := b_63.keep ff ⟨by omega, trivial⟩
  replace b_66 := b_66.keep ff ⟨by omega, trivial⟩
  replace b_69 := b_69.keep ff ⟨by omega, trivial⟩
  replace b_199 := b_199.keep ff ⟨by omega, trivial⟩
  replace fr := rx_frt fr ff (fun a ha => ⟨by have := ha.1; dsimp only at this ⊢; omega, trivial⟩)
  refine rx_putfF2 C f_X8_55 t_X8_8 ⟨_, _, rfl⟩ hname dX8_init_113 e_0 (Nat.le_of_ble_eq_true rfl) rfl rfl (fs2 := [.ref (q + 1), .ref (q + 3), .ref (q + 12), .ref (q + 21), .ref (q + 37), .ref (q + 53), .ref (q + 69), .ref (q + 199), .ref (q + 203), .int 0, .int 0]) rfl (fun h54 e9 ff => ?_)
  replace e_0 := e9
  replace b_1 := b_1.keep ff ⟨by omega, trivial⟩
  replace b_3 := b_3.keep ff ⟨by omega, trivial⟩
  replace b_12 := b_12.keep ff ⟨by omega, trivial⟩
  replace b_21 := b_21.keep ff ⟨by omega, trivial⟩
  replace b_31 := b_31.keep ff ⟨by omega, trivial⟩
  replace b_34 := b_34.keep ff ⟨by omega, trivial⟩
  replace b_37 := b_37.keep ff ⟨by omega, trivial⟩
  replace b_47 := b_47.keep ff ⟨by omega, trivial⟩
  replace b_50 := b_50.keep ff ⟨by omega, trivial⟩
  replace b_53 := b_53.keep ff ⟨by omega, trivial⟩
  replace b_63 := b_63.keep ff ⟨by omega, trivial⟩
  replace b_66 := b_66.keep ff ⟨by omega, trivial⟩
  replace b_69 := b_69.keep ff ⟨by omega, trivial⟩
  replace b_199 := b_199.keep ff ⟨by omega, trivial⟩
  replace e_203 := (ff _ ⟨by omega, trivial⟩).trans e_203
  replace fr := rx_frt fr ff (fun a ha => ⟨by have := ha.1; dsimp only at this ⊢; omega, trivial⟩)
  refine w_X8_init_seg (b := q) hF C e_0 b_12 b_21 b_31 b_34 (fun hh c_s c_p c_w c_e ff => ?_)
  replace e_0 := (ff _ ⟨by omega, by omega, by omega, by omega, trivial⟩).trans e_0
  replace b_1 := b_1.keep ff ⟨by omega, by omega, by omega, by omega, trivial⟩
  replace b_3 := b_3.keep ff ⟨by omega, by omega, by omega, by omega, trivial⟩
  replace b_37 := b_37.keep ff ⟨by omega, by omega, by omega, by omega, trivial⟩
  replace b_47 := b_47.keep ff ⟨by omega, by omega, by omega, by omega, trivial⟩
  replace b_50 := b_50.keep ff ⟨by omega, by omega, by omega, by omega, trivial⟩
  replace b_53 := b_53.keep ff ⟨by omega, by omega, by omega, by omega, trivial⟩
  replace b_63 := b_63.keep ff ⟨by omega, by omega, by omega, by omega, trivial⟩
  replace b_66 := b_66.keep ff ⟨by omega, by omega, by omega, by omega, trivial⟩
  replace b_69 := b_69.keep ff ⟨by omega, by omega, by omega, by omega, trivial⟩
  replace b_199 := b_199.keep ff ⟨by omega, by omega, by omega, by omega, trivial⟩
  replace e_203 := (ff _ ⟨by omega, by omega, by omega, by omega, trivial⟩).trans e_203
  replace fr := rx_frt fr ff (fun a ha => ⟨by have := ha.1; dsimp only at this ⊢; omega, by have := ha.1; dsimp only at this ⊢; omega, by have := ha.1; dsimp only at this ⊢; omega, by have := ha.1; dsimp only at this ⊢; omega, trivial⟩)
  exact rx_vret C dX8_init_226 (Nat.le_of_ble_eq_true rfl) (Nat.le_of_ble_eq_true rfl) ⟨rfl, e_0, b_1, b_3, c_s, c_p, c_w, c_e, b_37, b_47, b_50, b_53, b_63, b_66, b_69, b_199, e_203, fr⟩
end RXJ
