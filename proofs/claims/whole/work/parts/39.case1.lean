section LAWC
variable {l : Launch} {G : va_G} {k : Nat → Nat} {h : hp} {n : Nat} {P9 : Program} {E9 : Env} {S9 : State} {M9 : MethodId} {A9 : Array Value} {B9 : List Frame} {me9 : Method} {c9 : Code} {Q9 : State → Prop} {ret9 : Option FieldType} {sc len : Nat} {xs : Nat → Int32} {x4 : Int32} {cells slots : Nat}
def F_case_0 (oB : ob) (ot : ob) (om : ob) (a1 : Int32) (a2 : Int32) (a3 : Int32) (a4 : Int32) (a5 : Int32) : Option (ob × ob) := (F_X8_appendText oB ot a1 a2 a3 a4 a5).bind fun y1 => (F_X9_appendText om a1 a2 a3 a4 a5).bind fun y2 => if y1.1 = y2.1 then (some (y1.2, y2.2)) else (none)
set_option maxRecDepth 100000 in
set_option maxHeartbeats 4000000 in
theorem lc_0 {b : Nat} {oB : ob} {ot : ob} {om : ob} {a1 : Int32} {a2 : Int32} {a3 : Int32} {a4 : Int32} {a5 : Int32} {y : ob × ob} (hst : l.stackTraces = false) (hF : F_case_0 oB ot om a1 a2 a3 a4 a5 = some y) (C : rx_C G k P9 M9 c9 cL_law RL 9 ret9 S9 A9 me9) (hN : rx_NC S9) (hX : va_X sc len xs S9 S9.heap) (hbl : sc < S9.heap.size) (hbA : ¬ k 0 ≤ sc) (h1 : vp_in (x4 + (1 : Int32)) len ∧ xs (x4 + (1 : Int32)).toNatClampNeg = a1) (h2 : vp_in (x4 + (2 : Int32)) len ∧ xs (x4 + (2 : Int32)).toNatClampNeg = a2) (h3 : vp_in (x4 + (3 : Int32)) len ∧ xs (x4 + (3 : Int32)).toNatClampNeg = a3) (h4 : vp_in (x4 + (4 : Int32)) len ∧ xs (x4 + (4 : Int32)).toNatClampNeg = a4) (h5 : vp_in (x4 + (5 : Int32)) len ∧ xs (x4 + (5 : Int32)).toNatClampNeg = a5) (hcl : cells + 3 ≤ 601024) (hsl : slots + 18 ≤ 7293034) (b_B : bB k b oB h) (b_t : bT k (b + 1) ot h) (b_m : bM k (b + 204) om h) (KK : ∀ (hh : hp) (n1 : Nat), n ≤ n1 → bT k (b + 1) y.1 hh → bM k (b + 204) y.2 hh → rx_fr [(b + 1, 2), (b + 204, 9)] h hh → rx_W P9 l E9 room_1 S9 M9 A9 B9 me9 c9 Q9 G k 9 (cells + 3) (slots + 18) hh n1 3126 [(0, .ref sc), (1, .ref b), (2, .ref (b + 204)), (3, .ref (b + 213)), (4, .int x4)] []) : rx_W P9 l E9 room_1 S9 M9 A9 B9 me9 c9 Q9 G k 9 cells slots h n 304 [(0, .ref sc), (1, .ref b), (2, .ref (b + 204)), (3, .ref (b + 213)), (4, .int x4)] [] := by
  have s_B_t : b + 1 ≤ b + 1 ∨ b + 1 + 2 ≤ b := by omega
  have s_m_t : b + 204 + 9 ≤ b + 1 ∨ b + 1 + 2 ≤ b + 204 := by omega
  have s_B_m : b + 1 ≤ b + 204 ∨ b + 204 + 9 ≤ b := by omega
  have s_t_m : b + 1 + 2 ≤ b + 204 ∨ b + 204 + 9 ≤ b + 1 := by omega
  unfold F_case_0 at hF
  have fr : rx_fr [(b + 1, 2), (b + 204, 9)] h h := rx_fr0
  refine rx_aload_n C dL_law_304 1 rfl ?_
  refine rx_aload_n C dL_law_305 0 rfl ?_
  refine rx_iload C dL_law_306 4 rfl ?_
  refine rx_iconst C dL_law_308 (1 : Int32) (by decide) ?_
  refine rx_iadd C dL_law_309 ?_
  refine rx_sld C hX hbl hbA h1 dL_law_310 ?_
  refine rx_aload_n C dL_law_311 0 rfl ?_
  refine rx_iload C dL_law_312 4 rfl ?_
  refine rx_iconst C dL_law_314 (2 : Int32) (by decide) ?_
  refine rx_iadd C dL_law_315 ?_
  refine rx_sld C hX hbl hbA h2 dL_law_316 ?_
  refine rx_aload_n C dL_law_317 0 rfl ?_
  refine rx_iload C dL_law_318 4 rfl ?_
  refine rx_iconst C dL_law_320 (3 : Int32) (by decide) ?_
  refine rx_iadd C dL_law_321 ?_
  refine rx_sld C hX hbl hbA h3 dL_law_322 ?_
  refine rx_aload_n C dL_law_323 0 rfl ?_
  refine rx_iload C dL_law_324 4 rfl ?_
  refine rx_iconst C dL_law_326 (4 : Int32) (by decide) ?_
  refine rx_iadd C dL_law_327 ?_
  refine rx_sld C hX hbl hbA h4 dL_law_328 ?_
  refine rx_aload_n C dL_law_329 0 rfl ?_
  refine rx_iload C dL_law_330 4 rfl ?_
  refine rx_iconst C dL_law_332 (5 : Int32) (by decide) ?_
  refine rx_iadd C dL_law_333 ?_
  refine rx_sld C hX hbl hbA h5 dL_law_334 ?_
  replace hF := rx_biE hF; obtain ⟨y1, e_y1, hF⟩ := hF
  refine rx_ci (rx_rV C (w_X8_appendText e_y1 b_B b_t) Y_X8_appendText V_X8_appendText m_L_137 (Or.inl ⟨_, _, _, _, b_B, rfl⟩) ⟨⟨rfl, rfl⟩, ⟨(Nat.le_of_ble_eq_true rfl), (Nat.le_of_ble_eq_true rfl)⟩, ⟨by show _ ≤ 601024; omega, by show _ ≤ 7293034; omega⟩⟩ rfl rfl (Nat.le_of_ble_eq_true rfl) dL_law_335) (fun r hh n1 hpp => ?_)
  obtain ⟨rfl, hn, c_t, ff⟩ := hpp
  replace hn : n = n1 := Eq.symm hn
  subst hn
  replace b_t : bT k (b + 1) y1.2 hh := c_t
  clear c_t
  replace ff : rx_fr [(b + 1, 2)] _ hh := ff
  replace b_B := b_B.keep ff ⟨s_B_t, trivial⟩
  replace b_m := b_m.keep ff ⟨s_m_t, trivial⟩
  replace fr := rx_frt fr ff (fun a ha => ⟨ha.1, trivial⟩)
  refine rx_aload_n C dL_law_338 2 rfl ?_
  refine rx_aload_n C dL_law_339 0 rfl ?_
  refine rx_iload C dL_law_340 4 rfl ?_
  refine rx_iconst C dL_law_342 (1 : Int32) (by decide) ?_
  refine rx_iadd C dL_law_343 ?_
  refine rx_sld C hX hbl hbA h1 dL_law_344 ?_
  refine rx_aload_n C dL_law_345 0 rfl ?_
  refine rx_iload C dL_law_346 4 rfl ?_
  refine rx_iconst C dL_law_348 (2 : Int32) (by decide) ?_
  refine rx_iadd C dL_law_349 ?_
  refine rx_sld C hX hbl hbA h2 dL_law_350 ?_
  refine rx_aload_n C dL_law_351 0 rfl ?_
  refine rx_iload C dL_law_352 4 rfl ?_
  refine rx_iconst C dL_law_354 (3 : Int32) (by decide) ?_
  refine rx_iadd C dL_law_355 ?_
  refine rx_sld C hX hbl hbA h3 dL_law_356 ?_
  refine rx_aload_n C dL_law_357 0 rfl ?_
  refine rx_iload C dL_law_358 4 rfl ?_
  refine rx_iconst C dL_law_360 (4 : Int32) (by decide) ?_
  refine rx_iadd C dL_law_361 ?_
  refine rx_sld C hX hbl hbA h4 dL_law_362 ?_
  refine rx_aload_n C dL_law_363 0 rfl ?_
  refine rx_iload C dL_law_364 4 rfl ?_
  refine rx_iconst C dL_law_366 (5 : Int32) (by decide) ?_
  refine rx_iadd C dL_law_367 ?_
  refine rx_sld C hX hbl hbA h5 dL_law_368 ?_
  replace hF := rx_biE hF; obtain ⟨y2, e_y2, hF⟩ := hF
  refine rx_ci (rx_rV C (w_X9_appendText e_y2 b_m) Y_X9_appendText V_X9_appendText m_L_141 (Or.inl ⟨_, _, _, _, b_m.1, rfl⟩) ⟨⟨rfl, rfl⟩, ⟨(Nat.le_of_ble_eq_true rfl), (Nat.le_of_ble_eq_true rfl)⟩, ⟨by show _ ≤ 601024; omega, by show _ ≤ 7293034; omega⟩⟩ rfl rfl (Nat.le_of_ble_eq_true rfl) dL_law_369) (fun r hh n1 hpp => ?_)
  obtain ⟨rfl, hn, c_m, ff⟩ := hpp
  replace hn : n = n1 := Eq.symm hn
  subst hn
  replace b_m : bM k (b + 204) y2.2 hh := c_m
  clear c_m
  replace ff : rx_fr [(b + 204, 9)] _ hh := ff
  replace b_B := b_B.keep ff ⟨s_B_m, trivial⟩
  replace b_t := b_t.keep ff ⟨s_t_m, trivial⟩
  replace fr := rx_frt fr ff (fun a ha => ⟨ha.2.1, trivial⟩)
  refine rx_icmp_eq C dL_law_372 3126 (by decide) (fun c3 => ?_) (fun c3 => ?_)
  · rw [if_pos c3] at hF
    obtain rfl := Option.some.inj hF
    exact rx_wide (cells + 3) (slots + 18) (by omega) (by omega) (KK _ _ (Nat.le_refl _) b_t b_m fr)
  · rw [if_neg c3] at hF
    refine rx_iconst C dL_law_375 (0 : Int32) (by decide) ?_
    cases hF
def F_case_1 (oB : ob) (ot : ob) (od : ob) (os : ob) (op : ob) (ow : ob) (oe : ob) (oH : hst) (om : ob) (oL : (Nat → Int64)) (a1 : Int32) : Option (ob × ob × ob × ob × ob × ob × ob × hst × ob × (Nat → Int64)) := (F_L_loadGame oB ot od os op ow oe oH oL a1).bind fun y1 => (F_X9_loadGame om a1).bind fun y2 => (F_X9_thrown y2.2).bind fun y3 => if y3 = y1.1 then (if y1.1 = (0 : Int32) then (if (lg_cmp ((y1.2.2.2.2.2.2.2.2.2 0)) y2.1.toInt64) = (0 : Int32) then (some (y1.2.1, y1.2.2.1, y1.2.2.2.1, y1.2.2.2.2.1, y1.2.2.2.2.2.1, y1.2.2.2.2.2.2.1, y1.2.2.2.2.2.2.2.1, y1.2.2.2.2.2.2.2.2.1, y2.2, y1.2.2.2.2.2.2.2.2.2)) else (none)) else (some (y1.2.1, y1.2.2.1, y1.2.2.2.1, y1.2.2.2.2.1, y1.2.2.2.2.2.1, y1.2.2.2.2.2.2.1, y1.2.2.2.2.2.2.2.1, y1.2.2.2.2.2.2.2.2.1, y2.2, y1.2.2.2.2.2.2.2.2.2))) else (none)
set_option maxRecDepth 100000 in
set_option maxHeartbeats 4000000 in
theorem lc_1 {b : Nat} {oB : ob} {ot : ob} {od : ob} {os : ob} {op : ob} {ow : ob} {oe : ob} {oH : hst} {om : ob} {oL : (Nat → Int64)} {a1 : Int32} {y : ob × ob × ob × ob × ob × ob × ob × hst × ob × (Nat → Int64)} (hst : l.stackTraces = false) (hF : F_case_1 oB ot od os op ow oe oH om oL a1 = some y) (C : rx_C G k P9 M9 c9 cL_law RL 9 ret9 S9 A9 me9) (hN : rx_NC S9) (hX : va_X sc len xs S9 S9.heap) (hbl : sc < S9.heap.size) (hbA : ¬ k 0 ≤ sc) (h1 : vp_in (x4 + (1 : Int32)) len ∧ xs (x4 + (1 : Int32)).toNatClampNeg = a1) (hcl : cells + 3 ≤ 601024) (hsl : slots + 18 ≤ 7293034) (b_B : bB k b oB h) (b_t : bT k (b + 1) ot h) (b_d : bS k (b + 3) od h) (b_s : bS k (b + 12) os h) (b_p : bP k (b + 21) (b + 12) op h) (b_w : bQ k (b + 21 + 10) ow h) (b_e : bQ k (b + 21 + 13) oe h) (b_H : bHH k (b + 69) (b + 12) oH h) (b_m : bM k (b + 204) om h) (b_L : bL k (b + 213) oL h) (KK : ∀ (hh : hp) (n1 : Nat), n ≤ n1 → bB k b y.1 hh → bT k (b + 1) y.2.1 hh → bS k (b + 3) y.2.2.1 hh → bS k (b + 12) y.2.2.2.1 hh → bP k (b + 21) (b + 12) y.2.2.2.2.1 hh → bQ k (b + 21 + 10) y.2.2.2.2.2.1 hh → bQ k (b + 21 + 13) y.2.2.2.2.2.2.1 hh → bHH k (b + 69) (b + 12) y.2.2.2.2.2.2.2.1 hh → bM k (b + 204) y.2.2.2.2.2.2.2.2.1 hh → bL k (b + 213) y.2.2.2.2.2.2.2.2.2 hh → rx_fr [(b, 1), (b + 1, 2), (b + 3, 9), (b + 12, 9), (b + 21, 10), (b + 21 + 10, 3), (b + 21 + 13, 3), (b + 69, 130), (b + 204, 9), (b + 213, 1)] h hh → rx_W P9 l E9 room_1 S9 M9 A9 B9 me9 c9 Q9 G k 9 (cells + 3) (slots + 18) hh n1 3126 [(0, .ref sc), (1, .ref b), (2, .ref (b + 204)), (3, .ref (b + 213)), (4, .int x4)] []) : rx_W P9 l E9 room_1 S9 M9 A9 B9 me9 c9 Q9 G k 9 cells slots h n 377 [(0, .ref sc), (1, .ref b), (2, .ref (b + 204)), (3, .ref (b + 213)), (4, .int x4)] [] := by
  have s_m_B : b + 204 + 9 ≤ b ∨ b + 1 ≤ b + 204 := by omega
  have s_m_t : b + 204 + 9 ≤ b + 1 ∨ b + 1 + 2 ≤ b + 204 := by omega
  have s_m_d : b + 204 + 9 ≤ b + 3 ∨ b + 3 + 9 ≤ b + 204 := by omega
  have s_m_s : b + 204 + 9 ≤ b + 12 ∨ b + 12 + 9 ≤ b + 204 := by omega
  have s_m_p : b + 204 + 9 ≤ b + 21 ∨ b + 21 + 10 ≤ b + 204 := by omega
  have s_m_w : b + 204 + 9 ≤ b + 21 + 10 ∨ b + 21 + 10 + 3 ≤ b + 204 := by omega
  have s_m_e : b + 204 + 9 ≤ b + 21 + 13 ∨ b + 21 + 13 + 3 ≤ b + 204 := by omega
  have s_m_H : b + 204 + 9 ≤ b + 69 ∨ b + 69 + 130 ≤ b + 204 := by omega
  have s_m_L : b + 204 + 9 ≤ b + 213 ∨ b + 213 + 1 ≤ b + 204 := by omega
  have s_B_m : b + 1 ≤ b + 204 ∨ b + 204 + 9 ≤ b := by omega
  have s_t_m : b + 1 + 2 ≤ b + 204 ∨ b + 204 + 9 ≤ b + 1 := by omega
  have s_d_m : b + 3 + 9 ≤ b + 204 ∨ b + 204 + 9 ≤ b + 3 := by omega
  have s_s_m : b + 12 + 9 ≤ b + 204 ∨ b + 204 + 9 ≤ b + 12 := by omega
  have s_p_m : b + 21 + 10 ≤ b + 204 ∨ b + 204 + 9 ≤ b + 21 := by omega
  have s_w_m : b + 21 + 10 + 3 ≤ b + 204 ∨ b + 204 + 9 ≤ b + 21 + 10 := by omega
  have s_e_m : b + 21 + 13 + 3 ≤ b + 204 ∨ b + 204 + 9 ≤ b + 21 + 13 := by omega
  have s_H_m : b + 69 + 130 ≤ b + 204 ∨ b + 204 + 9 ≤ b + 69 := by omega
  have s_L_m : b + 213 + 1 ≤ b + 204 ∨ b + 204 + 9 ≤ b + 213 := by omega
  unfold F_case_1 at hF
  have fr : rx_fr [(b, 1), (b + 1, 2), (b + 3, 9), (b + 12, 9), (b + 21, 10), (b + 21 + 10, 3), (b + 21 + 13, 3), (b + 69, 130), (b + 204, 9), (b + 213, 1)] h h := rx_fr0
  refine rx_aload_n C dL_law_377 1 rfl ?_
  refine rx_aload_n C dL_law_378 0 rfl ?_
  refine rx_iload C dL_law_379 4 rfl ?_
  refine rx_iconst C dL_law_381 (1 : Int32) (by decide) ?_
  refine rx_iadd C dL_law_382 ?_
  refine rx_sld C hX hbl hbA h1 dL_law_383 ?_
  refine rx_aload_n C dL_law_384 3 rfl ?_
  replace hF := rx_biE hF; obtain ⟨y1, e_y1, hF⟩ := hF
  refine rx_xci (rx_rSX C hN (w_L_loadGame hst e_y1 b_B b_t b_d b_s b_p b_w b_e b_H b_L (by omega)) Y_L_loadGame S_L_loadGame m_L_142 ⟨⟨rfl, rfl⟩, ⟨(Nat.le_of_ble_eq_true rfl), (Nat.le_of_ble_eq_true rfl)⟩, ⟨by show _ ≤ 601024; omega, by show _ ≤ 7293034; omega⟩⟩ rfl rfl (Nat.le_of_ble_eq_true rfl) dL_law_385) (fun E hh n1 hx => hx.elim) (fun r hh n hpp => ?_)
  obtain ⟨rfl, hn0, c_B, c_t, c_d, c_s, c_p, c_w, c_e, c_H, c_L, ff⟩ := hpp
  replace b_B : bB k b y1.2.1 hh := c_B
  clear c_B
  replace b_t : bT k (b + 1) y1.2.2.1 hh := c_t
  clear c_t
  replace b_d : bS k (b + 3) y1.2.2.2.1 hh := c_d
  clear c_d
  replace b_s : bS k (b + 12) y1.2.2.2.2.1 hh := c_s
  clear c_s
  replace b_p : bP k (b + 21) (b + 12) y1.2.2.2.2.2.1 hh := c_p
  clear c_p
  replace b_w : bQ k (b + 21 + 10) y1.2.2.2.2.2.2.1 hh := c_w
  clear c_w
  replace b_e : bQ k (b + 21 + 13) y1.2.2.2.2.2.2.2.1 hh := c_e
  clear c_e
  replace b_H : bHH k (b + 69) (b + 12) y1.2.2.2.2.2.2.2.2.1 hh := c_H
  clear c_H
  replace b_L : bL k (b + 213) y1.2.2.2.2.2.2.2.2.2 hh := c_L
  clear c_L
  replace ff : rx_fr [(b, 1), (b + 1, 2), (b + 3, 9), (b + 12, 9), (b + 21, 10), (b + 21 + 10, 3), (b + 21 + 13, 3), (b + 69, 130), (b + 213, 1)] _ hh := ff
  replace b_m := b_m.keep ff ⟨s_m_B, s_m_t, s_m_d, s_m_s, s_m_p, s_m_w, s_m_e, s_m_H, s_m_L, trivial⟩
  replace fr := rx_frt fr ff (fun a ha => ⟨ha.1, ha.2.1, ha.2.2.1, ha.2.2.2.1, ha.2.2.2.2.1, ha.2.2.2.2.2.1, ha.2.2.2.2.2.2.1, ha.2.2.2.2.2.2.2.1, ha.2.2.2.2.2.2.2.2.2.1, trivial⟩)
  refine rx_istore C dL_law_388 (by decide) [(5, .int y1.1), (0, .ref sc), (1, .ref b), (2, .ref (b + 204)), (3, .ref (b + 213)), (4, .int x4)] rfl ?_
  refine rx_aload_n C dL_law_390 3 rfl ?_
  refine rx_aload_n C dL_law_391 1 rfl ?_
  refine rx_iload C dL_law_392 5 rfl ?_
  refine rx_iconst C dL_law_394 (1 : Int32) (by decide) ?_
  refine rx_iadd C dL_law_395 ?_
  refine rx_sld C hX hbl hbA h1 dL_law_396 ?_
  replace hF := rx_biE hF; obtain ⟨y2, e_y2, hF⟩ := hF
  refine rx_ci (rx_rV C (w_X9_loadGame e_y2 b_m) Y_X9_loadGame V_X9_loadGame m_L_147 (Or.inl ⟨_, _, _, _, b_m.1, rfl⟩) ⟨⟨rfl, rfl⟩, ⟨(Nat.le_of_ble_eq_true rfl), (Nat.le_of_ble_eq_true rfl)⟩, ⟨by show _ ≤ 601024; omega, by show _ ≤ 7293034; omega⟩⟩ rfl rfl (Nat.le_of_ble_eq_true rfl) dL_law_397) (fun r hh n1 hpp => ?_)
  obtain ⟨rfl, hn, c_m, ff⟩ := hpp
  replace hn : n = n1 := Eq.symm hn
  subst hn
  replace b_m : bM k (b + 204) y2.2 hh := c_m
  clear c_m
  replace ff : rx_fr [(b + 204, 9)] _ hh := ff
  replace b_B := b_B.keep ff ⟨s_B_m, trivial⟩
  replace b_t := b_t.keep ff ⟨s_t_m, trivial⟩
  replace b_d := b_d.keep ff ⟨s_d_m, trivial⟩
  replace b_s := b_s.keep ff ⟨s_s_m, trivial⟩
  replace b_p := b_p.keep ff ⟨s_p_m, trivial⟩
  replace b_w := b_w.keep ff ⟨s_w_m, trivial⟩
  replace b_e := b_e.keep ff ⟨s_e_m, trivial⟩
  replace b_H := b_H.keep ff ⟨s_H_m, trivial⟩
  replace b_L := b_L.keep ff ⟨s_L_m, trivial⟩
  replace fr := rx_frt fr ff (fun a ha => ⟨ha.2.2.2.2.2.2.2.2.1, trivial⟩)
  refine rx_istore C dL_law_400 (by decide) [(6, .int y2.1), (5, .int y1.1), (0, .ref sc), (1, .ref b), (2, .ref (b + 204)), (3, .ref (b + 213)), (4, .int x4)] rfl ?_
  refine rx_aload_n C dL_law_402 4 rfl ?_
  replace hF := rx_biE hF; obtain ⟨y3, e_y3, hF⟩ := hF
  refine rx_ci (rx_rV C (w_X9_thrown e_y3 b_m) Y_X9_thrown V_X9_thrown m_L_148 (Or.inl ⟨_, _, _, _, b_m.1, rfl⟩) ⟨⟨rfl, rfl⟩, ⟨(Nat.le_of_ble_eq_true rfl), (Nat.le_of_ble_eq_true rfl)⟩, ⟨by show _ ≤ 601024; omega, by show _ ≤ 7293034; omega⟩⟩ rfl rfl (Nat.le_of_ble_eq_true rfl) dL_law_403) (fun r hh n1 hpp => ?_)
  obtain ⟨rfl, hu⟩ := hpp
  cases hu
  refine rx_iload C dL_law_406 1 rfl ?_
  refine rx_icmp_eq C dL_law_408 413 (by decide) (fun c4 => ?_) (fun c4 => ?_)
  · rw [if_pos c4] at hF
    refine rx_iload C dL_law_413 1 rfl ?_
    refine rx_if_ne C dL_law_415 430 (by decide) (fun c5 => ?_) (fun c5 => ?_)
    · rw [if_neg c5] at hF
      refine rx_goto C dL_law_430 3126 (by decide) ?_
      obtain rfl := Option.some.inj hF
      refine rx_sub [2, 3, 4, 5, 6] rfl ?_
      exact rx_wide (cells + 3) (slots + 18) (by omega) (by omega) (KK _ _ (hn0) b_B b_t b_d b_s b_p b_w b_e b_H b_m b_L fr)
    · rw [if_pos c5] at hF
      refine rx_aload_n C dL_law_418 5 rfl ?_
      refine rx_iconst C dL_law_419 (0 : Int32) (by decide) ?_
      refine rx_ldL C dL_law_420 b_L ?_
      refine rx_iload C dL_law_421 0 rfl ?_
      refine rx_i2l C dL_law_423 ?_
      refine rx_lcmp C dL_law_424 ?_
      refine rx_if_eq C dL_law_425 430 (by decide) (fun c6 => ?_) (fun c6 => ?_)
      · rw [if_pos c6] at hF
        refine rx_goto C dL_law_430 3126 (by decide) ?_
        obtain rfl := Option.some.inj hF
        refine rx_sub [2, 3, 4, 5, 6] rfl ?_
        exact rx_wide (cells + 3) (slots + 18) (by omega) (by omega) (KK _ _ (hn0) b_B b_t b_d b_s b_p b_w b_e b_H b_m b_L fr)
      · rw [if_neg c6] at hF
        refine rx_iconst C dL_law_428 (0 : Int32) (by decide) ?_
        cases hF
  · rw [if_neg c4] at hF
    refine rx_iconst C dL_law_411 (0 : Int32) (by decide) ?_
    cases hF
def F_case_2 (oB : ob) (ot : ob) (om : ob) : Option (ob) := (F_X8_errorCode oB ot).bind fun y1 => (F_X9_errorCode om).bind fun y2 => if y1 = y2.1 then (some y2.2) else (none)
set_option maxRecDepth 100000 in
set_option maxHeartbeats 4000000 in
theorem lc_2 {b : Nat} {oB : ob} {ot : ob} {om : ob} {y : ob} (hst : l.stackTraces = false) (hF : F_case_2 oB ot om = some y) (C : rx_C G k P9 M9 c9 cL_law RL 9 ret9 S9 A9 me9) (hN : rx_NC S9) (hX : va_X sc len xs S9 S9.heap) (hbl : sc < S9.heap.size) (hbA : ¬ k 0 ≤ sc) (hcl : cells + 3 ≤ 601024) (hsl : slots + 18 ≤ 7293034) (b_B : bB k b oB h) (b_t : bT k (b + 1) ot h) (b_m : bM k (b + 204) om h) (KK : ∀ (hh : hp) (n1 : Nat), n ≤ n1 → bM k (b + 204) y hh → rx_fr [(b + 204, 9)] h hh → rx_W P9 l E9 room_1 S9 M9 A9 B9 me9 c9 Q9 G k 9 (cells + 3) (slots + 18) hh n1 3126 [(0, .ref sc), (1, .ref b), (2, .ref (b + 204)), (3, .ref (b + 213)), (4, .int x4)] []) : rx_W P9 l E9 room_1 S9 M9 A9 B9 me9 c9 Q9 G k 9 cells slots h n 433 [(0, .ref sc), (1, .ref b), (2, .ref (b + 204)), (3, .ref (b + 213)), (4, .int x4)] [] := by
  have s_B_m : b + 1 ≤ b + 204 ∨ b + 204 + 9 ≤ b := by omega
  have s_t_m : b + 1 + 2 ≤ b + 204 ∨ b + 204 + 9 ≤ b + 1 := by omega
  unfold F_case_2 at hF
  have fr : rx_fr [(b + 204, 9)] h h := rx_fr0
  refine rx_aload_n C dL_law_433 1 rfl ?_
  replace hF := rx_biE hF; obtain ⟨y1, e_y1, hF⟩ := hF
  refine rx_ci (rx_rV C (w_X8_errorCode e_y1 b_B b_t) Y_X8_errorCode V_X8_errorCode m_L_151 (Or.inl ⟨_, _, _, _, b_B, rfl⟩) ⟨⟨rfl, rfl⟩, ⟨(Nat.le_of_ble_eq_true rfl), (Nat.le_of_ble_eq_true rfl)⟩, ⟨by show _ ≤ 601024; omega, by show _ ≤ 7293034; omega⟩⟩ rfl rfl (Nat.le_of_ble_eq_true rfl) dL_law_434) (fun r hh n1 hpp => ?_)
  obtain ⟨rfl, hu⟩ := hpp
  cases hu
  refine rx_aload_n C dL_law_437 2 rfl ?_
  replace hF := rx_biE hF; obtain ⟨y2, e_y2, hF⟩ := hF
  refine rx_ci (rx_rV C (w_X9_errorCode e_y2 b_m) Y_X9_errorCode V_X9_errorCode m_L_154 (Or.inl ⟨_, _, _, _, b_m.1, rfl⟩) ⟨⟨rfl, rfl⟩, ⟨(Nat.le_of_ble_eq_true rfl), (Nat.le_of_ble_eq_true rfl)⟩, ⟨by show _ ≤ 601024; omega, by show _ ≤ 7293034; omega⟩⟩ rfl rfl (Nat.le_of_ble_eq_true rfl) dL_law_438) (fun r hh n1 hpp => ?_)
  obtain ⟨rfl, hn, c_m, ff⟩ := hpp
  replace hn : n = n1 := Eq.symm hn
  subst hn
  replace b_m : bM k (b + 204) y2.2 hh := c_m
  clear c_m
  replace ff : rx_fr [(b + 204, 9)] _ hh := ff
  replace b_B := b_B.keep ff ⟨s_B_m, trivial⟩
  replace b_t := b_t.keep ff ⟨s_t_m, trivial⟩
  replace fr := rx_frt fr ff (fun a ha => ⟨ha.1, trivial⟩)
  refine rx_icmp_eq C dL_law_441 3126 (by decide) (fun c3 => ?_) (fun c3 => ?_)
  · rw [if_pos c3] at hF
    obtain rfl := Option.some.inj hF
    exact rx_wide (cells + 3) (slots + 18) (by omega) (by omega) (KK _ _ (Nat.le_refl _) b_m fr)
  · rw [if_neg c3] at hF
    refine rx_iconst C dL_law_444 (0 : Int32) (by decide) ?_
    cases hF
def F_case_3 (oB : ob) (ot : ob) (om : ob) : Option (ob) := (F_X8_errorOffset oB ot).bind fun y1 => (F_X9_errorOffset om).bind fun y2 => if y1 = y2.1 then (some y2.2) else (none)
set_option maxRecDepth 100000 in
set_option maxHeartbeats 4000000 in
theorem lc_3 {b : Nat} {oB : ob} {ot : ob} {om : ob} {y : ob} (hst : l.stackTraces = false) (hF : F_case_3 oB ot om = some y) (C : rx_C G k P9 M9 c9 cL_law RL 9 ret9 S9 A9 me9) (hN : rx_NC S9) (hX : va_X sc len xs S9 S9.heap) (hbl : sc < S9.heap.size) (hbA : ¬ k 0 ≤ sc) (hcl : cells + 3 ≤ 601024) (hsl : slots + 18 ≤ 7293034) (b_B : bB k b oB h) (b_t : bT k (b + 1) ot h) (b_m : bM k (b + 204) om h) (KK : ∀ (hh : hp) (n1 : Nat), n ≤ n1 → bM k (b + 204) y hh → rx_fr [(b + 204, 9)] h hh → rx_W P9 l E9 room_1 S9 M9 A9 B9 me9 c9 Q9 G k 9 (cells + 3) (slots + 18) hh n1 3126 [(0, .ref sc), (1, .ref b), (2, .ref (b + 204)), (3, .ref (b + 213)), (4, .int x4)] []) : rx_W P9 l E9 room_1 S9 M9 A9 B9 me9 c9 Q9 G k 9 cells slots h n 446 [(0, .ref sc), (1, .ref b), (2, .ref (b + 204)), (3, .ref (b + 213)), (4, .int x4)] [] := by
  have s_B_m : b + 1 ≤ b + 204 ∨ b + 204 + 9 ≤ b := by omega
  have s_t_m : b + 1 + 2 ≤ b + 204 ∨ b + 204 + 9 ≤ b + 1 := by omega
  unfold F_case_3 at hF
  have fr : rx_fr [(b + 204, 9)] h h := rx_fr0
  refine rx_aload_n C dL_law_446 1 rfl ?_
  replace hF := rx_biE hF; obtain ⟨y1, e_y1, hF⟩ := hF
  refine rx_ci (rx_rV C (w_X8_errorOffset e_y1 b_B b_t) Y_X8_errorOffset V_X8_errorOffset m_L_155 (Or.inl ⟨_, _, _, _, b_B, rfl⟩) ⟨⟨rfl, rfl⟩, ⟨(Nat.le_of_ble_eq_true rfl), (Nat.le_of_ble_eq_true rfl)⟩, ⟨by show _ ≤ 601024; omega, by show _ ≤ 7293034; omega⟩⟩ rfl rfl (Nat.le_of_ble_eq_true rfl) dL_law_447) (fun r hh n1 hpp => ?_)
  obtain ⟨rfl, hu⟩ := hpp
  cases hu
  refine rx_aload_n C dL_law_450 2 rfl ?_
  replace hF := rx_biE hF; obtain ⟨y2, e_y2, hF⟩ := hF
  refine rx_ci (rx_rV C (w_X9_errorOffset e_y2 b_m) Y_X9_errorOffset V_X9_errorOffset m_L_158 (Or.inl ⟨_, _, _, _, b_m.1, rfl⟩) ⟨⟨rfl, rfl⟩, ⟨(Nat.le_of_ble_eq_true rfl), (Nat.le_of_ble_eq_true rfl)⟩, ⟨by show _ ≤ 601024; omega, by show _ ≤ 7293034; omega⟩⟩ rfl rfl (Nat.le_of_ble_eq_true rfl) dL_law_451) (fun r hh n1 hpp => ?_)
  obtain ⟨rfl, hn, c_m, ff⟩ := hpp
  replace hn : n = n1 := Eq.symm hn
  subst hn
  replace b_m : bM k (b + 204) y2.2 hh := c_m
  clear c_m
  replace ff : rx_fr [(b + 204, 9)] _ hh := ff
  replace b_B := b_B.keep ff ⟨s_B_m, trivial⟩
  replace b_t := b_t.keep ff ⟨s_t_m, trivial⟩
  replace fr := rx_frt fr ff (fun a ha => ⟨ha.1, trivial⟩)
  refine rx_icmp_eq C dL_law_454 3126 (by decide) (fun c3 => ?_) (fun c3 => ?_)
  · rw [if_pos c3] at hF
    obtain rfl := Option.some.inj hF
    exact rx_wide (cells + 3) (slots + 18) (by omega) (by omega) (KK _ _ (Nat.le_refl _) b_m fr)
  · rw [if_neg c3] at hF
    refine rx_iconst C dL_law_457 (0 : Int32) (by decide) ?_
    cases hF
def F_case_4 (oB : ob) (op : ob) (om : ob) : Option (ob) := (F_X8_turn oB op).bind fun y1 => (F_X9_turn om).bind fun y2 => if y1 = y2.1 then (some y2.2) else (none)
set_option maxRecDepth 100000 in
set_option maxHeartbeats 4000000 in
theorem lc_4 {b : Nat} {oB : ob} {op : ob} {om : ob} {y : ob} (hst : l.stackTraces = false) (hF : F_case_4 oB op om = some y) (C : rx_C G k P9 M9 c9 cL_law RL 9 ret9 S9 A9 me9) (hN : rx_NC S9) (hX : va_X sc len xs S9 S9.heap) (hbl : sc < S9.heap.size) (hbA : ¬ k 0 ≤ sc) (hcl : cells + 3 ≤ 601024) (hsl : slots + 18 ≤ 7293034) (b_B : bB k b oB h) (b_p : bP k (b + 21) (b + 12) op h) (b_m : bM k (b + 204) om h) (KK : ∀ (hh : hp) (n1 : Nat), n ≤ n1 → bM k (b + 204) y hh → rx_fr [(b + 204, 9)] h hh → rx_W P9 l E9 room_1 S9 M9 A9 B9 me9 c9 Q9 G k 9 (cells + 3) (slots + 18) hh n1 3126 [(0, .ref sc), (1, .ref b), (2, .ref (b + 204)), (3, .ref (b + 213)), (4, .int x4)] []) : rx_W P9 l E9 room_1 S9 M9 A9 B9 me9 c9 Q9 G k 9 cells slots h n 459 [(0, .ref sc), (1, .ref b), (2, .ref (b + 204)), (3, .ref (b + 213)), (4, .int x4)] [] := by
  have s_B_m : b + 1 ≤ b + 204 ∨ b + 204 + 9 ≤ b := by omega
  have s_p_m : b + 21 + 10 ≤ b + 204 ∨ b + 204 + 9 ≤ b + 21 := by omega
  unfold F_case_4 at hF
  have fr : rx_fr [(b + 204, 9)] h h := rx_fr0
  refine rx_aload_n C dL_law_459 1 rfl ?_
  replace hF := rx_biE hF; obtain ⟨y1, e_y1, hF⟩ := hF
  refine rx_ci (rx_rV C (w_X8_turn e_y1 b_B b_p) Y_X8_turn V_X8_turn m_L_159 (Or.inl ⟨_, _, _, _, b_B, rfl⟩) ⟨⟨rfl, rfl⟩, ⟨(Nat.le_of_ble_eq_true rfl), (Nat.le_of_ble_eq_true rfl)⟩, ⟨by show _ ≤ 601024; omega, by show _ ≤ 7293034; omega⟩⟩ rfl rfl (Nat.le_of_ble_eq_true rfl) dL_law_460) (fun r hh n1 hpp => ?_)
  obtain ⟨rfl, hu⟩ := hpp
  cases hu
  refine rx_aload_n C dL_law_463 2 rfl ?_
  replace hF := rx_biE hF; obtain ⟨y2, e_y2, hF⟩ := hF
  refine rx_ci (rx_rV C (w_X9_turn e_y2 b_m) Y_X9_turn V_X9_turn m_L_162 (Or.inl ⟨_, _, _, _, b_m.1, rfl⟩) ⟨⟨rfl, rfl⟩, ⟨(Nat.le_of_ble_eq_true rfl), (Nat.le_of_ble_eq_true rfl)⟩, ⟨by show _ ≤ 601024; omega, by show _ ≤ 7293034; omega⟩⟩ rfl rfl (Nat.le_of_ble_eq_true rfl) dL_law_464) (fun r hh n1 hpp => ?_)
  obtain ⟨rfl, hn, c_m, ff⟩ := hpp
  replace hn : n = n1 := Eq.symm hn
  subst hn
  replace b_m : bM k (b + 204) y2.2 hh := c_m
  clear c_m
  replace ff : rx_fr [(b + 204, 9)] _ hh := ff
  replace b_B := b_B.keep ff ⟨s_B_m, trivial⟩
  replace b_p := b_p.keep ff ⟨s_p_m, trivial⟩
  replace fr := rx_frt fr ff (fun a ha => ⟨ha.1, trivial⟩)
  refine rx_icmp_eq C dL_law_467 3126 (by decide) (fun c3 => ?_) (fun c3 => ?_)
  · rw [if_pos c3] at hF
    obtain rfl := Option.some.inj hF
    exact rx_wide (cells + 3) (slots + 18) (by omega) (by omega) (KK _ _ (Nat.le_refl _) b_m fr)
  · rw [if_neg c3] at hF
    refine rx_iconst C dL_law_470 (0 : Int32) (by decide) ?_
    cases hF
def F_case_5 (oB : ob) (op : ob) (om : ob) : Option (ob) := (F_X8_limitAngle oB op).bind fun y1 => (F_X9_limitAngle om).bind fun y2 => if y1 = y2.1 then (some y2.2) else (none)
set_option maxRecDepth 100000 in
set_option maxHeartbeats 4000000 in
theorem lc_5 {b : Nat} {oB : ob} {op : ob} {om : ob} {y : ob} (hst : l.stackTraces = false) (hF : F_case_5 oB op om = some y) (C : rx_C G k P9 M9 c9 cL_law RL 9 ret9 S9 A9 me9) (hN : rx_NC S9) (hX : va_X sc len xs S9 S9.heap) (hbl : sc < S9.heap.size) (hbA : ¬ k 0 ≤ sc) (hcl : cells + 3 ≤ 601024) (hsl : slots + 18 ≤ 7293034) (b_B : bB k b oB h) (b_p : bP k (b + 21) (b + 12) op h) (b_m : bM k (b + 204) om h) (KK : ∀ (hh : hp) (n1 : Nat), n ≤ n1 → bM k (b + 204) y hh → rx_fr [(b + 204, 9)] h hh → rx_W P9 l E9 room_1 S9 M9 A9 B9 me9 c9 Q9 G k 9 (cells + 3) (slots + 18) hh n1 3126 [(0, .ref sc), (1, .ref b), (2, .ref (b + 204)), (3, .ref (b + 213)), (4, .int x4)] []) : rx_W P9 l E9 room_1 S9 M9 A9 B9 me9 c9 Q9 G k 9 cells slots h n 472 [(0, .ref sc), (1, .ref b), (2, .ref (b + 204)), (3, .ref (b + 213)), (4, .int x4)] [] := by
  have s_B_m : b + 1 ≤ b + 204 ∨ b + 204 + 9 ≤ b := by omega
  have s_p_m : b + 21 + 10 ≤ b + 204 ∨ b + 204 + 9 ≤ b + 21 := by omega
  unfold F_case_5 at hF
  have fr : rx_fr [(b + 204, 9)] h h := rx_fr0
  refine rx_aload_n C dL_law_472 1 rfl ?_
  replace hF := rx_biE hF; obtain ⟨y1, e_y1, hF⟩ := hF
  refine rx_ci (rx_rV C (w_X8_limitAngle e_y1 b_B b_p) Y_X8_limitAngle V_X8_limitAngle m_L_163 (Or.inl ⟨_, _, _, _, b_B, rfl⟩) ⟨⟨rfl, rfl⟩, ⟨(Nat.le_of_ble_eq_true rfl), (Nat.le_of_ble_eq_true rfl)⟩, ⟨by show _ ≤ 601024; omega, by show _ ≤ 7293034; omega⟩⟩ rfl rfl (Nat.le_of_ble_eq_true rfl) dL_law_473) (fun r hh n1 hpp => ?_)
  obtain ⟨rfl, hu⟩ := hpp
  cases hu
  refine rx_aload_n C dL_law_476 2 rfl ?_
  replace hF := rx_biE hF; obtain ⟨y2, e_y2, hF⟩ := hF
  refine rx_ci (rx_rV C (w_X9_limitAngle e_y2 b_m) Y_X9_limitAngle V_X9_limitAngle m_L_166 (Or.inl ⟨_, _, _, _, b_m.1, rfl⟩) ⟨⟨rfl, rfl⟩, ⟨(Nat.le_of_ble_eq_true rfl), (Nat.le_of_ble_eq_true rfl)⟩, ⟨by show _ ≤ 601024; omega, by show _ ≤ 7293034; omega⟩⟩ rfl rfl (Nat.le_of_ble_eq_true rfl) dL_law_477) (fun r hh n1 hpp => ?_)
  obtain ⟨rfl, hn, c_m, ff⟩ := hpp
  replace hn : n = n1 := Eq.symm hn
  subst hn
  replace b_m : bM k (b + 204) y2.2 hh := c_m
  clear c_m
  replace ff : rx_fr [(b + 204, 9)] _ hh := ff
  replace b_B := b_B.keep ff ⟨s_B_m, trivial⟩
  replace b_p := b_p.keep ff ⟨s_p_m, trivial⟩
  replace fr := rx_frt fr ff (fun a ha => ⟨ha.1, trivial⟩)
  refine rx_icmp_eq C dL_law_480 3126 (by decide) (fun c3 => ?_) (fun c3 => ?_)
  · rw [if_pos c3] at hF
    obtain rfl := Option.some.inj hF
    exact rx_wide (cells + 3) (slots + 18) (by omega) (by omega) (KK _ _ (Nat.le_refl _) b_m fr)
  · rw [if_neg c3] at hF
    refine rx_iconst C dL_law_483 (0 : Int32) (by decide) ?_
    cases hF
def F_case_6 (oB : ob) (op : ob) (om : ob) : Option (ob) := (F_X8_tollBox oB op).bind fun y1 => (F_X9_tollBox om).bind fun y2 => if y1 = y2.1 then (some y2.2) else (none)
set_option maxRecDepth 100000 in
set_option maxHeartbeats 4000000 in
theorem lc_6 {b : Nat} {oB : ob} {op : ob} {om : ob} {y : ob} (hst : l.stackTraces = false) (hF : F_case_6 oB op om = some y) (C : rx_C G k P9 M9 c9 cL_law RL 9 ret9 S9 A9 me9) (hN : rx_NC S9) (hX : va_X sc len xs S9 S9.heap) (hbl : sc < S9.heap.size) (hbA : ¬ k 0 ≤ sc) (hcl : cells + 3 ≤ 601024) (hsl : slots + 18 ≤ 7293034) (b_B : bB k b oB h) (b_p : bP k (b + 21) (b + 12) op h) (b_m : bM k (b + 204) om h) (KK : ∀ (hh : hp) (n1 : Nat), n ≤ n1 → bM k (b + 204) y hh → rx_fr [(b + 204, 9)] h hh → rx_W P9 l E9 room_1 S9 M9 A9 B9 me9 c9 Q9 G k 9 (cells + 3) (slots + 18) hh n1 3126 [(0, .ref sc), (1, .ref b), (2, .ref (b + 204)), (3, .ref (b + 213)), (4, .int x4)] []) : rx_W P9 l E9 room_1 S9 M9 A9 B9 me9 c9 Q9 G k 9 cells slots h n 485 [(0, .ref sc), (1, .ref b), (2, .ref (b + 204)), (3, .ref (b + 213)), (4, .int x4)] [] := by
  have s_B_m : b + 1 ≤ b + 204 ∨ b + 204 + 9 ≤ b := by omega
  have s_p_m : b + 21 + 10 ≤ b + 204 ∨ b + 204 + 9 ≤ b + 21 := by omega
  unfold F_case_6 at hF
  have fr : rx_fr [(b + 204, 9)] h h := rx_fr0
  refine rx_aload_n C dL_law_485 1 rfl ?_
  replace hF := rx_biE hF; obtain ⟨y1, e_y1, hF⟩ := hF
  refine rx_ci (rx_rV C (w_X8_tollBox e_y1 b_B b_p) Y_X8_tollBox V_X8_tollBox m_L_167 (Or.inl ⟨_, _, _, _, b_B, rfl⟩) ⟨⟨rfl, rfl⟩, ⟨(Nat.le_of_ble_eq_true rfl), (Nat.le_of_ble_eq_true rfl)⟩, ⟨by show _ ≤ 601024; omega, by show _ ≤ 7293034; omega⟩⟩ rfl rfl (Nat.le_of_ble_eq_true rfl) dL_law_486) (fun r hh n1 hpp => ?_)
  obtain ⟨rfl, hu⟩ := hpp
  cases hu
  refine rx_aload_n C dL_law_489 2 rfl ?_
  replace hF := rx_biE hF; obtain ⟨y2, e_y2, hF⟩ := hF
  refine rx_ci (rx_rV C (w_X9_tollBox e_y2 b_m) Y_X9_tollBox V_X9_tollBox m_L_170 (Or.inl ⟨_, _, _, _, b_m.1, rfl⟩) ⟨⟨rfl, rfl⟩, ⟨(Nat.le_of_ble_eq_true rfl), (Nat.le_of_ble_eq_true rfl)⟩, ⟨by show _ ≤ 601024; omega, by show _ ≤ 7293034; omega⟩⟩ rfl rfl (Nat.le_of_ble_eq_true rfl) dL_law_490) (fun r hh n1 hpp => ?_)
  obtain ⟨rfl, hn, c_m, ff⟩ := hpp
  replace hn : n = n1 := Eq.symm hn
  subst hn
  replace b_m : bM k (b + 204) y2.2 hh := c_m
  clear c_m
  replace ff : rx_fr [(b + 204, 9)] _ hh := ff
  replace b_B := b_B.keep ff ⟨s_B_m, trivial⟩
  replace b_p := b_p.keep ff ⟨s_p_m, trivial⟩
  replace fr := rx_frt fr ff (fun a ha => ⟨ha.1, trivial⟩)
  refine rx_icmp_eq C dL_law_493 3126 (by decide) (fun c3 => ?_) (fun c3 => ?_)
  · rw [if_pos c3] at hF
    obtain rfl := Option.some.inj hF
    exact rx_wide (cells + 3) (slots + 18) (by omega) (by omega) (KK _ _ (Nat.le_refl _) b_m fr)
  · rw [if_neg c3] at hF
    refine rx_iconst C dL_law_496 (0 : Int32) (by decide) ?_
    cases hF
def F_case_7 (oB : ob) (op : ob) (om : ob) (a1 : Int32) : Option (ob) := if a1 = (0 : Int32) then ((F_X8_groundCoins oB op ((0 : Int32))).bind fun y2 => if a1 = (0 : Int32) then ((F_X9_groundCoins om ((0 : Int32))).bind fun y4 => if y2 = y4.1 then (some y4.2) else (none)) else ((F_X9_groundCoins om ((1 : Int32))).bind fun y6 => if y2 = y6.1 then (some y6.2) else (none))) else ((F_X8_groundCoins oB op ((1 : Int32))).bind fun y8 => if a1 = (0 : Int32) then ((F_X9_groundCoins om ((0 : Int32))).bind fun y11 => if y8 = y11.1 then (some y11.2) else (none)) else ((F_X9_groundCoins om ((1 : Int32))).bind fun y13 => if y8 = y13.1 then (some y13.2) else (none)))
set_option maxRecDepth 100000 in
set_option maxHeartbeats 4000000 in
theorem lc_7 {b : Nat} {oB : ob} {op : ob} {om : ob} {a1 : Int32} {y : ob} (hst : l.stackTraces = false) (hF : F_case_7 oB op om a1 = some y) (C : rx_C G k P9 M9 c9 cL_law RL 9 ret9 S9 A9 me9) (hN : rx_NC S9) (hX : va_X sc len xs S9 S9.heap) (hbl : sc < S9.heap.size) (hbA : ¬ k 0 ≤ sc) (h1 : vp_in (x4 + (1 : Int32)) len ∧ xs (x4 + (1 : Int32)).toNatClampNeg = a1) (hcl : cells + 3 ≤ 601024) (hsl : slots + 18 ≤ 7293034) (b_B : bB k b oB h) (b_p : bP k (b + 21) (b + 12) op h) (b_m : bM k (b + 204) om h) (KK : ∀ (hh : hp) (n1 : Nat), n ≤ n1 → bM k (b + 204) y hh → rx_fr [(b + 204, 9)] h hh → rx_W P9 l E9 room_1 S9 M9 A9 B9 me9 c9 Q9 G k 9 (cells + 3) (slots + 18) hh n1 3126 [(0, .ref sc), (1, .ref b), (2, .ref (b + 204)), (3, .ref (b + 213)), (4, .int x4)] []) : rx_W P9 l E9 room_1 S9 M9 A9 B9 me9 c9 Q9 G k 9 cells slots h n 498 [(0, .ref sc), (1, .ref b), (2, .ref (b + 204)), (3, .ref (b + 213)), (4, .int x4)] [] := by
  have s_B_m : b + 1 ≤ b + 204 ∨ b + 204 + 9 ≤ b := by omega
  have s_p_m : b + 21 + 10 ≤ b + 204 ∨ b + 204 + 9 ≤ b + 21 := by omega
  unfold F_case_7 at hF
  have fr : rx_fr [(b + 204, 9)] h h := rx_fr0
  refine rx_aload_n C dL_law_498 1 rfl ?_
  refine rx_aload_n C dL_law_499 0 rfl ?_
  refine rx_iload C dL_law_500 4 rfl ?_
  refine rx_iconst C dL_law_502 (1 : Int32) (by decide) ?_
  refine rx_iadd C dL_law_503 ?_
  refine rx_sld C hX hbl hbA h1 dL_law_504 ?_
  refine rx_if_eq C dL_law_505 512 (by decide) (fun c1 => ?_) (fun c1 => ?_)
  · rw [if_pos c1] at hF
    refine rx_iconst C dL_law_512 (0 : Int32) (by decide) ?_
    replace hF := rx_biE hF; obtain ⟨y2, e_y2, hF⟩ := hF
    refine rx_ci (rx_rV C (w_X8_groundCoins e_y2 b_B b_p) Y_X8_groundCoins V_X8_groundCoins m_L_171 (Or.inl ⟨_, _, _, _, b_B, rfl⟩) ⟨⟨rfl, rfl⟩, ⟨(Nat.le_of_ble_eq_true rfl), (Nat.le_of_ble_eq_true rfl)⟩, ⟨by show _ ≤ 601024; omega, by show _ ≤ 7293034; omega⟩⟩ rfl rfl (Nat.le_of_ble_eq_true rfl) dL_law_513) (fun r hh n1 hpp => ?_)
    obtain ⟨rfl, hu⟩ := hpp
    cases hu
    refine rx_aload_n C dL_law_516 2 rfl ?_
    refine rx_aload_n C dL_law_517 0 rfl ?_
    refine rx_iload C dL_law_518 4 rfl ?_
    refine rx_iconst C dL_law_520 (1 : Int32) (by decide) ?_
    refine rx_iadd C dL_law_521 ?_
    refine rx_sld C hX hbl hbA h1 dL_law_522 ?_
    refine rx_if_eq C dL_law_523 530 (by decide) (fun c3 => ?_) (fun c3 => ?_)
    · rw [if_pos c3] at hF
      refine rx_iconst C dL_law_530 (0 : Int32) (by decide) ?_
      replace hF := rx_biE hF; obtain ⟨y4, e_y4, hF⟩ := hF
      refine rx_ci (rx_rV C (w_X9_groundCoins e_y4 b_m) Y_X9_groundCoins V_X9_groundCoins m_L_175 (Or.inl ⟨_, _, _, _, b_m.1, rfl⟩) ⟨⟨rfl, rfl⟩, ⟨(Nat.le_of_ble_eq_true rfl), (Nat.le_of_ble_eq_true rfl)⟩, ⟨by show _ ≤ 601024; omega, by show _ ≤ 7293034; omega⟩⟩ rfl rfl (Nat.le_of_ble_eq_true rfl) dL_law_531) (fun r hh n1 hpp => ?_)
      obtain ⟨rfl, hn, c_m, ff⟩ := hpp
      replace hn : n = n1 := Eq.symm hn
      subst hn
      replace b_m : bM k (b + 204) y4.2 hh := c_m
      clear c_m
      replace ff : rx_fr [(b + 204, 9)] _ hh := ff
      replace b_B := b_B.keep ff ⟨s_B_m, trivial⟩
      replace b_p := b_p.keep ff ⟨s_p_m, trivial⟩
      replace fr := rx_frt fr ff (fun a ha => ⟨ha.1, trivial⟩)
      refine rx_icmp_eq C dL_law_534 3126 (by decide) (fun c5 => ?_) (fun c5 => ?_)
      · rw [if_pos c5] at hF
        obtain rfl := Option.some.inj hF
        exact rx_wide (cells + 3) (slots + 18) (by omega) (by omega) (KK _ _ (Nat.le_refl _) b_m fr)
      · rw [if_neg c5] at hF
        refine rx_iconst C dL_law_537 (0 : Int32) (by decide) ?_
        cases hF
    · rw [if_neg c3] at hF
      refine rx_iconst C dL_law_526 (1 : Int32) (by decide) ?_
      refine rx_goto C dL_law_527 531 (by decide) ?_
      replace hF := rx_biE hF; obtain ⟨y6, e_y6, hF⟩ := hF
      refine rx_ci (rx_rV C (w_X9_groundCoins e_y6 b_m) Y_X9_groundCoins V_X9_groundCoins m_L_175 (Or.inl ⟨_, _, _, _, b_m.1, rfl⟩) ⟨⟨rfl, rfl⟩, ⟨(Nat.le_of_ble_eq_true rfl), (Nat.le_of_ble_eq_true rfl)⟩, ⟨by show _ ≤ 601024; omega, by show _ ≤ 7293034; omega⟩⟩ rfl rfl (Nat.le_of_ble_eq_true rfl) dL_law_531) (fun r hh n1 hpp => ?_)
      obtain ⟨rfl, hn, c_m, ff⟩ := hpp
      replace hn : n = n1 := Eq.symm hn
      subst hn
      replace b_m : bM k (b + 204) y6.2 hh := c_m
      clear c_m
      replace ff : rx_fr [(b + 204, 9)] _ hh := ff
      replace b_B := b_B.keep ff ⟨s_B_m, trivial⟩
      replace b_p := b_p.keep ff ⟨s_p_m, trivial⟩
      replace fr := rx_frt fr ff (fun a ha => ⟨ha.1, trivial⟩)
      refine rx_icmp_eq C dL_law_534 3126 (by decide) (fun c7 => ?_) (fun c7 => ?_)
      · rw [if_pos c7] at hF
        obtain rfl := Option.some.inj hF
        exact rx_wide (cells + 3) (slots + 18) (by omega) (by omega) (KK _ _ (Nat.le_refl _) b_m fr)
      · rw [if_neg c7] at hF
        refine rx_iconst C dL_law_537 (0 : Int32) (by decide) ?_
        cases hF
  · rw [if_neg c1] at hF
    refine rx_iconst C dL_law_508 (1 : Int32) (by decide) ?_
    refine rx_goto C dL_law_509 513 (by decide) ?_
    replace hF := rx_biE hF; obtain ⟨y8, e_y8, hF⟩ := hF
    refine rx_ci (rx_rV C (w_X8_groundCoins e_y8 b_B b_p) Y_X8_groundCoins V_X8_groundCoins m_L_171 (Or.inl ⟨_, _, _, _, b_B, rfl⟩) ⟨⟨rfl, rfl⟩, ⟨(Nat.le_of_ble_eq_true rfl), (Nat.le_of_ble_eq_true rfl)⟩, ⟨by show _ ≤ 601024; omega, by show _ ≤ 7293034; omega⟩⟩ rfl rfl (Nat.le_of_ble_eq_true rfl) dL_law_513) (fun r hh n1 hpp => ?_)
    obtain ⟨rfl, hu⟩ := hpp
    cases hu
    refine rx_aload_n C dL_law_516 2 rfl ?_
    refine rx_aload_n C dL_law_517 0 rfl ?_
    refine rx_iload C dL_law_518 4 rfl ?_
    refine rx_iconst C dL_law_520 (1 : Int32) (by decide) ?_
    refine rx_iadd C dL_law_521 ?_
    refine rx_sld C hX hbl hbA h1 dL_law_522 ?_
    refine rx_if_eq C dL_law_523 530 (by decide) (fun c10 => ?_) (fun c10 => ?_)
    · rw [if_pos c10] at hF
      refine rx_iconst C dL_law_530 (0 : Int32) (by decide) ?_
      replace hF := rx_biE hF; obtain ⟨y11, e_y11, hF⟩ := hF
      refine rx_ci (rx_rV C (w_X9_groundCoins e_y11 b_m) Y_X9_groundCoins V_X9_groundCoins m_L_175 (Or.inl ⟨_, _, _, _, b_m.1, rfl⟩) ⟨⟨rfl, rfl⟩, ⟨(Nat.le_of_ble_eq_true rfl), (Nat.le_of_ble_eq_true rfl)⟩, ⟨by show _ ≤ 601024; omega, by show _ ≤ 7293034; omega⟩⟩ rfl rfl (Nat.le_of_ble_eq_true rfl) dL_law_531) (fun r hh n1 hpp => ?_)
      obtain ⟨rfl, hn, c_m, ff⟩ := hpp
      replace hn : n = n1 := Eq.symm hn
      subst hn
      replace b_m : bM k (b + 204) y11.2 hh := c_m
      clear c_m
      replace ff : rx_fr [(b + 204, 9)] _ hh := ff
      replace b_B := b_B.keep ff ⟨s_B_m, trivial⟩
      replace b_p := b_p.keep ff ⟨s_p_m, trivial⟩
      replace fr := rx_frt fr ff (fun a ha => ⟨ha.1, trivial⟩)
      refine rx_icmp_eq C dL_law_534 3126 (by decide) (fun c12 => ?_) (fun c12 => ?_)
      · rw [if_pos c12] at hF
        obtain rfl := Option.some.inj hF
        exact rx_wide (cells + 3) (slots + 18) (by omega) (by omega) (KK _ _ (Nat.le_refl _) b_m fr)
      · rw [if_neg c12] at hF
        refine rx_iconst C dL_law_537 (0 : Int32) (by decide) ?_
        cases hF
    · rw [if_neg c10] at hF
      refine rx_iconst C dL_law_526 (1 : Int32) (by decide) ?_
      refine rx_goto C dL_law_527 531 (by decide) ?_
      replace hF := rx_biE hF; obtain ⟨y13, e_y13, hF⟩ := hF
      refine rx_ci (rx_rV C (w_X9_groundCoins e_y13 b_m) Y_X9_groundCoins V_X9_groundCoins m_L_175 (Or.inl ⟨_, _, _, _, b_m.1, rfl⟩) ⟨⟨rfl, rfl⟩, ⟨(Nat.le_of_ble_eq_true rfl), (Nat.le_of_ble_eq_true rfl)⟩, ⟨by show _ ≤ 601024; omega, by show _ ≤ 7293034; omega⟩⟩ rfl rfl (Nat.le_of_ble_eq_true rfl) dL_law_531) (fun r hh n1 hpp => ?_)
      obtain ⟨rfl, hn, c_m, ff⟩ := hpp
      replace hn : n = n1 := Eq.symm hn
      subst hn
      replace b_m : bM k (b + 204) y13.2 hh := c_m
      clear c_m
      replace ff : rx_fr [(b + 204, 9)] _ hh := ff
      replace b_B := b_B.keep ff ⟨s_B_m, trivial⟩
      replace b_p := b_p.keep ff ⟨s_p_m, trivial⟩
      replace fr := rx_frt fr ff (fun a ha => ⟨ha.1, trivial⟩)
      refine rx_icmp_eq C dL_law_534 3126 (by decide) (fun c14 => ?_) (fun c14 => ?_)
      · rw [if_pos c14] at hF
        obtain rfl := Option.some.inj hF
        exact rx_wide (cells + 3) (slots + 18) (by omega) (by omega) (KK _ _ (Nat.le_refl _) b_m fr)
      · rw [if_neg c14] at hF
        refine rx_iconst C dL_law_537 (0 : Int32) (by decide) ?_
        cases hF
def F_case_8 (oB : ob) (os : ob) (om : ob) : Option (ob) := (F_X8_personCount oB os).bind fun y1 => (F_X9_personCount om).bind fun y2 => if y1 = y2.1 then (some y2.2) else (none)
set_option maxRecDepth 100000 in
set_option maxHeartbeats 4000000 in
theorem lc_8 {b : Nat} {oB : ob} {os : ob} {om : ob} {y : ob} (hst : l.stackTraces = false) (hF : F_case_8 oB os om = some y) (C : rx_C G k P9 M9 c9 cL_law RL 9 ret9 S9 A9 me9) (hN : rx_NC S9) (hX : va_X sc len xs S9 S9.heap) (hbl : sc < S9.heap.size) (hbA : ¬ k 0 ≤ sc) (hcl : cells + 3 ≤ 601024) (hsl : slots + 18 ≤ 7293034) (b_B : bB k b oB h) (b_s : bS k (b + 12) os h) (b_m : bM k (b + 204) om h) (KK : ∀ (hh : hp) (n1 : Nat), n ≤ n1 → bM k (b + 204) y hh → rx_fr [(b + 204, 9)] h hh → rx_W P9 l E9 room_1 S9 M9 A9 B9 me9 c9 Q9 G k 9 (cells + 3) (slots + 18) hh n1 3126 [(0, .ref sc), (1, .ref b), (2, .ref (b + 204)), (3, .ref (b + 213)), (4, .int x4)] []) : rx_W P9 l E9 room_1 S9 M9 A9 B9 me9 c9 Q9 G k 9 cells slots h n 539 [(0, .ref sc), (1, .ref b), (2, .ref (b + 204)), (3, .ref (b + 213)), (4, .int x4)] [] := by
  have s_B_m : b + 1 ≤ b + 204 ∨ b + 204 + 9 ≤ b := by omega
  have s_s_m : b + 12 + 9 ≤ b + 204 ∨ b + 204 + 9 ≤ b + 12 := by omega
  unfold F_case_8 at hF
  have fr : rx_fr [(b + 204, 9)] h h := rx_fr0
  refine rx_aload_n C dL_law_539 1 rfl ?_
  replace hF := rx_biE hF; obtain ⟨y1, e_y1, hF⟩ := hF
  refine rx_ci (rx_rV C (w_X8_personCount e_y1 b_B b_s) Y_X8_personCount V_X8_personCount m_L_176 (Or.inl ⟨_, _, _, _, b_B, rfl⟩) ⟨⟨rfl, rfl⟩, ⟨(Nat.le_of_ble_eq_true rfl), (Nat.le_of_ble_eq_true rfl)⟩, ⟨by show _ ≤ 601024; omega, by show _ ≤ 7293034; omega⟩⟩ rfl rfl (Nat.le_of_ble_eq_true rfl) dL_law_540) (fun r hh n1 hpp => ?_)
  obtain ⟨rfl, hu⟩ := hpp
  cases hu
  refine rx_aload_n C dL_law_543 2 rfl ?_
  replace hF := rx_biE hF; obtain ⟨y2, e_y2, hF⟩ := hF
  refine rx_ci (rx_rV C (w_X9_personCount e_y2 b_m) Y_X9_personCount V_X9_personCount m_L_179 (Or.inl ⟨_, _, _, _, b_m.1, rfl⟩) ⟨⟨rfl, rfl⟩, ⟨(Nat.le_of_ble_eq_true rfl), (Nat.le_of_ble_eq_true rfl)⟩, ⟨by show _ ≤ 601024; omega, by show _ ≤ 7293034; omega⟩⟩ rfl rfl (Nat.le_of_ble_eq_true rfl) dL_law_544) (fun r hh n1 hpp => ?_)
  obtain ⟨rfl, hn, c_m, ff⟩ := hpp
  replace hn : n = n1 := Eq.symm hn
  subst hn
  replace b_m : bM k (b + 204) y2.2 hh := c_m
  clear c_m
  replace ff : rx_fr [(b + 204, 9)] _ hh := ff
  replace b_B := b_B.keep ff ⟨s_B_m, trivial⟩
  replace b_s := b_s.keep ff ⟨s_s_m, trivial⟩
  replace fr := rx_frt fr ff (fun a ha => ⟨ha.1, trivial⟩)
  refine rx_icmp_eq C dL_law_547 3126 (by decide) (fun c3 => ?_) (fun c3 => ?_)
  · rw [if_pos c3] at hF
    obtain rfl := Option.some.inj hF
    exact rx_wide (cells + 3) (slots + 18) (by omega) (by omega) (KK _ _ (Nat.le_refl _) b_m fr)
  · rw [if_neg c3] at hF
    refine rx_iconst C dL_law_550 (0 : Int32) (by decide) ?_
    cases hF
def F_case_9 (oB : ob) (os : ob) (om : ob) : Option (ob) := (F_X8_kingCount oB os).bind fun y1 => (F_X9_kingCount om).bind fun y2 => if y1 = y2.1 then (some y2.2) else (none)
set_option maxRecDepth 100000 in
set_option maxHeartbeats 4000000 in
theorem lc_9 {b : Nat} {oB : ob} {os : ob} {om : ob} {y : ob} (hst : l.stackTraces = false) (hF : F_case_9 oB os om = some y) (C : rx_C G k P9 M9 c9 cL_law RL 9 ret9 S9 A9 me9) (hN : rx_NC S9) (hX : va_X sc len xs S9 S9.heap) (hbl : sc < S9.heap.size) (hbA : ¬ k 0 ≤ sc) (hcl : cells + 3 ≤ 601024) (hsl : slots + 18 ≤ 7293034) (b_B : bB k b oB h) (b_s : bS k (b + 12) os h) (b_m : bM k (b + 204) om h) (KK : ∀ (hh : hp) (n1 : Nat), n ≤ n1 → bM k (b + 204) y hh → rx_fr [(b + 204, 9)] h hh → rx_W P9 l E9 room_1 S9 M9 A9 B9 me9 c9 Q9 G k 9 (cells + 3) (slots + 18) hh n1 3126 [(0, .ref sc), (1, .ref b), (2, .ref (b + 204)), (3, .ref (b + 213)), (4, .int x4)] []) : rx_W P9 l E9 room_1 S9 M9 A9 B9 me9 c9 Q9 G k 9 cells slots h n 552 [(0, .ref sc), (1, .ref b), (2, .ref (b + 204)), (3, .ref (b + 213)), (4, .int x4)] [] := by
  have s_B_m : b + 1 ≤ b + 204 ∨ b + 204 + 9 ≤ b := by omega
  have s_s_m : b + 12 + 9 ≤ b + 204 ∨ b + 204 + 9 ≤ b + 12 := by omega
  unfold F_case_9 at hF
  have fr : rx_fr [(b + 204, 9)] h h := rx_fr0
  refine rx_aload_n C dL_law_552 1 rfl ?_
  replace hF := rx_biE hF; obtain ⟨y1, e_y1, hF⟩ := hF
  refine rx_ci (rx_rV C (w_X8_kingCount e_y1 b_B b_s) Y_X8_kingCount V_X8_kingCount m_L_180 (Or.inl ⟨_, _, _, _, b_B, rfl⟩) ⟨⟨rfl, rfl⟩, ⟨(Nat.le_of_ble_eq_true rfl), (Nat.le_of_ble_eq_true rfl)⟩, ⟨by show _ ≤ 601024; omega, by show _ ≤ 7293034; omega⟩⟩ rfl rfl (Nat.le_of_ble_eq_true rfl) dL_law_553) (fun r hh n1 hpp => ?_)
  obtain ⟨rfl, hu⟩ := hpp
  cases hu
  refine rx_aload_n C dL_law_556 2 rfl ?_
  replace hF := rx_biE hF; obtain ⟨y2, e_y2, hF⟩ := hF
  refine rx_ci (rx_rV C (w_X9_kingCount e_y2 b_m) Y_X9_kingCount V_X9_kingCount m_L_183 (Or.inl ⟨_, _, _, _, b_m.1, rfl⟩) ⟨⟨rfl, rfl⟩, ⟨(Nat.le_of_ble_eq_true rfl), (Nat.le_of_ble_eq_true rfl)⟩, ⟨by show _ ≤ 601024; omega, by show _ ≤ 7293034; omega⟩⟩ rfl rfl (Nat.le_of_ble_eq_true rfl) dL_law_557) (fun r hh n1 hpp => ?_)
  obtain ⟨rfl, hn, c_m, ff⟩ := hpp
  replace hn : n = n1 := Eq.symm hn
  subst hn
  replace b_m : bM k (b + 204) y2.2 hh := c_m
  clear c_m
  replace ff : rx_fr [(b + 204, 9)] _ hh := ff
  replace b_B := b_B.keep ff ⟨s_B_m, trivial⟩
  replace b_s := b_s.keep ff ⟨s_s_m, trivial⟩
  replace fr := rx_frt fr ff (fun a ha => ⟨ha.1, trivial⟩)
  refine rx_icmp_eq C dL_law_560 3126 (by decide) (fun c3 => ?_) (fun c3 => ?_)
  · rw [if_pos c3] at hF
    obtain rfl := Option.some.inj hF
    exact rx_wide (cells + 3) (slots + 18) (by omega) (by omega) (KK _ _ (Nat.le_refl _) b_m fr)
  · rw [if_neg c3] at hF
    refine rx_iconst C dL_law_563 (0 : Int32) (by decide) ?_
    cases hF
def F_case_10 (oB : ob) (os : ob) (op : ob) (om : ob) (a1 : Int32) : Option (ob) := if a1 = (0 : Int32) then ((F_X8_bankCount oB os op ((0 : Int32))).bind fun y2 => if a1 = (0 : Int32) then ((F_X9_bankCount om ((0 : Int32))).bind fun y4 => if y2 = y4.1 then (some y4.2) else (none)) else ((F_X9_bankCount om ((1 : Int32))).bind fun y6 => if y2 = y6.1 then (some y6.2) else (none))) else ((F_X8_bankCount oB os op ((1 : Int32))).bind fun y8 => if a1 = (0 : Int32) then ((F_X9_bankCount om ((0 : Int32))).bind fun y11 => if y8 = y11.1 then (some y11.2) else (none)) else ((F_X9_bankCount om ((1 : Int32))).bind fun y13 => if y8 = y13.1 then (some y13.2) else (none)))
set_option maxRecDepth 100000 in
set_option maxHeartbeats 4000000 in
theorem lc_10 {b : Nat} {oB : ob} {os : ob} {op : ob} {om : ob} {a1 : Int32} {y : ob} (hst : l.stackTraces = false) (hF : F_case_10 oB os op om a1 = some y) (C : rx_C G k P9 M9 c9 cL_law RL 9 ret9 S9 A9 me9) (hN : rx_NC S9) (hX : va_X sc len xs S9 S9.heap) (hbl : sc < S9.heap.size) (hbA : ¬ k 0 ≤ sc) (h1 : vp_in (x4 + (1 : Int32)) len ∧ xs (x4 + (1 : Int32)).toNatClampNeg = a1) (hcl : cells + 3 ≤ 601024) (hsl : slots + 18 ≤ 7293034) (b_B : bB k b oB h) (b_s : bS k (b + 12) os h) (b_p : bP k (b + 21) (b + 12) op h) (b_m : bM k (b + 204) om h) (KK : ∀ (hh : hp) (n1 : Nat), n ≤ n1 → bM k (b + 204) y hh → rx_fr [(b + 204, 9)] h hh → rx_W P9 l E9 room_1 S9 M9 A9 B9 me9 c9 Q9 G k 9 (cells + 3) (slots + 18) hh n1 3126 [(0, .ref sc), (1, .ref b), (2, .ref (b + 204)), (3, .ref (b + 213)), (4, .int x4)] []) : rx_W P9 l E9 room_1 S9 M9 A9 B9 me9 c9 Q9 G k 9 cells slots h n 565 [(0, .ref sc), (1, .ref b), (2, .ref (b + 204)), (3, .ref (b + 213)), (4, .int x4)] [] := by
  have s_B_m : b + 1 ≤ b + 204 ∨ b + 204 + 9 ≤ b := by omega
  have s_s_m : b + 12 + 9 ≤ b + 204 ∨ b + 204 + 9 ≤ b + 12 := by omega
  have s_p_m : b + 21 + 10 ≤ b + 204 ∨ b + 204 + 9 ≤ b + 21 := by omega
  unfold F_case_10 at hF
  have fr : rx_fr [(b + 204, 9)] h h := rx_fr0
  refine rx_aload_n C dL_law_565 1 rfl ?_
  refine rx_aload_n C dL_law_566 0 rfl ?_
  refine rx_iload C dL_law_567 4 rfl ?_
  refine rx_iconst C dL_law_569 (1 : Int32) (by decide) ?_
  refine rx_iadd C dL_law_570 ?_
  refine rx_sld C hX hbl hbA h1 dL_law_571 ?_
  refine rx_if_eq C dL_law_572 579 (by decide) (fun c1 => ?_) (fun c1 => ?_)
  · rw [if_pos c1] at hF
    refine rx_iconst C dL_law_579 (0 : Int32) (by decide) ?_
    replace hF := rx_biE hF; obtain ⟨y2, e_y2, hF⟩ := hF
    refine rx_ci (rx_rV C (w_X8_bankCount e_y2 b_B b_s b_p) Y_X8_bankCount V_X8_bankCount m_L_184 (Or.inl ⟨_, _, _, _, b_B, rfl⟩) ⟨⟨rfl, rfl⟩, ⟨(Nat.le_of_ble_eq_true rfl), (Nat.le_of_ble_eq_true rfl)⟩, ⟨by show _ ≤ 601024; omega, by show _ ≤ 7293034; omega⟩⟩ rfl rfl (Nat.le_of_ble_eq_true rfl) dL_law_580) (fun r hh n1 hpp => ?_)
    obtain ⟨rfl, hu⟩ := hpp
    cases hu
    refine rx_aload_n C dL_law_583 2 rfl ?_
    refine rx_aload_n C dL_law_584 0 rfl ?_
    refine rx_iload C dL_law_585 4 rfl ?_
    refine rx_iconst C dL_law_587 (1 : Int32) (by decide) ?_
    refine rx_iadd C dL_law_588 ?_
    refine rx_sld C hX hbl hbA h1 dL_law_589 ?_
    refine rx_if_eq C dL_law_590 597 (by decide) (fun c3 => ?_) (fun c3 => ?_)
    · rw [if_pos c3] at hF
      refine rx_iconst C dL_law_597 (0 : Int32) (by decide) ?_
      replace hF := rx_biE hF; obtain ⟨y4, e_y4, hF⟩ := hF
      refine rx_ci (rx_rV C (w_X9_bankCount e_y4 b_m) Y_X9_bankCount V_X9_bankCount m_L_187 (Or.inl ⟨_, _, _, _, b_m.1, rfl⟩) ⟨⟨rfl, rfl⟩, ⟨(Nat.le_of_ble_eq_true rfl), (Nat.le_of_ble_eq_true rfl)⟩, ⟨by show _ ≤ 601024; omega, by show _ ≤ 7293034; omega⟩⟩ rfl rfl (Nat.le_of_ble_eq_true rfl) dL_law_598) (fun r hh n1 hpp => ?_)
      obtain ⟨rfl, hn, c_m, ff⟩ := hpp
      replace hn : n = n1 := Eq.symm hn
      subst hn
      replace b_m : bM k (b + 204) y4.2 hh := c_m
      clear c_m
      replace ff : rx_fr [(b + 204, 9)] _ hh := ff
      replace b_B := b_B.keep ff ⟨s_B_m, trivial⟩
      replace b_s := b_s.keep ff ⟨s_s_m, trivial⟩
      replace b_p := b_p.keep ff ⟨s_p_m, trivial⟩
      replace fr := rx_frt fr ff (fun a ha => ⟨ha.1, trivial⟩)
      refine rx_icmp_eq C dL_law_601 3126 (by decide) (fun c5 => ?_) (fun c5 => ?_)
      · rw [if_pos c5] at hF
        obtain rfl := Option.some.inj hF
        exact rx_wide (cells + 3) (slots + 18) (by omega) (by omega) (KK _ _ (Nat.le_refl _) b_m fr)
      · rw [if_neg c5] at hF
        refine rx_iconst C dL_law_604 (0 : Int32) (by decide) ?_
        cases hF
    · rw [if_neg c3] at hF
      refine rx_iconst C dL_law_593 (1 : Int32) (by decide) ?_
      refine rx_goto C dL_law_594 598 (by decide) ?_
      replace hF := rx_biE hF; obtain ⟨y6, e_y6, hF⟩ := hF
      refine rx_ci (rx_rV C (w_X9_bankCount e_y6 b_m) Y_X9_bankCount V_X9_bankCount m_L_187 (Or.inl ⟨_, _, _, _, b_m.1, rfl⟩) ⟨⟨rfl, rfl⟩, ⟨(Nat.le_of_ble_eq_true rfl), (Nat.le_of_ble_eq_true rfl)⟩, ⟨by show _ ≤ 601024; omega, by show _ ≤ 7293034; omega⟩⟩ rfl rfl (Nat.le_of_ble_eq_true rfl) dL_law_598) (fun r hh n1 hpp => ?_)
      obtain ⟨rfl, hn, c_m, ff⟩ := hpp
      replace hn : n = n1 := Eq.symm hn
      subst hn
      replace b_m : bM k (b + 204) y6.2 hh := c_m
      clear c_m
      replace ff : rx_fr [(b + 204, 9)] _ hh := ff
      replace b_B := b_B.keep ff ⟨s_B_m, trivial⟩
      replace b_s := b_s.keep ff ⟨s_s_m, trivial⟩
      replace b_p := b_p.keep ff ⟨s_p_m, trivial⟩
      replace fr := rx_frt fr ff (fun a ha => ⟨ha.1, trivial⟩)
      refine rx_icmp_eq C dL_law_601 3126 (by decide) (fun c7 => ?_) (fun c7 => ?_)
      · rw [if_pos c7] at hF
        obtain rfl := Option.some.inj hF
        exact rx_wide (cells + 3) (slots + 18) (by omega) (by omega) (KK _ _ (Nat.le_refl _) b_m fr)
      · rw [if_neg c7] at hF
        refine rx_iconst C dL_law_604 (0 : Int32) (by decide) ?_
        cases hF
  · rw [if_neg c1] at hF
    refine rx_iconst C dL_law_575 (1 : Int32) (by decide) ?_
    refine rx_goto C dL_law_576 580 (by decide) ?_
    replace hF := rx_biE hF; obtain ⟨y8, e_y8, hF⟩ := hF
    refine rx_ci (rx_rV C (w_X8_bankCount e_y8 b_B b_s b_p) Y_X8_bankCount V_X8_bankCount m_L_184 (Or.inl ⟨_, _, _, _, b_B, rfl⟩) ⟨⟨rfl, rfl⟩, ⟨(Nat.le_of_ble_eq_true rfl), (Nat.le_of_ble_eq_true rfl)⟩, ⟨by show _ ≤ 601024; omega, by show _ ≤ 7293034; omega⟩⟩ rfl rfl (Nat.le_of_ble_eq_true rfl) dL_law_580) (fun r hh n1 hpp => ?_)
    obtain ⟨rfl, hu⟩ := hpp
    cases hu
    refine rx_aload_n C dL_law_583 2 rfl ?_
    refine rx_aload_n C dL_law_584 0 rfl ?_
    refine rx_iload C dL_law_585 4 rfl ?_
    refine rx_iconst C dL_law_587 (1 : Int32) (by decide) ?_
    refine rx_iadd C dL_law_588 ?_
    refine rx_sld C hX hbl hbA h1 dL_law_589 ?_
    refine rx_if_eq C dL_law_590 597 (by decide) (fun c10 => ?_) (fun c10 => ?_)
    · rw [if_pos c10] at hF
      refine rx_iconst C dL_law_597 (0 : Int32) (by decide) ?_
      replace hF := rx_biE hF; obtain ⟨y11, e_y11, hF⟩ := hF
      refine rx_ci (rx_rV C (w_X9_bankCount e_y11 b_m) Y_X9_bankCount V_X9_bankCount m_L_187 (Or.inl ⟨_, _, _, _, b_m.1, rfl⟩) ⟨⟨rfl, rfl⟩, ⟨(Nat.le_of_ble_eq_true rfl), (Nat.le_of_ble_eq_true rfl)⟩, ⟨by show _ ≤ 601024; omega, by show _ ≤ 7293034; omega⟩⟩ rfl rfl (Nat.le_of_ble_eq_true rfl) dL_law_598) (fun r hh n1 hpp => ?_)
      obtain ⟨rfl, hn, c_m, ff⟩ := hpp
      replace hn : n = n1 := Eq.symm hn
      subst hn
      replace b_m : bM k (b + 204) y11.2 hh := c_m
      clear c_m
      replace ff : rx_fr [(b + 204, 9)] _ hh := ff
      replace b_B := b_B.keep ff ⟨s_B_m, trivial⟩
      replace b_s := b_s.keep ff ⟨s_s_m, trivial⟩
      replace b_p := b_p.keep ff ⟨s_p_m, trivial⟩
      replace fr := rx_frt fr ff (fun a ha => ⟨ha.1, trivial⟩)
      refine rx_icmp_eq C dL_law_601 3126 (by decide) (fun c12 => ?_) (fun c12 => ?_)
      · rw [if_pos c12] at hF
        obtain rfl := Option.some.inj hF
        exact rx_wide (cells + 3) (slots + 18) (by omega) (by omega) (KK _ _ (Nat.le_refl _) b_m fr)
      · rw [if_neg c12] at hF
        refine rx_iconst C dL_law_604 (0 : Int32) (by decide) ?_
        cases hF
    · rw [if_neg c10] at hF
      refine rx_iconst C dL_law_593 (1 : Int32) (by decide) ?_
      refine rx_goto C dL_law_594 598 (by decide) ?_
      replace hF := rx_biE hF; obtain ⟨y13, e_y13, hF⟩ := hF
      refine rx_ci (rx_rV C (w_X9_bankCount e_y13 b_m) Y_X9_bankCount V_X9_bankCount m_L_187 (Or.inl ⟨_, _, _, _, b_m.1, rfl⟩) ⟨⟨rfl, rfl⟩, ⟨(Nat.le_of_ble_eq_true rfl), (Nat.le_of_ble_eq_true rfl)⟩, ⟨by show _ ≤ 601024; omega, by show _ ≤ 7293034; omega⟩⟩ rfl rfl (Nat.le_of_ble_eq_true rfl) dL_law_598) (fun r hh n1 hpp => ?_)
      obtain ⟨rfl, hn, c_m, ff⟩ := hpp
      replace hn : n = n1 := Eq.symm hn
      subst hn
      replace b_m : bM k (b + 204) y13.2 hh := c_m
      clear c_m
      replace ff : rx_fr [(b + 204, 9)] _ hh := ff
      replace b_B := b_B.keep ff ⟨s_B_m, trivial⟩
      replace b_s := b_s.keep ff ⟨s_s_m, trivial⟩
      replace b_p := b_p.keep ff ⟨s_p_m, trivial⟩
      replace fr := rx_frt fr ff (fun a ha => ⟨ha.1, trivial⟩)
      refine rx_icmp_eq C dL_law_601 3126 (by decide) (fun c14 => ?_) (fun c14 => ?_)
      · rw [if_pos c14] at hF
        obtain rfl := Option.some.inj hF
        exact rx_wide (cells + 3) (slots + 18) (by omega) (by omega) (KK _ _ (Nat.le_refl _) b_m fr)
      · rw [if_neg c14] at hF
        refine rx_iconst C dL_law_604 (0 : Int32) (by decide) ?_
        cases hF
def F_case_11 (oB : ob) (os : ob) (om : ob) (oL : (Nat → Int64)) (a1 : Int32) : Option (ob × (Nat → Int64)) := (F_L_isKing oB os oL a1).bind fun y1 => (F_X9_isKing om a1).bind fun y2 => (F_X9_thrown y2.2).bind fun y3 => if y3 = y1.1 then (if y1.1 = (0 : Int32) then (if y2.1 = (0 : Int32) then (if (lg_cmp ((y1.2 0)) ((0 : Int64))) = (0 : Int32) then (some (y2.2, y1.2)) else (none)) else (if (lg_cmp ((y1.2 0)) ((1 : Int64))) = (0 : Int32) then (some (y2.2, y1.2)) else (none))) else (some (y2.2, y1.2))) else (none)
set_option maxRecDepth 100000 in
set_option maxHeartbeats 4000000 in
theorem lc_11 {b : Nat} {oB : ob} {os : ob} {om : ob} {oL : (Nat → Int64)} {a1 : Int32} {y : ob × (Nat → Int64)} (hst : l.stackTraces = false) (hF : F_case_11 oB os om oL a1 = some y) (C : rx_C G k P9 M9 c9 cL_law RL 9 ret9 S9 A9 me9) (hN : rx_NC S9) (hX : va_X sc len xs S9 S9.heap) (hbl : sc < S9.heap.size) (hbA : ¬ k 0 ≤ sc) (h1 : vp_in (x4 + (1 : Int32)) len ∧ xs (x4 + (1 : Int32)).toNatClampNeg = a1) (hcl : cells + 3 ≤ 601024) (hsl : slots + 18 ≤ 7293034) (b_B : bB k b oB h) (b_s : bS k (b + 12) os h) (b_m : bM k (b + 204) om h) (b_L : bL k (b + 213) oL h) (KK : ∀ (hh : hp) (n1 : Nat), n ≤ n1 → bM k (b + 204) y.1 hh → bL k (b + 213) y.2 hh → rx_fr [(b + 204, 9), (b + 213, 1)] h hh → rx_W P9 l E9 room_1 S9 M9 A9 B9 me9 c9 Q9 G k 9 (cells + 3) (slots + 18) hh n1 3126 [(0, .ref sc), (1, .ref b), (2, .ref (b + 204)), (3, .ref (b + 213)), (4, .int x4)] []) : rx_W P9 l E9 room_1 S9 M9 A9 B9 me9 c9 Q9 G k 9 cells slots h n 606 [(0, .ref sc), (1, .ref b), (2, .ref (b + 204)), (3, .ref (b + 213)), (4, .int x4)] [] := by
  have s_B_L : b + 1 ≤ b + 213 ∨ b + 213 + 1 ≤ b := by omega
  have s_s_L : b + 12 + 9 ≤ b + 213 ∨ b + 213 + 1 ≤ b + 12 := by omega
  have s_m_L : b + 204 + 9 ≤ b + 213 ∨ b + 213 + 1 ≤ b + 204 := by omega
  have s_B_m : b + 1 ≤ b + 204 ∨ b + 204 + 9 ≤ b := by omega
  have s_s_m : b + 12 + 9 ≤ b + 204 ∨ b + 204 + 9 ≤ b + 12 := by omega
  have s_L_m : b + 213 + 1 ≤ b + 204 ∨ b + 204 + 9 ≤ b + 213 := by omega
  unfold F_case_11 at hF
  have fr : rx_fr [(b + 204, 9), (b + 213, 1)] h h := rx_fr0
  refine rx_aload_n C dL_law_606 1 rfl ?_
  refine rx_aload_n C dL_law_607 0 rfl ?_
  refine rx_iload C dL_law_608 4 rfl ?_
  refine rx_iconst C dL_law_610 (1 : Int32) (by decide) ?_
  refine rx_iadd C dL_law_611 ?_
  refine rx_sld C hX hbl hbA h1 dL_law_612 ?_
  refine rx_aload_n C dL_law_613 3 rfl ?_
  replace hF := rx_biE hF; obtain ⟨y1, e_y1, hF⟩ := hF
  refine rx_xci (rx_rSX C hN (w_L_isKing hst e_y1 b_B b_s b_L (by omega)) Y_L_isKing S_L_isKing m_L_188 ⟨⟨rfl, rfl⟩, ⟨(Nat.le_of_ble_eq_true rfl), (Nat.le_of_ble_eq_true rfl)⟩, ⟨by show _ ≤ 601024; omega, by show _ ≤ 7293034; omega⟩⟩ rfl rfl (Nat.le_of_ble_eq_true rfl) dL_law_614) (fun E hh n1 hx => hx.elim) (fun r hh n hpp => ?_)
  obtain ⟨rfl, hn0, c_L, ff⟩ := hpp
  replace b_L : bL k (b + 213) y1.2 hh := c_L
  clear c_L
  replace ff : rx_fr [(b + 213, 1)] _ hh := ff
  replace b_B := b_B.keep ff ⟨s_B_L, trivial⟩
  replace b_s := b_s.keep ff ⟨s_s_L, trivial⟩
  replace b_m := b_m.keep ff ⟨s_m_L, trivial⟩
  replace fr := rx_frt fr ff (fun a ha => ⟨ha.2.1, trivial⟩)
  refine rx_istore C dL_law_617 (by decide) [(5, .int y1.1), (0, .ref sc), (1, .ref b), (2, .ref (b + 204)), (3, .ref (b + 213)), (4, .int x4)] rfl ?_
  refine rx_aload_n C dL_law_619 3 rfl ?_
  refine rx_aload_n C dL_law_620 1 rfl ?_
  refine rx_iload C dL_law_621 5 rfl ?_
  refine rx_iconst C dL_law_623 (1 : Int32) (by decide) ?_
  refine rx_iadd C dL_law_624 ?_
  refine rx_sld C hX hbl hbA h1 dL_law_625 ?_
  replace hF := rx_biE hF; obtain ⟨y2, e_y2, hF⟩ := hF
  refine rx_ci (rx_rV C (w_X9_isKing e_y2 b_m) Y_X9_isKing V_X9_isKing m_L_190 (Or.inl ⟨_, _, _, _, b_m.1, rfl⟩) ⟨⟨rfl, rfl⟩, ⟨(Nat.le_of_ble_eq_true rfl), (Nat.le_of_ble_eq_true rfl)⟩, ⟨by show _ ≤ 601024; omega, by show _ ≤ 7293034; omega⟩⟩ rfl rfl (Nat.le_of_ble_eq_true rfl) dL_law_626) (fun r hh n1 hpp => ?_)
  obtain ⟨rfl, bo_y2, hn, c_m, ff⟩ := hpp
  replace hn : n = n1 := Eq.symm hn
  subst hn
  replace b_m : bM k (b + 204) y2.2 hh := c_m
  clear c_m
  replace ff : rx_fr [(b + 204, 9)] _ hh := ff
  replace b_B := b_B.keep ff ⟨s_B_m, trivial⟩
  replace b_s := b_s.keep ff ⟨s_s_m, trivial⟩
  replace b_L := b_L.keep ff ⟨s_L_m, trivial⟩
  replace fr := rx_frt fr ff (fun a ha => ⟨ha.1, trivial⟩)
  refine rx_istore C dL_law_629 (by decide) [(6, .int y2.1), (5, .int y1.1), (0, .ref sc), (1, .ref b), (2, .ref (b + 204)), (3, .ref (b + 213)), (4, .int x4)] rfl ?_
  refine rx_aload_n C dL_law_631 4 rfl ?_
  replace hF := rx_biE hF; obtain ⟨y3, e_y3, hF⟩ := hF
  refine rx_ci (rx_rV C (w_X9_thrown e_y3 b_m) Y_X9_thrown V_X9_thrown m_L_148 (Or.inl ⟨_, _, _, _, b_m.1, rfl⟩) ⟨⟨rfl, rfl⟩, ⟨(Nat.le_of_ble_eq_true rfl), (Nat.le_of_ble_eq_true rfl)⟩, ⟨by show _ ≤ 601024; omega, by show _ ≤ 7293034; omega⟩⟩ rfl rfl (Nat.le_of_ble_eq_true rfl) dL_law_632) (fun r hh n1 hpp => ?_)
  obtain ⟨rfl, hu⟩ := hpp
  cases hu
  refine rx_iload C dL_law_635 1 rfl ?_
  refine rx_icmp_eq C dL_law_637 642 (by decide) (fun c4 => ?_) (fun c4 => ?_)
  · rw [if_pos c4] at hF
    refine rx_iload C dL_law_642 1 rfl ?_
    refine rx_if_ne C dL_law_644 666 (by decide) (fun c5 => ?_) (fun c5 => ?_)
    · rw [if_neg c5] at hF
      refine rx_goto C dL_law_666 3126 (by decide) ?_
      obtain rfl := Option.some.inj hF
      refine rx_sub [2, 3, 4, 5, 6] rfl ?_
      exact rx_wide (cells + 3) (slots + 18) (by omega) (by omega) (KK _ _ (hn0) b_m b_L fr)
    · rw [if_pos c5] at hF
      refine rx_aload_n C dL_law_647 5 rfl ?_
      refine rx_iconst C dL_law_648 (0 : Int32) (by decide) ?_
      refine rx_ldL C dL_law_649 b_L ?_
      refine rx_iload C dL_law_650 0 rfl ?_
      refine rx_if_eq C dL_law_652 659 (by decide) (fun c6 => ?_) (fun c6 => ?_)
      · rw [if_pos c6] at hF
        refine rx_lconst C dL_law_659 0 (by decide) ?_
        refine rx_lcmp C dL_law_660 ?_
        refine rx_if_eq C dL_law_661 666 (by decide) (fun c7 => ?_) (fun c7 => ?_)
        · rw [if_pos c7] at hF
          refine rx_goto C dL_law_666 3126 (by decide) ?_
          obtain rfl := Option.some.inj hF
          refine rx_sub [2, 3, 4, 5, 6] rfl ?_
          exact rx_wide (cells + 3) (slots + 18) (by omega) (by omega) (KK _ _ (hn0) b_m b_L fr)
        · rw [if_neg c7] at hF
          refine rx_iconst C dL_law_664 (0 : Int32) (by decide) ?_
          cases hF
      · rw [if_neg c6] at hF
        refine rx_lconst C dL_law_655 1 (by decide) ?_
        refine rx_goto C dL_law_656 660 (by decide) ?_
        refine rx_lcmp C dL_law_660 ?_
        refine rx_if_eq C dL_law_661 666 (by decide) (fun c8 => ?_) (fun c8 => ?_)
        · rw [if_pos c8] at hF
          refine rx_goto C dL_law_666 3126 (by decide) ?_
          obtain rfl := Option.some.inj hF
          refine rx_sub [2, 3, 4, 5, 6] rfl ?_
          exact rx_wide (cells + 3) (slots + 18) (by omega) (by omega) (KK _ _ (hn0) b_m b_L fr)
        · rw [if_neg c8] at hF
          refine rx_iconst C dL_law_664 (0 : Int32) (by decide) ?_
          cases hF
  · rw [if_neg c4] at hF
    refine rx_iconst C dL_law_640 (0 : Int32) (by decide) ?_
    cases hF
def F_case_12 (oB : ob) (os : ob) (op : ob) (om : ob) (oL : (Nat → Int64)) (a1 : Int32) : Option (ob × (Nat → Int64)) := (F_L_isEast oB os op oL a1).bind fun y1 => (F_X9_isEast om a1).bind fun y2 => (F_X9_thrown y2.2).bind fun y3 => if y3 = y1.1 then (if y1.1 = (0 : Int32) then (if y2.1 = (0 : Int32) then (if (lg_cmp ((y1.2 0)) ((0 : Int64))) = (0 : Int32) then (some (y2.2, y1.2)) else (none)) else (if (lg_cmp ((y1.2 0)) ((1 : Int64))) = (0 : Int32) then (some (y2.2, y1.2)) else (none))) else (some (y2.2, y1.2))) else (none)
set_option maxRecDepth 100000 in
set_option maxHeartbeats 4000000 in
theorem lc_12 {b : Nat} {oB : ob} {os : ob} {op : ob} {om : ob} {oL : (Nat → Int64)} {a1 : Int32} {y : ob × (Nat → Int64)} (hst : l.stackTraces = false) (hF : F_case_12 oB os op om oL a1 = some y) (C : rx_C G k P9 M9 c9 cL_law RL 9 ret9 S9 A9 me9) (hN : rx_NC S9) (hX : va_X sc len xs S9 S9.heap) (hbl : sc < S9.heap.size) (hbA : ¬ k 0 ≤ sc) (h1 : vp_in (x4 + (1 : Int32)) len ∧ xs (x4 + (1 : Int32)).toNatClampNeg = a1) (hcl : cells + 3 ≤ 601024) (hsl : slots + 18 ≤ 7293034) (b_B : bB k b oB h) (b_s : bS k (b + 12) os h) (b_p : bP k (b + 21) (b + 12) op h) (b_m : bM k (b + 204) om h) (b_L : bL k (b + 213) oL h) (KK : ∀ (hh : hp) (n1 : Nat), n ≤ n1 → bM k (b + 204) y.1 hh → bL k (b + 213) y.2 hh → rx_fr [(b + 204, 9), (b + 213, 1)] h hh → rx_W P9 l E9 room_1 S9 M9 A9 B9 me9 c9 Q9 G k 9 (cells + 3) (slots + 18) hh n1 3126 [(0, .ref sc), (1, .ref b), (2, .ref (b + 204)), (3, .ref (b + 213)), (4, .int x4)] []) : rx_W P9 l E9 room_1 S9 M9 A9 B9 me9 c9 Q9 G k 9 cells slots h n 669 [(0, .ref sc), (1, .ref b), (2, .ref (b + 204)), (3, .ref (b + 213)), (4, .int x4)] [] := by
  have s_B_L : b + 1 ≤ b + 213 ∨ b + 213 + 1 ≤ b := by omega
  have s_s_L : b + 12 + 9 ≤ b + 213 ∨ b + 213 + 1 ≤ b + 12 := by omega
  have s_p_L : b + 21 + 10 ≤ b + 213 ∨ b + 213 + 1 ≤ b + 21 := by omega
  have s_m_L : b + 204 + 9 ≤ b + 213 ∨ b + 213 + 1 ≤ b + 204 := by omega
  have s_B_m : b + 1 ≤ b + 204 ∨ b + 204 + 9 ≤ b := by omega
  have s_s_m : b + 12 + 9 ≤ b + 204 ∨ b + 204 + 9 ≤ b + 12 := by omega
  have s_p_m : b + 21 + 10 ≤ b + 204 ∨ b + 204 + 9 ≤ b + 21 := by omega
  have s_L_m : b + 213 + 1 ≤ b + 204 ∨ b + 204 + 9 ≤ b + 213 := by omega
  unfold F_case_12 at hF
  have fr : rx_fr [(b + 204, 9), (b + 213, 1)] h h := rx_fr0
  refine rx_aload_n C dL_law_669 1 rfl ?_
  refine rx_aload_n C dL_law_670 0 rfl ?_
  refine rx_iload C dL_law_671 4 rfl ?_
  refine rx_iconst C dL_law_673 (1 : Int32) (by decide) ?_
  refine rx_iadd C dL_law_674 ?_
  refine rx_sld C hX hbl hbA h1 dL_law_675 ?_
  refine rx_aload_n C dL_law_676 3 rfl ?_
  replace hF := rx_biE hF; obtain ⟨y1, e_y1, hF⟩ := hF
  refine rx_xci (rx_rSX C hN (w_L_isEast hst e_y1 b_B b_s b_p b_L (by omega)) Y_L_isEast S_L_isEast m_L_191 ⟨⟨rfl, rfl⟩, ⟨(Nat.le_of_ble_eq_true rfl), (Nat.le_of_ble_eq_true rfl)⟩, ⟨by show _ ≤ 601024; omega, by show _ ≤ 7293034; omega⟩⟩ rfl rfl (Nat.le_of_ble_eq_true rfl) dL_law_677) (fun E hh n1 hx => hx.elim) (fun r hh n hpp => ?_)
  obtain ⟨rfl, hn0, c_L, ff⟩ := hpp
  replace b_L : bL k (b + 213) y1.2 hh := c_L
  clear c_L
  replace ff : rx_fr [(b + 213, 1)] _ hh := ff
  replace b_B := b_B.keep ff ⟨s_B_L, trivial⟩
  replace b_s := b_s.keep ff ⟨s_s_L, trivial⟩
  replace b_p := b_p.keep ff ⟨s_p_L, trivial⟩
  replace b_m := b_m.keep ff ⟨s_m_L, trivial⟩
  replace fr := rx_frt fr ff (fun a ha => ⟨ha.2.1, trivial⟩)
  refine rx_istore C dL_law_680 (by decide) [(5, .int y1.1), (0, .ref sc), (1, .ref b), (2, .ref (b + 204)), (3, .ref (b + 213)), (4, .int x4)] rfl ?_
  refine rx_aload_n C dL_law_682 3 rfl ?_
  refine rx_aload_n C dL_law_683 1 rfl ?_
  refine rx_iload C dL_law_684 5 rfl ?_
  refine rx_iconst C dL_law_686 (1 : Int32) (by decide) ?_
  refine rx_iadd C dL_law_687 ?_
  refine rx_sld C hX hbl hbA h1 dL_law_688 ?_
  replace hF := rx_biE hF; obtain ⟨y2, e_y2, hF⟩ := hF
  refine rx_ci (rx_rV C (w_X9_isEast e_y2 b_m) Y_X9_isEast V_X9_isEast m_L_193 (Or.inl ⟨_, _, _, _, b_m.1, rfl⟩) ⟨⟨rfl, rfl⟩, ⟨(Nat.le_of_ble_eq_true rfl), (Nat.le_of_ble_eq_true rfl)⟩, ⟨by show _ ≤ 601024; omega, by show _ ≤ 7293034; omega⟩⟩ rfl rfl (Nat.le_of_ble_eq_true rfl) dL_law_689) (fun r hh n1 hpp => ?_)
  obtain ⟨rfl, bo_y2, hn, c_m, ff⟩ := hpp
  replace hn : n = n1 := Eq.symm hn
  subst hn
  replace b_m : bM k (b + 204) y2.2 hh := c_m
  clear c_m
  replace ff : rx_fr [(b + 204, 9)] _ hh := ff
  replace b_B := b_B.keep ff ⟨s_B_m, trivial⟩
  replace b_s := b_s.keep ff ⟨s_s_m, trivial⟩
  replace b_p := b_p.keep ff ⟨s_p_m, trivial⟩
  replace b_L := b_L.keep ff ⟨s_L_m, trivial⟩
  replace fr := rx_frt fr ff (fun a ha => ⟨ha.1, trivial⟩)
  refine rx_istore C dL_law_692 (by decide) [(6, .int y2.1), (5, .int y1.1), (0, .ref sc), (1, .ref b), (2, .ref (b + 204)), (3, .ref (b + 213)), (4, .int x4)] rfl ?_
  refine rx_aload_n C dL_law_694 4 rfl ?_
  replace hF := rx_biE hF; obtain ⟨y3, e_y3, hF⟩ := hF
  refine rx_ci (rx_rV C (w_X9_thrown e_y3 b_m) Y_X9_thrown V_X9_thrown m_L_148 (Or.inl ⟨_, _, _, _, b_m.1, rfl⟩) ⟨⟨rfl, rfl⟩, ⟨(Nat.le_of_ble_eq_true rfl), (Nat.le_of_ble_eq_true rfl)⟩, ⟨by show _ ≤ 601024; omega, by show _ ≤ 7293034; omega⟩⟩ rfl rfl (Nat.le_of_ble_eq_true rfl) dL_law_695) (fun r hh n1 hpp => ?_)
  obtain ⟨rfl, hu⟩ := hpp
  cases hu
  refine rx_iload C dL_law_698 1 rfl ?_
  refine rx_icmp_eq C dL_law_700 705 (by decide) (fun c4 => ?_) (fun c4 => ?_)
  · rw [if_pos c4] at hF
    refine rx_iload C dL_law_705 1 rfl ?_
    refine rx_if_ne C dL_law_707 729 (by decide) (fun c5 => ?_) (fun c5 => ?_)
    · rw [if_neg c5] at hF
      refine rx_goto C dL_law_729 3126 (by decide) ?_
      obtain rfl := Option.some.inj hF
      refine rx_sub [2, 3, 4, 5, 6] rfl ?_
      exact rx_wide (cells + 3) (slots + 18) (by omega) (by omega) (KK _ _ (hn0) b_m b_L fr)
    · rw [if_pos c5] at hF
      refine rx_aload_n C dL_law_710 5 rfl ?_
      refine rx_iconst C dL_law_711 (0 : Int32) (by decide) ?_
      refine rx_ldL C dL_law_712 b_L ?_
      refine rx_iload C dL_law_713 0 rfl ?_
      refine rx_if_eq C dL_law_715 722 (by decide) (fun c6 => ?_) (fun c6 => ?_)
      · rw [if_pos c6] at hF
        refine rx_lconst C dL_law_722 0 (by decide) ?_
        refine rx_lcmp C dL_law_723 ?_
        refine rx_if_eq C dL_law_724 729 (by decide) (fun c7 => ?_) (fun c7 => ?_)
        · rw [if_pos c7] at hF
          refine rx_goto C dL_law_729 3126 (by decide) ?_
          obtain rfl := Option.some.inj hF
          refine rx_sub [2, 3, 4, 5, 6] rfl ?_
          exact rx_wide (cells + 3) (slots + 18) (by omega) (by omega) (KK _ _ (hn0) b_m b_L fr)
        · rw [if_neg c7] at hF
          refine rx_iconst C dL_law_727 (0 : Int32) (by decide) ?_
          cases hF
      · rw [if_neg c6] at hF
        refine rx_lconst C dL_law_718 1 (by decide) ?_
        refine rx_goto C dL_law_719 723 (by decide) ?_
        refine rx_lcmp C dL_law_723 ?_
        refine rx_if_eq C dL_law_724 729 (by decide) (fun c8 => ?_) (fun c8 => ?_)
        · rw [if_pos c8] at hF
          refine rx_goto C dL_law_729 3126 (by decide) ?_
          obtain rfl := Option.some.inj hF
          refine rx_sub [2, 3, 4, 5, 6] rfl ?_
          exact rx_wide (cells + 3) (slots + 18) (by omega) (by omega) (KK _ _ (hn0) b_m b_L fr)
        · rw [if_neg c8] at hF
          refine rx_iconst C dL_law_727 (0 : Int32) (by decide) ?_
          cases hF
  · rw [if_neg c4] at hF
    refine rx_iconst C dL_law_703 (0 : Int32) (by decide) ?_
    cases hF
def F_case_13 (oB : ob) (os : ob) (op : ob) (om : ob) (oL : (Nat → Int64)) (a1 : Int32) : Option (ob × (Nat → Int64)) := (F_L_coins oB os op oL a1).bind fun y1 => (F_X9_coins om a1).bind fun y2 => (F_X9_thrown y2.2).bind fun y3 => if y3 = y1.1 then (if y1.1 = (0 : Int32) then (if (lg_cmp ((y1.2 0)) y2.1.toInt64) = (0 : Int32) then (some (y2.2, y1.2)) else (none)) else (some (y2.2, y1.2))) else (none)
set_option maxRecDepth 100000 in
set_option maxHeartbeats 4000000 in
theorem lc_13 {b : Nat} {oB : ob} {os : ob} {op : ob} {om : ob} {oL : (Nat → Int64)} {a1 : Int32} {y : ob × (Nat → Int64)} (hst : l.stackTraces = false) (hF : F_case_13 oB os op om oL a1 = some y) (C : rx_C G k P9 M9 c9 cL_law RL 9 ret9 S9 A9 me9) (hN : rx_NC S9) (hX : va_X sc len xs S9 S9.heap) (hbl : sc < S9.heap.size) (hbA : ¬ k 0 ≤ sc) (h1 : vp_in (x4 + (1 : Int32)) len ∧ xs (x4 + (1 : Int32)).toNatClampNeg = a1) (hcl : cells + 3 ≤ 601024) (hsl : slots + 18 ≤ 7293034) (b_B : bB k b oB h) (b_s : bS k (b + 12) os h) (b_p : bP k (b + 21) (b + 12) op h) (b_m : bM k (b + 204) om h) (b_L : bL k (b + 213) oL h) (KK : ∀ (hh : hp) (n1 : Nat), n ≤ n1 → bM k (b + 204) y.1 hh → bL k (b + 213) y.2 hh → rx_fr [(b + 204, 9), (b + 213, 1)] h hh → rx_W P9 l E9 room_1 S9 M9 A9 B9 me9 c9 Q9 G k 9 (cells + 3) (slots + 18) hh n1 3126 [(0, .ref sc), (1, .ref b), (2, .ref (b + 204)), (3, .ref (b + 213)), (4, .int x4)] []) : rx_W P9 l E9 room_1 S9 M9 A9 B9 me9 c9 Q9 G k 9 cells slots h n 732 [(0, .ref sc), (1, .ref b), (2, .ref (b + 204)), (3, .ref (b + 213)), (4, .int x4)] [] := by
  have s_B_L : b + 1 ≤ b + 213 ∨ b + 213 + 1 ≤ b := by omega
  have s_s_L : b + 12 + 9 ≤ b + 213 ∨ b + 213 + 1 ≤ b + 12 := by omega
  have s_p_L : b + 21 + 10 ≤ b + 213 ∨ b + 213 + 1 ≤ b + 21 := by omega
  have s_m_L : b + 204 + 9 ≤ b + 213 ∨ b + 213 + 1 ≤ b + 204 := by omega
  have s_B_m : b + 1 ≤ b + 204 ∨ b + 204 + 9 ≤ b := by omega
  have s_s_m : b + 12 + 9 ≤ b + 204 ∨ b + 204 + 9 ≤ b + 12 := by omega
  have s_p_m : b + 21 + 10 ≤ b + 204 ∨ b + 204 + 9 ≤ b + 21 := by omega
  have s_L_m : b + 213 + 1 ≤ b + 204 ∨ b + 204 + 9 ≤ b + 213 := by omega
  unfold F_case_13 at hF
  have fr : rx_fr [(b + 204, 9), (b + 213, 1)] h h := rx_fr0
  refine rx_aload_n C dL_law_732 1 rfl ?_
  refine rx_aload_n C dL_law_733 0 rfl ?_
  refine rx_iload C dL_law_734 4 rfl ?_
  refine rx_iconst C dL_law_736 (1 : Int32) (by decide) ?_
  refine rx_iadd C dL_law_737 ?_
  refine rx_sld C hX hbl hbA h1 dL_law_738 ?_
  refine rx_aload_n C dL_law_739 3 rfl ?_
  replace hF := rx_biE hF; obtain ⟨y1, e_y1, hF⟩ := hF
  refine rx_xci (rx_rSX C hN (w_L_coins hst e_y1 b_B b_s b_p b_L (by omega)) Y_L_coins S_L_coins m_L_194 ⟨⟨rfl, rfl⟩, ⟨(Nat.le_of_ble_eq_true rfl), (Nat.le_of_ble_eq_true rfl)⟩, ⟨by show _ ≤ 601024; omega, by show _ ≤ 7293034; omega⟩⟩ rfl rfl (Nat.le_of_ble_eq_true rfl) dL_law_740) (fun E hh n1 hx => hx.elim) (fun r hh n hpp => ?_)
  obtain ⟨rfl, hn0, c_L, ff⟩ := hpp
  replace b_L : bL k (b + 213) y1.2 hh := c_L
  clear c_L
  replace ff : rx_fr [(b + 213, 1)] _ hh := ff
  replace b_B := b_B.keep ff ⟨s_B_L, trivial⟩
  replace b_s := b_s.keep ff ⟨s_s_L, trivial⟩
  replace b_p := b_p.keep ff ⟨s_p_L, trivial⟩
  replace b_m := b_m.keep ff ⟨s_m_L, trivial⟩
  replace fr := rx_frt fr ff (fun a ha => ⟨ha.2.1, trivial⟩)
  refine rx_istore C dL_law_743 (by decide) [(5, .int y1.1), (0, .ref sc), (1, .ref b), (2, .ref (b + 204)), (3, .ref (b + 213)), (4, .int x4)] rfl ?_
  refine rx_aload_n C dL_law_745 3 rfl ?_
  refine rx_aload_n C dL_law_746 1 rfl ?_
  refine rx_iload C dL_law_747 5 rfl ?_
  refine rx_iconst C dL_law_749 (1 : Int32) (by decide) ?_
  refine rx_iadd C dL_law_750 ?_
  refine rx_sld C hX hbl hbA h1 dL_law_751 ?_
  replace hF := rx_biE hF; obtain ⟨y2, e_y2, hF⟩ := hF
  refine rx_ci (rx_rV C (w_X9_coins e_y2 b_m) Y_X9_coins V_X9_coins m_L_196 (Or.inl ⟨_, _, _, _, b_m.1, rfl⟩) ⟨⟨rfl, rfl⟩, ⟨(Nat.le_of_ble_eq_true rfl), (Nat.le_of_ble_eq_true rfl)⟩, ⟨by show _ ≤ 601024; omega, by show _ ≤ 7293034; omega⟩⟩ rfl rfl (Nat.le_of_ble_eq_true rfl) dL_law_752) (fun r hh n1 hpp => ?_)
  obtain ⟨rfl, hn, c_m, ff⟩ := hpp
  replace hn : n = n1 := Eq.symm hn
  subst hn
  replace b_m : bM k (b + 204) y2.2 hh := c_m
  clear c_m
  replace ff : rx_fr [(b + 204, 9)] _ hh := ff
  replace b_B := b_B.keep ff ⟨s_B_m, trivial⟩
  replace b_s := b_s.keep ff ⟨s_s_m, trivial⟩
  replace b_p := b_p.keep ff ⟨s_p_m, trivial⟩
  replace b_L := b_L.keep ff ⟨s_L_m, trivial⟩
  replace fr := rx_frt fr ff (fun a ha => ⟨ha.1, trivial⟩)
  refine rx_istore C dL_law_755 (by decide) [(6, .int y2.1), (5, .int y1.1), (0, .ref sc), (1, .ref b), (2, .ref (b + 204)), (3, .ref (b + 213)), (4, .int x4)] rfl ?_
  refine rx_aload_n C dL_law_757 4 rfl ?_
  replace hF := rx_biE hF; obtain ⟨y3, e_y3, hF⟩ := hF
  refine rx_ci (rx_rV C (w_X9_thrown e_y3 b_m) Y_X9_thrown V_X9_thrown m_L_148 (Or.inl ⟨_, _, _, _, b_m.1, rfl⟩) ⟨⟨rfl, rfl⟩, ⟨(Nat.le_of_ble_eq_true rfl), (Nat.le_of_ble_eq_true rfl)⟩, ⟨by show _ ≤ 601024; omega, by show _ ≤ 7293034; omega⟩⟩ rfl rfl (Nat.le_of_ble_eq_true rfl) dL_law_758) (fun r hh n1 hpp => ?_)
  obtain ⟨rfl, hu⟩ := hpp
  cases hu
  refine rx_iload C dL_law_761 1 rfl ?_
  refine rx_icmp_eq C dL_law_763 768 (by decide) (fun c4 => ?_) (fun c4 => ?_)
  · rw [if_pos c4] at hF
    refine rx_iload C dL_law_768 1 rfl ?_
    refine rx_if_ne C dL_law_770 785 (by decide) (fun c5 => ?_) (fun c5 => ?_)
    · rw [if_neg c5] at hF
      refine rx_goto C dL_law_785 3126 (by decide) ?_
      obtain rfl := Option.some.inj hF
      refine rx_sub [2, 3, 4, 5, 6] rfl ?_
      exact rx_wide (cells + 3) (slots + 18) (by omega) (by omega) (KK _ _ (hn0) b_m b_L fr)
    · rw [if_pos c5] at hF
      refine rx_aload_n C dL_law_773 5 rfl ?_
      refine rx_iconst C dL_law_774 (0 : Int32) (by decide) ?_
      refine rx_ldL C dL_law_775 b_L ?_
      refine rx_iload C dL_law_776 0 rfl ?_
      refine rx_i2l C dL_law_778 ?_
      refine rx_lcmp C dL_law_779 ?_
      refine rx_if_eq C dL_law_780 785 (by decide) (fun c6 => ?_) (fun c6 => ?_)
      · rw [if_pos c6] at hF
        refine rx_goto C dL_law_785 3126 (by decide) ?_
        obtain rfl := Option.some.inj hF
        refine rx_sub [2, 3, 4, 5, 6] rfl ?_
        exact rx_wide (cells + 3) (slots + 18) (by omega) (by omega) (KK _ _ (hn0) b_m b_L fr)
      · rw [if_neg c6] at hF
        refine rx_iconst C dL_law_783 (0 : Int32) (by decide) ?_
        cases hF
  · rw [if_neg c4] at hF
    refine rx_iconst C dL_law_766 (0 : Int32) (by decide) ?_
    cases hF
def F_case_14 (oB : ob) (os : ob) (op : ob) (om : ob) (oL : (Nat → Int64)) (a1 : Int32) : Option (ob × (Nat → Int64)) := (F_L_pride oB os op oL a1).bind fun y1 => (F_X9_pride om a1).bind fun y2 => (F_X9_thrown y2.2).bind fun y3 => if y3 = y1.1 then (if y1.1 = (0 : Int32) then (if (lg_cmp ((y1.2 0)) y2.1.toInt64) = (0 : Int32) then (some (y2.2, y1.2)) else (none)) else (some (y2.2, y1.2))) else (none)
set_option maxRecDepth 100000 in
set_option maxHeartbeats 4000000 in
theorem lc_14 {b : Nat} {oB : ob} {os : ob} {op : ob} {om : ob} {oL : (Nat → Int64)} {a1 : Int32} {y : ob × (Nat → Int64)} (hst : l.stackTraces = false) (hF : F_case_14 oB os op om oL a1 = some y) (C : rx_C G k P9 M9 c9 cL_law RL 9 ret9 S9 A9 me9) (hN : rx_NC S9) (hX : va_X sc len xs S9 S9.heap) (hbl : sc < S9.heap.size) (hbA : ¬ k 0 ≤ sc) (h1 : vp_in (x4 + (1 : Int32)) len ∧ xs (x4 + (1 : Int32)).toNatClampNeg = a1) (hcl : cells + 3 ≤ 601024) (hsl : slots + 18 ≤ 7293034) (b_B : bB k b oB h) (b_s : bS k (b + 12) os h) (b_p : bP k (b + 21) (b + 12) op h) (b_m : bM k (b + 204) om h) (b_L : bL k (b + 213) oL h) (KK : ∀ (hh : hp) (n1 : Nat), n ≤ n1 → bM k (b + 204) y.1 hh → bL k (b + 213) y.2 hh → rx_fr [(b + 204, 9), (b + 213, 1)] h hh → rx_W P9 l E9 room_1 S9 M9 A9 B9 me9 c9 Q9 G k 9 (cells + 3) (slots + 18) hh n1 3126 [(0, .ref sc), (1, .ref b), (2, .ref (b + 204)), (3, .ref (b + 213)), (4, .int x4)] []) : rx_W P9 l E9 room_1 S9 M9 A9 B9 me9 c9 Q9 G k 9 cells slots h n 788 [(0, .ref sc), (1, .ref b), (2, .ref (b + 204)), (3, .ref (b + 213)), (4, .int x4)] [] := by
  have s_B_L : b + 1 ≤ b + 213 ∨ b + 213 + 1 ≤ b := by omega
  have s_s_L : b + 12 + 9 ≤ b + 213 ∨ b + 213 + 1 ≤ b + 12 := by omega
  have s_p_L : b + 21 + 10 ≤ b + 213 ∨ b + 213 + 1 ≤ b + 21 := by omega
  have s_m_L : b + 204 + 9 ≤ b + 213 ∨ b + 213 + 1 ≤ b + 204 := by omega
  have s_B_m : b + 1 ≤ b + 204 ∨ b + 204 + 9 ≤ b := by omega
  have s_s_m : b + 12 + 9 ≤ b + 204 ∨ b + 204 + 9 ≤ b + 12 := by omega
  have s_p_m : b + 21 + 10 ≤ b + 204 ∨ b + 204 + 9 ≤ b + 21 := by omega
  have s_L_m : b + 213 + 1 ≤ b + 204 ∨ b + 204 + 9 ≤ b + 213 := by omega
  unfold F_case_14 at hF
  have fr : rx_fr [(b + 204, 9), (b + 213, 1)] h h := rx_fr0
  refine rx_aload_n C dL_law_788 1 rfl ?_
  refine rx_aload_n C dL_law_789 0 rfl ?_
  refine rx_iload C dL_law_790 4 rfl ?_
  refine rx_iconst C dL_law_792 (1 : Int32) (by decide) ?_
  refine rx_iadd C dL_law_793 ?_
  refine rx_sld C hX hbl hbA h1 dL_law_794 ?_
  refine rx_aload_n C dL_law_795 3 rfl ?_
  replace hF := rx_biE hF; obtain ⟨y1, e_y1, hF⟩ := hF
  refine rx_xci (rx_rSX C hN (w_L_pride hst e_y1 b_B b_s b_p b_L (by omega)) Y_L_pride S_L_pride m_L_197 ⟨⟨rfl, rfl⟩, ⟨(Nat.le_of_ble_eq_true rfl), (Nat.le_of_ble_eq_true rfl)⟩, ⟨by show _ ≤ 601024; omega, by show _ ≤ 7293034; omega⟩⟩ rfl rfl (Nat.le_of_ble_eq_true rfl) dL_law_796) (fun E hh n1 hx => hx.elim) (fun r hh n hpp => ?_)
  obtain ⟨rfl, hn0, c_L, ff⟩ := hpp
  replace b_L : bL k (b + 213) y1.2 hh := c_L
  clear c_L
  replace ff : rx_fr [(b + 213, 1)] _ hh := ff
  replace b_B := b_B.keep ff ⟨s_B_L, trivial⟩
  replace b_s := b_s.keep ff ⟨s_s_L, trivial⟩
  replace b_p := b_p.keep ff ⟨s_p_L, trivial⟩
  replace b_m := b_m.keep ff ⟨s_m_L, trivial⟩
  replace fr := rx_frt fr ff (fun a ha => ⟨ha.2.1, trivial⟩)
  refine rx_istore C dL_law_799 (by decide) [(5, .int y1.1), (0, .ref sc), (1, .ref b), (2, .ref (b + 204)), (3, .ref (b + 213)), (4, .int x4)] rfl ?_
  refine rx_aload_n C dL_law_801 3 rfl ?_
  refine rx_aload_n C dL_law_802 1 rfl ?_
  refine rx_iload C dL_law_803 5 rfl ?_
  refine rx_iconst C dL_law_805 (1 : Int32) (by decide) ?_
  refine rx_iadd C dL_law_806 ?_
  refine rx_sld C hX hbl hbA h1 dL_law_807 ?_
  replace hF := rx_biE hF; obtain ⟨y2, e_y2, hF⟩ := hF
  refine rx_ci (rx_rV C (w_X9_pride e_y2 b_m) Y_X9_pride V_X9_pride m_L_199 (Or.inl ⟨_, _, _, _, b_m.1, rfl⟩) ⟨⟨rfl, rfl⟩, ⟨(Nat.le_of_ble_eq_true rfl), (Nat.le_of_ble_eq_true rfl)⟩, ⟨by show _ ≤ 601024; omega, by show _ ≤ 7293034; omega⟩⟩ rfl rfl (Nat.le_of_ble_eq_true rfl) dL_law_808) (fun r hh n1 hpp => ?_)
  obtain ⟨rfl, hn, c_m, ff⟩ := hpp
  replace hn : n = n1 := Eq.symm hn
  subst hn
  replace b_m : bM k (b + 204) y2.2 hh := c_m
  clear c_m
  replace ff : rx_fr [(b + 204, 9)] _ hh := ff
  replace b_B := b_B.keep ff ⟨s_B_m, trivial⟩
  replace b_s := b_s.keep ff ⟨s_s_m, trivial⟩
  replace b_p := b_p.keep ff ⟨s_p_m, trivial⟩
  replace b_L := b_L.keep ff ⟨s_L_m, trivial⟩
  replace fr := rx_frt fr ff (fun a ha => ⟨ha.1, trivial⟩)
  refine rx_istore C dL_law_811 (by decide) [(6, .int y2.1), (5, .int y1.1), (0, .ref sc), (1, .ref b), (2, .ref (b + 204)), (3, .ref (b + 213)), (4, .int x4)] rfl ?_
  refine rx_aload_n C dL_law_813 4 rfl ?_
  replace hF := rx_biE hF; obtain ⟨y3, e_y3, hF⟩ := hF
  refine rx_ci (rx_rV C (w_X9_thrown e_y3 b_m) Y_X9_thrown V_X9_thrown m_L_148 (Or.inl ⟨_, _, _, _, b_m.1, rfl⟩) ⟨⟨rfl, rfl⟩, ⟨(Nat.le_of_ble_eq_true rfl), (Nat.le_of_ble_eq_true rfl)⟩, ⟨by show _ ≤ 601024; omega, by show _ ≤ 7293034; omega⟩⟩ rfl rfl (Nat.le_of_ble_eq_true rfl) dL_law_814) (fun r hh n1 hpp => ?_)
  obtain ⟨rfl, hu⟩ := hpp
  cases hu
  refine rx_iload C dL_law_817 1 rfl ?_
  refine rx_icmp_eq C dL_law_819 824 (by decide) (fun c4 => ?_) (fun c4 => ?_)
  · rw [if_pos c4] at hF
    refine rx_iload C dL_law_824 1 rfl ?_
    refine rx_if_ne C dL_law_826 841 (by decide) (fun c5 => ?_) (fun c5 => ?_)
    · rw [if_neg c5] at hF
      refine rx_goto C dL_law_841 3126 (by decide) ?_
      obtain rfl := Option.some.inj hF
      refine rx_sub [2, 3, 4, 5, 6] rfl ?_
      exact rx_wide (cells + 3) (slots + 18) (by omega) (by omega) (KK _ _ (hn0) b_m b_L fr)
    · rw [if_pos c5] at hF
      refine rx_aload_n C dL_law_829 5 rfl ?_
      refine rx_iconst C dL_law_830 (0 : Int32) (by decide) ?_
      refine rx_ldL C dL_law_831 b_L ?_
      refine rx_iload C dL_law_832 0 rfl ?_
      refine rx_i2l C dL_law_834 ?_
      refine rx_lcmp C dL_law_835 ?_
      refine rx_if_eq C dL_law_836 841 (by decide) (fun c6 => ?_) (fun c6 => ?_)
      · rw [if_pos c6] at hF
        refine rx_goto C dL_law_841 3126 (by decide) ?_
        obtain rfl := Option.some.inj hF
        refine rx_sub [2, 3, 4, 5, 6] rfl ?_
        exact rx_wide (cells + 3) (slots + 18) (by omega) (by omega) (KK _ _ (hn0) b_m b_L fr)
      · rw [if_neg c6] at hF
        refine rx_iconst C dL_law_839 (0 : Int32) (by decide) ?_
        cases hF
  · rw [if_neg c4] at hF
    refine rx_iconst C dL_law_822 (0 : Int32) (by decide) ?_
    cases hF
def F_case_15 (oB : ob) (os : ob) (op : ob) (om : ob) (oL : (Nat → Int64)) (a1 : Int32) : Option (ob × (Nat → Int64)) := (F_L_rags oB os op oL a1).bind fun y1 => (F_X9_rags om a1).bind fun y2 => (F_X9_thrown y2.2).bind fun y3 => if y3 = y1.1 then (if y1.1 = (0 : Int32) then (if (lg_cmp ((y1.2 0)) y2.1.toInt64) = (0 : Int32) then (some (y2.2, y1.2)) else (none)) else (some (y2.2, y1.2))) else (none)
set_option maxRecDepth 100000 in
set_option maxHeartbeats 4000000 in
theorem lc_15 {b : Nat} {oB : ob} {os : ob} {op : ob} {om : ob} {oL : (Nat → Int64)} {a1 : Int32} {y : ob × (Nat → Int64)} (hst : l.stackTraces = false) (hF : F_case_15 oB os op om oL a1 = some y) (C : rx_C G k P9 M9 c9 cL_law RL 9 ret9 S9 A9 me9) (hN : rx_NC S9) (hX : va_X sc len xs S9 S9.heap) (hbl : sc < S9.heap.size) (hbA : ¬ k 0 ≤ sc) (h1 : vp_in (x4 + (1 : Int32)) len ∧ xs (x4 + (1 : Int32)).toNatClampNeg = a1) (hcl : cells + 3 ≤ 601024) (hsl : slots + 18 ≤ 7293034) (b_B : bB k b oB h) (b_s : bS k (b + 12) os h) (b_p : bP k (b + 21) (b + 12) op h) (b_m : bM k (b + 204) om h) (b_L : bL k (b + 213) oL h) (KK : ∀ (hh : hp) (n1 : Nat), n ≤ n1 → bM k (b + 204) y.1 hh → bL k (b + 213) y.2 hh → rx_fr [(b + 204, 9), (b + 213, 1)] h hh → rx_W P9 l E9 room_1 S9 M9 A9 B9 me9 c9 Q9 G k 9 (cells + 3) (slots + 18) hh n1 3126 [(0, .ref sc), (1, .ref b), (2, .ref (b + 204)), (3, .ref (b + 213)), (4, .int x4)] []) : rx_W P9 l E9 room_1 S9 M9 A9 B9 me9 c9 Q9 G k 9 cells slots h n 844 [(0, .ref sc), (1, .ref b), (2, .ref (b + 204)), (3, .ref (b + 213)), (4, .int x4)] [] := by
  have s_B_L : b + 1 ≤ b + 213 ∨ b + 213 + 1 ≤ b := by omega
  have s_s_L : b + 12 + 9 ≤ b + 213 ∨ b + 213 + 1 ≤ b + 12 := by omega
  have s_p_L : b + 21 + 10 ≤ b + 213 ∨ b + 213 + 1 ≤ b + 21 := by omega
  have s_m_L : b + 204 + 9 ≤ b + 213 ∨ b + 213 + 1 ≤ b + 204 := by omega
  have s_B_m : b + 1 ≤ b + 204 ∨ b + 204 + 9 ≤ b := by omega
  have s_s_m : b + 12 + 9 ≤ b + 204 ∨ b + 204 + 9 ≤ b + 12 := by omega
  have s_p_m : b + 21 + 10 ≤ b + 204 ∨ b + 204 + 9 ≤ b + 21 := by omega
  have s_L_m : b + 213 + 1 ≤ b + 204 ∨ b + 204 + 9 ≤ b + 213 := by omega
  unfold F_case_15 at hF
  have fr : rx_fr [(b + 204, 9), (b + 213, 1)] h h := rx_fr0
  refine rx_aload_n C dL_law_844 1 rfl ?_
  refine rx_aload_n C dL_law_845 0 rfl ?_
  refine rx_iload C dL_law_846 4 rfl ?_
  refine rx_iconst C dL_law_848 (1 : Int32) (by decide) ?_
  refine rx_iadd C dL_law_849 ?_
  refine rx_sld C hX hbl hbA h1 dL_law_850 ?_
  refine rx_aload_n C dL_law_851 3 rfl ?_
  replace hF := rx_biE hF; obtain ⟨y1, e_y1, hF⟩ := hF
  refine rx_xci (rx_rSX C hN (w_L_rags hst e_y1 b_B b_s b_p b_L (by omega)) Y_L_rags S_L_rags m_L_200 ⟨⟨rfl, rfl⟩, ⟨(Nat.le_of_ble_eq_true rfl), (Nat.le_of_ble_eq_true rfl)⟩, ⟨by show _ ≤ 601024; omega, by show _ ≤ 7293034; omega⟩⟩ rfl rfl (Nat.le_of_ble_eq_true rfl) dL_law_852) (fun E hh n1 hx => hx.elim) (fun r hh n hpp => ?_)
  obtain ⟨rfl, hn0, c_L, ff⟩ := hpp
  replace b_L : bL k (b + 213) y1.2 hh := c_L
  clear c_L
  replace ff : rx_fr [(b + 213, 1)] _ hh := ff
  replace b_B := b_B.keep ff ⟨s_B_L, trivial⟩
  replace b_s := b_s.keep ff ⟨s_s_L, trivial⟩
  replace b_p := b_p.keep ff ⟨s_p_L, trivial⟩
  replace b_m := b_m.keep ff ⟨s_m_L, trivial⟩
  replace fr := rx_frt fr ff (fun a ha => ⟨ha.2.1, trivial⟩)
  refine rx_istore C dL_law_855 (by decide) [(5, .int y1.1), (0, .ref sc), (1, .ref b), (2, .ref (b + 204)), (3, .ref (b + 213)), (4, .int x4)] rfl ?_
  refine rx_aload_n C dL_law_857 3 rfl ?_
  refine rx_aload_n C dL_law_858 1 rfl ?_
  refine rx_iload C dL_law_859 5 rfl ?_
  refine rx_iconst C dL_law_861 (1 : Int32) (by decide) ?_
  refine rx_iadd C dL_law_862 ?_
  refine rx_sld C hX hbl hbA h1 dL_law_863 ?_
  replace hF := rx_biE hF; obtain ⟨y2, e_y2, hF⟩ := hF
  refine rx_ci (rx_rV C (w_X9_rags e_y2 b_m) Y_X9_rags V_X9_rags m_L_202 (Or.inl ⟨_, _, _, _, b_m.1, rfl⟩) ⟨⟨rfl, rfl⟩, ⟨(Nat.le_of_ble_eq_true rfl), (Nat.le_of_ble_eq_true rfl)⟩, ⟨by show _ ≤ 601024; omega, by show _ ≤ 7293034; omega⟩⟩ rfl rfl (Nat.le_of_ble_eq_true rfl) dL_law_864) (fun r hh n1 hpp => ?_)
  obtain ⟨rfl, hn, c_m, ff⟩ := hpp
  replace hn : n = n1 := Eq.symm hn
  subst hn
  replace b_m : bM k (b + 204) y2.2 hh := c_m
  clear c_m
  replace ff : rx_fr [(b + 204, 9)] _ hh := ff
  replace b_B := b_B.keep ff ⟨s_B_m, trivial⟩
  replace b_s := b_s.keep ff ⟨s_s_m, trivial⟩
  replace b_p := b_p.keep ff ⟨s_p_m, trivial⟩
  replace b_L := b_L.keep ff ⟨s_L_m, trivial⟩
  replace fr := rx_frt fr ff (fun a ha => ⟨ha.1, trivial⟩)
  refine rx_istore C dL_law_867 (by decide) [(6, .int y2.1), (5, .int y1.1), (0, .ref sc), (1, .ref b), (2, .ref (b + 204)), (3, .ref (b + 213)), (4, .int x4)] rfl ?_
  refine rx_aload_n C dL_law_869 4 rfl ?_
  replace hF := rx_biE hF; obtain ⟨y3, e_y3, hF⟩ := hF
  refine rx_ci (rx_rV C (w_X9_thrown e_y3 b_m) Y_X9_thrown V_X9_thrown m_L_148 (Or.inl ⟨_, _, _, _, b_m.1, rfl⟩) ⟨⟨rfl, rfl⟩, ⟨(Nat.le_of_ble_eq_true rfl), (Nat.le_of_ble_eq_true rfl)⟩, ⟨by show _ ≤ 601024; omega, by show _ ≤ 7293034; omega⟩⟩ rfl rfl (Nat.le_of_ble_eq_true rfl) dL_law_870) (fun r hh n1 hpp => ?_)
  obtain ⟨rfl, hu⟩ := hpp
  cases hu
  refine rx_iload C dL_law_873 1 rfl ?_
  refine rx_icmp_eq C dL_law_875 880 (by decide) (fun c4 => ?_) (fun c4 => ?_)
  · rw [if_pos c4] at hF
    refine rx_iload C dL_law_880 1 rfl ?_
    refine rx_if_ne C dL_law_882 897 (by decide) (fun c5 => ?_) (fun c5 => ?_)
    · rw [if_neg c5] at hF
      refine rx_goto C dL_law_897 3126 (by decide) ?_
      obtain rfl := Option.some.inj hF
      refine rx_sub [2, 3, 4, 5, 6] rfl ?_
      exact rx_wide (cells + 3) (slots + 18) (by omega) (by omega) (KK _ _ (hn0) b_m b_L fr)
    · rw [if_pos c5] at hF
      refine rx_aload_n C dL_law_885 5 rfl ?_
      refine rx_iconst C dL_law_886 (0 : Int32) (by decide) ?_
      refine rx_ldL C dL_law_887 b_L ?_
      refine rx_iload C dL_law_888 0 rfl ?_
      refine rx_i2l C dL_law_890 ?_
      refine rx_lcmp C dL_law_891 ?_
      refine rx_if_eq C dL_law_892 897 (by decide) (fun c6 => ?_) (fun c6 => ?_)
      · rw [if_pos c6] at hF
        refine rx_goto C dL_law_897 3126 (by decide) ?_
        obtain rfl := Option.some.inj hF
        refine rx_sub [2, 3, 4, 5, 6] rfl ?_
        exact rx_wide (cells + 3) (slots + 18) (by omega) (by omega) (KK _ _ (hn0) b_m b_L fr)
      · rw [if_neg c6] at hF
        refine rx_iconst C dL_law_895 (0 : Int32) (by decide) ?_
        cases hF
  · rw [if_neg c4] at hF
    refine rx_iconst C dL_law_878 (0 : Int32) (by decide) ?_
    cases hF
def F_case_16 (oB : ob) (os : ob) (om : ob) (oL : (Nat → Int64)) (a1 : Int32) : Option (ob × (Nat → Int64)) := (F_L_rank oB os oL a1).bind fun y1 => (F_X9_rank om a1).bind fun y2 => (F_X9_thrown y2.2).bind fun y3 => if y3 = y1.1 then (if y1.1 = (0 : Int32) then (if (lg_cmp ((y1.2 0)) y2.1.toInt64) = (0 : Int32) then (some (y2.2, y1.2)) else (none)) else (some (y2.2, y1.2))) else (none)
set_option maxRecDepth 100000 in
set_option maxHeartbeats 4000000 in
theorem lc_16 {b : Nat} {oB : ob} {os : ob} {om : ob} {oL : (Nat → Int64)} {a1 : Int32} {y : ob × (Nat → Int64)} (hst : l.stackTraces = false) (hF : F_case_16 oB os om oL a1 = some y) (C : rx_C G k P9 M9 c9 cL_law RL 9 ret9 S9 A9 me9) (hN : rx_NC S9) (hX : va_X sc len xs S9 S9.heap) (hbl : sc < S9.heap.size) (hbA : ¬ k 0 ≤ sc) (h1 : vp_in (x4 + (1 : Int32)) len ∧ xs (x4 + (1 : Int32)).toNatClampNeg = a1) (hcl : cells + 3 ≤ 601024) (hsl : slots + 18 ≤ 7293034) (b_B : bB k b oB h) (b_s : bS k (b + 12) os h) (b_m : bM k (b + 204) om h) (b_L : bL k (b + 213) oL h) (KK : ∀ (hh : hp) (n1 : Nat), n ≤ n1 → bM k (b + 204) y.1 hh → bL k (b + 213) y.2 hh → rx_fr [(b + 204, 9), (b + 213, 1)] h hh → rx_W P9 l E9 room_1 S9 M9 A9 B9 me9 c9 Q9 G k 9 (cells + 3) (slots + 18) hh n1 3126 [(0, .ref sc), (1, .ref b), (2, .ref (b + 204)), (3, .ref (b + 213)), (4, .int x4)] []) : rx_W P9 l E9 room_1 S9 M9 A9 B9 me9 c9 Q9 G k 9 cells slots h n 900 [(0, .ref sc), (1, .ref b), (2, .ref (b + 204)), (3, .ref (b + 213)), (4, .int x4)] [] := by
  have s_B_L : b + 1 ≤ b + 213 ∨ b + 213 + 1 ≤ b := by omega
  have s_s_L : b + 12 + 9 ≤ b + 213 ∨ b + 213 + 1 ≤ b + 12 := by omega
  have s_m_L : b + 204 + 9 ≤ b + 213 ∨ b + 213 + 1 ≤ b + 204 := by omega
  have s_B_m : b + 1 ≤ b + 204 ∨ b + 204 + 9 ≤ b := by omega
  have s_s_m : b + 12 + 9 ≤ b + 204 ∨ b + 204 + 9 ≤ b + 12 := by omega
  have s_L_m : b + 213 + 1 ≤ b + 204 ∨ b + 204 + 9 ≤ b + 213 := by omega
  unfold F_case_16 at hF
  have fr : rx_fr [(b + 204, 9), (b + 213, 1)] h h := rx_fr0
  refine rx_aload_n C dL_law_900 1 rfl ?_
  refine rx_aload_n C dL_law_901 0 rfl ?_
  refine rx_iload C dL_law_902 4 rfl ?_
  refine rx_iconst C dL_law_904 (1 : Int32) (by decide) ?_
  refine rx_iadd C dL_law_905 ?_
  refine rx_sld C hX hbl hbA h1 dL_law_906 ?_
  refine rx_aload_n C dL_law_907 3 rfl ?_
  replace hF := rx_biE hF; obtain ⟨y1, e_y1, hF⟩ := hF
  refine rx_xci (rx_rSX C hN (w_L_rank hst e_y1 b_B b_s b_L (by omega)) Y_L_rank S_L_rank m_L_203 ⟨⟨rfl, rfl⟩, ⟨(Nat.le_of_ble_eq_true rfl), (Nat.le_of_ble_eq_true rfl)⟩, ⟨by show _ ≤ 601024; omega, by show _ ≤ 7293034; omega⟩⟩ rfl rfl (Nat.le_of_ble_eq_true rfl) dL_law_908) (fun E hh n1 hx => hx.elim) (fun r hh n hpp => ?_)
  obtain ⟨rfl, hn0, c_L, ff⟩ := hpp
  replace b_L : bL k (b + 213) y1.2 hh := c_L
  clear c_L
  replace ff : rx_fr [(b + 213, 1)] _ hh := ff
  replace b_B := b_B.keep ff ⟨s_B_L, trivial⟩
  replace b_s := b_s.keep ff ⟨s_s_L, trivial⟩
  replace b_m := b_m.keep ff ⟨s_m_L, trivial⟩
  replace fr := rx_frt fr ff (fun a ha => ⟨ha.2.1, trivial⟩)
  refine rx_istore C dL_law_911 (by decide) [(5, .int y1.1), (0, .ref sc), (1, .ref b), (2, .ref (b + 204)), (3, .ref (b + 213)), (4, .int x4)] rfl ?_
  refine rx_aload_n C dL_law_913 3 rfl ?_
  refine rx_aload_n C dL_law_914 1 rfl ?_
  refine rx_iload C dL_law_915 5 rfl ?_
  refine rx_iconst C dL_law_917 (1 : Int32) (by decide) ?_
  refine rx_iadd C dL_law_918 ?_
  refine rx_sld C hX hbl hbA h1 dL_law_919 ?_
  replace hF := rx_biE hF; obtain ⟨y2, e_y2, hF⟩ := hF
  refine rx_ci (rx_rV C (w_X9_rank e_y2 b_m) Y_X9_rank V_X9_rank m_L_205 (Or.inl ⟨_, _, _, _, b_m.1, rfl⟩) ⟨⟨rfl, rfl⟩, ⟨(Nat.le_of_ble_eq_true rfl), (Nat.le_of_ble_eq_true rfl)⟩, ⟨by show _ ≤ 601024; omega, by show _ ≤ 7293034; omega⟩⟩ rfl rfl (Nat.le_of_ble_eq_true rfl) dL_law_920) (fun r hh n1 hpp => ?_)
  obtain ⟨rfl, hn, c_m, ff⟩ := hpp
  replace hn : n = n1 := Eq.symm hn
  subst hn
  replace b_m : bM k (b + 204) y2.2 hh := c_m
  clear c_m
  replace ff : rx_fr [(b + 204, 9)] _ hh := ff
  replace b_B := b_B.keep ff ⟨s_B_m, trivial⟩
  replace b_s := b_s.keep ff ⟨s_s_m, trivial⟩
  replace b_L := b_L.keep ff ⟨s_L_m, trivial⟩
  replace fr := rx_frt fr ff (fun a ha => ⟨ha.1, trivial⟩)
  refine rx_istore C dL_law_923 (by decide) [(6, .int y2.1), (5, .int y1.1), (0, .ref sc), (1, .ref b), (2, .ref (b + 204)), (3, .ref (b + 213)), (4, .int x4)] rfl ?_
  refine rx_aload_n C dL_law_925 4 rfl ?_
  replace hF := rx_biE hF; obtain ⟨y3, e_y3, hF⟩ := hF
  refine rx_ci (rx_rV C (w_X9_thrown e_y3 b_m) Y_X9_thrown V_X9_thrown m_L_148 (Or.inl ⟨_, _, _, _, b_m.1, rfl⟩) ⟨⟨rfl, rfl⟩, ⟨(Nat.le_of_ble_eq_true rfl), (Nat.le_of_ble_eq_true rfl)⟩, ⟨by show _ ≤ 601024; omega, by show _ ≤ 7293034; omega⟩⟩ rfl rfl (Nat.le_of_ble_eq_true rfl) dL_law_926) (fun r hh n1 hpp => ?_)
  obtain ⟨rfl, hu⟩ := hpp
  cases hu
  refine rx_iload C dL_law_929 1 rfl ?_
  refine rx_icmp_eq C dL_law_931 936 (by decide) (fun c4 => ?_) (fun c4 => ?_)
  · rw [if_pos c4] at hF
    refine rx_iload C dL_law_936 1 rfl ?_
    refine rx_if_ne C dL_law_938 953 (by decide) (fun c5 => ?_) (fun c5 => ?_)
    · rw [if_neg c5] at hF
      refine rx_goto C dL_law_953 3126 (by decide) ?_
      obtain rfl := Option.some.inj hF
      refine rx_sub [2, 3, 4, 5, 6] rfl ?_
      exact rx_wide (cells + 3) (slots + 18) (by omega) (by omega) (KK _ _ (hn0) b_m b_L fr)
    · rw [if_pos c5] at hF
      refine rx_aload_n C dL_law_941 5 rfl ?_
      refine rx_iconst C dL_law_942 (0 : Int32) (by decide) ?_
      refine rx_ldL C dL_law_943 b_L ?_
      refine rx_iload C dL_law_944 0 rfl ?_
      refine rx_i2l C dL_law_946 ?_
      refine rx_lcmp C dL_law_947 ?_
      refine rx_if_eq C dL_law_948 953 (by decide) (fun c6 => ?_) (fun c6 => ?_)
      · rw [if_pos c6] at hF
        refine rx_goto C dL_law_953 3126 (by decide) ?_
        obtain rfl := Option.some.inj hF
        refine rx_sub [2, 3, 4, 5, 6] rfl ?_
        exact rx_wide (cells + 3) (slots + 18) (by omega) (by omega) (KK _ _ (hn0) b_m b_L fr)
      · rw [if_neg c6] at hF
        refine rx_iconst C dL_law_951 (0 : Int32) (by decide) ?_
        cases hF
  · rw [if_neg c4] at hF
    refine rx_iconst C dL_law_934 (0 : Int32) (by decide) ?_
    cases hF
def F_case_17 (oB : ob) (os : ob) (op : ob) (om : ob) (oL : (Nat → Int64)) (a1 : Int32) : Option (ob × (Nat → Int64)) := (F_L_wearer oB os op oL a1).bind fun y1 => (F_X9_wearer om a1).bind fun y2 => (F_X9_thrown y2.2).bind fun y3 => if y3 = y1.1 then (if y1.1 = (0 : Int32) then (if (lg_cmp ((y1.2 0)) y2.1.toInt64) = (0 : Int32) then (some (y2.2, y1.2)) else (none)) else (some (y2.2, y1.2))) else (none)
set_option maxRecDepth 100000 in
set_option maxHeartbeats 4000000 in
theorem lc_17 {b : Nat} {oB : ob} {os : ob} {op : ob} {om : ob} {oL : (Nat → Int64)} {a1 : Int32} {y : ob × (Nat → Int64)} (hst : l.stackTraces = false) (hF : F_case_17 oB os op om oL a1 = some y) (C : rx_C G k P9 M9 c9 cL_law RL 9 ret9 S9 A9 me9) (hN : rx_NC S9) (hX : va_X sc len xs S9 S9.heap) (hbl : sc < S9.heap.size) (hbA : ¬ k 0 ≤ sc) (h1 : vp_in (x4 + (1 : Int32)) len ∧ xs (x4 + (1 : Int32)).toNatClampNeg = a1) (hcl : cells + 3 ≤ 601024) (hsl : slots + 18 ≤ 7293034) (b_B : bB k b oB h) (b_s : bS k (b + 12) os h) (b_p : bP k (b + 21) (b + 12) op h) (b_m : bM k (b + 204) om h) (b_L : bL k (b + 213) oL h) (KK : ∀ (hh : hp) (n1 : Nat), n ≤ n1 → bM k (b + 204) y.1 hh → bL k (b + 213) y.2 hh → rx_fr [(b + 204, 9), (b + 213, 1)] h hh → rx_W P9 l E9 room_1 S9 M9 A9 B9 me9 c9 Q9 G k 9 (cells + 3) (slots + 18) hh n1 3126 [(0, .ref sc), (1, .ref b), (2, .ref (b + 204)), (3, .ref (b + 213)), (4, .int x4)] []) : rx_W P9 l E9 room_1 S9 M9 A9 B9 me9 c9 Q9 G k 9 cells slots h n 956 [(0, .ref sc), (1, .ref b), (2, .ref (b + 204)), (3, .ref (b + 213)), (4, .int x4)] [] := by
  have s_B_L : b + 1 ≤ b + 213 ∨ b + 213 + 1 ≤ b := by omega
  have s_s_L : b + 12 + 9 ≤ b + 213 ∨ b + 213 + 1 ≤ b + 12 := by omega
  have s_p_L : b + 21 + 10 ≤ b + 213 ∨ b + 213 + 1 ≤ b + 21 := by omega
  have s_m_L : b + 204 + 9 ≤ b + 213 ∨ b + 213 + 1 ≤ b + 204 := by omega
  have s_B_m : b + 1 ≤ b + 204 ∨ b + 204 + 9 ≤ b := by omega
  have s_s_m : b + 12 + 9 ≤ b + 204 ∨ b + 204 + 9 ≤ b + 12 := by omega
  have s_p_m : b + 21 + 10 ≤ b + 204 ∨ b + 204 + 9 ≤ b + 21 := by omega
  have s_L_m : b + 213 + 1 ≤ b + 204 ∨ b + 204 + 9 ≤ b + 213 := by omega
  unfold F_case_17 at hF
  have fr : rx_fr [(b + 204, 9), (b + 213, 1)] h h := rx_fr0
  refine rx_aload_n C dL_law_956 1 rfl ?_
  refine rx_aload_n C dL_law_957 0 rfl ?_
  refine rx_iload C dL_law_958 4 rfl ?_
  refine rx_iconst C dL_law_960 (1 : Int32) (by decide) ?_
  refine rx_iadd C dL_law_961 ?_
  refine rx_sld C hX hbl hbA h1 dL_law_962 ?_
  refine rx_aload_n C dL_law_963 3 rfl ?_
  replace hF := rx_biE hF; obtain ⟨y1, e_y1, hF⟩ := hF
  refine rx_xci (rx_rSX C hN (w_L_wearer hst e_y1 b_B b_s b_p b_L (by omega)) Y_L_wearer S_L_wearer m_L_206 ⟨⟨rfl, rfl⟩, ⟨(Nat.le_of_ble_eq_true rfl), (Nat.le_of_ble_eq_true rfl)⟩, ⟨by show _ ≤ 601024; omega, by show _ ≤ 7293034; omega⟩⟩ rfl rfl (Nat.le_of_ble_eq_true rfl) dL_law_964) (fun E hh n1 hx => hx.elim) (fun r hh n hpp => ?_)
  obtain ⟨rfl, hn0, c_L, ff⟩ := hpp
  replace b_L : bL k (b + 213) y1.2 hh := c_L
  clear c_L
  replace ff : rx_fr [(b + 213, 1)] _ hh := ff
  replace b_B := b_B.keep ff ⟨s_B_L, trivial⟩
  replace b_s := b_s.keep ff ⟨s_s_L, trivial⟩
  replace b_p := b_p.keep ff ⟨s_p_L, trivial⟩
  replace b_m := b_m.keep ff ⟨s_m_L, trivial⟩
  replace fr := rx_frt fr ff (fun a ha => ⟨ha.2.1, trivial⟩)
  refine rx_istore C dL_law_967 (by decide) [(5, .int y1.1), (0, .ref sc), (1, .ref b), (2, .ref (b + 204)), (3, .ref (b + 213)), (4, .int x4)] rfl ?_
  refine rx_aload_n C dL_law_969 3 rfl ?_
  refine rx_aload_n C dL_law_970 1 rfl ?_
  refine rx_iload C dL_law_971 5 rfl ?_
  refine rx_iconst C dL_law_973 (1 : Int32) (by decide) ?_
  refine rx_iadd C dL_law_974 ?_
  refine rx_sld C hX hbl hbA h1 dL_law_975 ?_
  replace hF := rx_biE hF; obtain ⟨y2, e_y2, hF⟩ := hF
  refine rx_ci (rx_rV C (w_X9_wearer e_y2 b_m) Y_X9_wearer V_X9_wearer m_L_208 (Or.inl ⟨_, _, _, _, b_m.1, rfl⟩) ⟨⟨rfl, rfl⟩, ⟨(Nat.le_of_ble_eq_true rfl), (Nat.le_of_ble_eq_true rfl)⟩, ⟨by show _ ≤ 601024; omega, by show _ ≤ 7293034; omega⟩⟩ rfl rfl (Nat.le_of_ble_eq_true rfl) dL_law_976) (fun r hh n1 hpp => ?_)
  obtain ⟨rfl, hn, c_m, ff⟩ := hpp
  replace hn : n = n1 := Eq.symm hn
  subst hn
  replace b_m : bM k (b + 204) y2.2 hh := c_m
  clear c_m
  replace ff : rx_fr [(b + 204, 9)] _ hh := ff
  replace b_B := b_B.keep ff ⟨s_B_m, trivial⟩
  replace b_s := b_s.keep ff ⟨s_s_m, trivial⟩
  replace b_p := b_p.keep ff ⟨s_p_m, trivial⟩
  replace b_L := b_L.keep ff ⟨s_L_m, trivial⟩
  replace fr := rx_frt fr ff (fun a ha => ⟨ha.1, trivial⟩)
  refine rx_istore C dL_law_979 (by decide) [(6, .int y2.1), (5, .int y1.1), (0, .ref sc), (1, .ref b), (2, .ref (b + 204)), (3, .ref (b + 213)), (4, .int x4)] rfl ?_
  refine rx_aload_n C dL_law_981 4 rfl ?_
  replace hF := rx_biE hF; obtain ⟨y3, e_y3, hF⟩ := hF
  refine rx_ci (rx_rV C (w_X9_thrown e_y3 b_m) Y_X9_thrown V_X9_thrown m_L_148 (Or.inl ⟨_, _, _, _, b_m.1, rfl⟩) ⟨⟨rfl, rfl⟩, ⟨(Nat.le_of_ble_eq_true rfl), (Nat.le_of_ble_eq_true rfl)⟩, ⟨by show _ ≤ 601024; omega, by show _ ≤ 7293034; omega⟩⟩ rfl rfl (Nat.le_of_ble_eq_true rfl) dL_law_982) (fun r hh n1 hpp => ?_)
  obtain ⟨rfl, hu⟩ := hpp
  cases hu
  refine rx_iload C dL_law_985 1 rfl ?_
  refine rx_icmp_eq C dL_law_987 992 (by decide) (fun c4 => ?_) (fun c4 => ?_)
  · rw [if_pos c4] at hF
    refine rx_iload C dL_law_992 1 rfl ?_
    refine rx_if_ne C dL_law_994 1009 (by decide) (fun c5 => ?_) (fun c5 => ?_)
    · rw [if_neg c5] at hF
      refine rx_goto C dL_law_1009 3126 (by decide) ?_
      obtain rfl := Option.some.inj hF
      refine rx_sub [2, 3, 4, 5, 6] rfl ?_
      exact rx_wide (cells + 3) (slots + 18) (by omega) (by omega) (KK _ _ (hn0) b_m b_L fr)
    · rw [if_pos c5] at hF
      refine rx_aload_n C dL_law_997 5 rfl ?_
      refine rx_iconst C dL_law_998 (0 : Int32) (by decide) ?_
      refine rx_ldL C dL_law_999 b_L ?_
      refine rx_iload C dL_law_1000 0 rfl ?_
      refine rx_i2l C dL_law_1002 ?_
      refine rx_lcmp C dL_law_1003 ?_
      refine rx_if_eq C dL_law_1004 1009 (by decide) (fun c6 => ?_) (fun c6 => ?_)
      · rw [if_pos c6] at hF
        refine rx_goto C dL_law_1009 3126 (by decide) ?_
        obtain rfl := Option.some.inj hF
        refine rx_sub [2, 3, 4, 5, 6] rfl ?_
        exact rx_wide (cells + 3) (slots + 18) (by omega) (by omega) (KK _ _ (hn0) b_m b_L fr)
      · rw [if_neg c6] at hF
        refine rx_iconst C dL_law_1007 (0 : Int32) (by decide) ?_
        cases hF
  · rw [if_neg c4] at hF
    refine rx_iconst C dL_law_990 (0 : Int32) (by decide) ?_
    cases hF
def F_case_18 (oB : ob) (os : ob) (op : ob) (om : ob) (oL : (Nat → Int64)) (a1 : Int32) : Option (ob × (Nat → Int64)) := (F_L_crossings oB os op oL a1).bind fun y1 => (F_X9_crossings om a1).bind fun y2 => (F_X9_thrown y2.2).bind fun y3 => if y3 = y1.1 then (if y1.1 = (0 : Int32) then (if (lg_cmp ((y1.2 0)) y2.1.toInt64) = (0 : Int32) then (some (y2.2, y1.2)) else (none)) else (some (y2.2, y1.2))) else (none)
set_option maxRecDepth 100000 in
set_option maxHeartbeats 4000000 in
theorem lc_18 {b : Nat} {oB : ob} {os : ob} {op : ob} {om : ob} {oL : (Nat → Int64)} {a1 : Int32} {y : ob × (Nat → Int64)} (hst : l.stackTraces = false) (hF : F_case_18 oB os op om oL a1 = some y) (C : rx_C G k P9 M9 c9 cL_law RL 9 ret9 S9 A9 me9) (hN : rx_NC S9) (hX : va_X sc len xs S9 S9.heap) (hbl : sc < S9.heap.size) (hbA : ¬ k 0 ≤ sc) (h1 : vp_in (x4 + (1 : Int32)) len ∧ xs (x4 + (1 : Int32)).toNatClampNeg = a1) (hcl : cells + 3 ≤ 601024) (hsl : slots + 18 ≤ 7293034) (b_B : bB k b oB h) (b_s : bS k (b + 12) os h) (b_p : bP k (b + 21) (b + 12) op h) (b_m : bM k (b + 204) om h) (b_L : bL k (b + 213) oL h) (KK : ∀ (hh : hp) (n1 : Nat), n ≤ n1 → bM k (b + 204) y.1 hh → bL k (b + 213) y.2 hh → rx_fr [(b + 204, 9), (b + 213, 1)] h hh → rx_W P9 l E9 room_1 S9 M9 A9 B9 me9 c9 Q9 G k 9 (cells + 3) (slots + 18) hh n1 3126 [(0, .ref sc), (1, .ref b), (2, .ref (b + 204)), (3, .ref (b + 213)), (4, .int x4)] []) : rx_W P9 l E9 room_1 S9 M9 A9 B9 me9 c9 Q9 G k 9 cells slots h n 1012 [(0, .ref sc), (1, .ref b), (2, .ref (b + 204)), (3, .ref (b + 213)), (4, .int x4)] [] := by
  have s_B_L : b + 1 ≤ b + 213 ∨ b + 213 + 1 ≤ b := by omega
  have s_s_L : b + 12 + 9 ≤ b + 213 ∨ b + 213 + 1 ≤ b + 12 := by omega
  have s_p_L : b + 21 + 10 ≤ b + 213 ∨ b + 213 + 1 ≤ b + 21 := by omega
  have s_m_L : b + 204 + 9 ≤ b + 213 ∨ b + 213 + 1 ≤ b + 204 := by omega
  have s_B_m : b + 1 ≤ b + 204 ∨ b + 204 + 9 ≤ b := by omega
  have s_s_m : b + 12 + 9 ≤ b + 204 ∨ b + 204 + 9 ≤ b + 12 := by omega
  have s_p_m : b + 21 + 10 ≤ b + 204 ∨ b + 204 + 9 ≤ b + 21 := by omega
  have s_L_m : b + 213 + 1 ≤ b + 204 ∨ b + 204 + 9 ≤ b + 213 := by omega
  unfold F_case_18 at hF
  have fr : rx_fr [(b + 204, 9), (b + 213, 1)] h h := rx_fr0
  refine rx_aload_n C dL_law_1012 1 rfl ?_
  refine rx_aload_n C dL_law_1013 0 rfl ?_
  refine rx_iload C dL_law_1014 4 rfl ?_
  refine rx_iconst C dL_law_1016 (1 : Int32) (by decide) ?_
  refine rx_iadd C dL_law_1017 ?_
  refine rx_sld C hX hbl hbA h1 dL_law_1018 ?_
  refine rx_aload_n C dL_law_1019 3 rfl ?_
  replace hF := rx_biE hF; obtain ⟨y1, e_y1, hF⟩ := hF
  refine rx_xci (rx_rSX C hN (w_L_crossings hst e_y1 b_B b_s b_p b_L (by omega)) Y_L_crossings S_L_crossings m_L_209 ⟨⟨rfl, rfl⟩, ⟨(Nat.le_of_ble_eq_true rfl), (Nat.le_of_ble_eq_true rfl)⟩, ⟨by show _ ≤ 601024; omega, by show _ ≤ 7293034; omega⟩⟩ rfl rfl (Nat.le_of_ble_eq_true rfl) dL_law_1020) (fun E hh n1 hx => hx.elim) (fun r hh n hpp => ?_)
  obtain ⟨rfl, hn0, c_L, ff⟩ := hpp
  replace b_L : bL k (b + 213) y1.2 hh := c_L
  clear c_L
  replace ff : rx_fr [(b + 213, 1)] _ hh := ff
  replace b_B := b_B.keep ff ⟨s_B_L, trivial⟩
  replace b_s := b_s.keep ff ⟨s_s_L, trivial⟩
  replace b_p := b_p.keep ff ⟨s_p_L, trivial⟩
  replace b_m := b_m.keep ff ⟨s_m_L, trivial⟩
  replace fr := rx_frt fr ff (fun a ha => ⟨ha.2.1, trivial⟩)
  refine rx_istore C dL_law_1023 (by decide) [(5, .int y1.1), (0, .ref sc), (1, .ref b), (2, .ref (b + 204)), (3, .ref (b + 213)), (4, .int x4)] rfl ?_
  refine rx_aload_n C dL_law_1025 3 rfl ?_
  refine rx_aload_n C dL_law_1026 1 rfl ?_
  refine rx_iload C dL_law_1027 5 rfl ?_
  refine rx_iconst C dL_law_1029 (1 : Int32) (by decide) ?_
  refine rx_iadd C dL_law_1030 ?_
  refine rx_sld C hX hbl hbA h1 dL_law_1031 ?_
  replace hF := rx_biE hF; obtain ⟨y2, e_y2, hF⟩ := hF
  refine rx_ci (rx_rV C (w_X9_crossings e_y2 b_m) Y_X9_crossings V_X9_crossings m_L_211 (Or.inl ⟨_, _, _, _, b_m.1, rfl⟩) ⟨⟨rfl, rfl⟩, ⟨(Nat.le_of_ble_eq_true rfl), (Nat.le_of_ble_eq_true rfl)⟩, ⟨by show _ ≤ 601024; omega, by show _ ≤ 7293034; omega⟩⟩ rfl rfl (Nat.le_of_ble_eq_true rfl) dL_law_1032) (fun r hh n1 hpp => ?_)
  obtain ⟨rfl, hn, c_m, ff⟩ := hpp
  replace hn : n = n1 := Eq.symm hn
  subst hn
  replace b_m : bM k (b + 204) y2.2 hh := c_m
  clear c_m
  replace ff : rx_fr [(b + 204, 9)] _ hh := ff
  replace b_B := b_B.keep ff ⟨s_B_m, trivial⟩
  replace b_s := b_s.keep ff ⟨s_s_m, trivial⟩
  replace b_p := b_p.keep ff ⟨s_p_m, trivial⟩
  replace b_L := b_L.keep ff ⟨s_L_m, trivial⟩
  replace fr := rx_frt fr ff (fun a ha => ⟨ha.1, trivial⟩)
  refine rx_istore C dL_law_1035 (by decide) [(6, .int y2.1), (5, .int y1.1), (0, .ref sc), (1, .ref b), (2, .ref (b + 204)), (3, .ref (b + 213)), (4, .int x4)] rfl ?_
  refine rx_aload_n C dL_law_1037 4 rfl ?_
  replace hF := rx_biE hF; obtain ⟨y3, e_y3, hF⟩ := hF
  refine rx_ci (rx_rV C (w_X9_thrown e_y3 b_m) Y_X9_thrown V_X9_thrown m_L_148 (Or.inl ⟨_, _, _, _, b_m.1, rfl⟩) ⟨⟨rfl, rfl⟩, ⟨(Nat.le_of_ble_eq_true rfl), (Nat.le_of_ble_eq_true rfl)⟩, ⟨by show _ ≤ 601024; omega, by show _ ≤ 7293034; omega⟩⟩ rfl rfl (Nat.le_of_ble_eq_true rfl) dL_law_1038) (fun r hh n1 hpp => ?_)
  obtain ⟨rfl, hu⟩ := hpp
  cases hu
  refine rx_iload C dL_law_1041 1 rfl ?_
  refine rx_icmp_eq C dL_law_1043 1048 (by decide) (fun c4 => ?_) (fun c4 => ?_)
  · rw [if_pos c4] at hF
    refine rx_iload C dL_law_1048 1 rfl ?_
    refine rx_if_ne C dL_law_1050 1065 (by decide) (fun c5 => ?_) (fun c5 => ?_)
    · rw [if_neg c5] at hF
      refine rx_goto C dL_law_1065 3126 (by decide) ?_
      obtain rfl := Option.some.inj hF
      refine rx_sub [2, 3, 4, 5, 6] rfl ?_
      exact rx_wide (cells + 3) (slots + 18) (by omega) (by omega) (KK _ _ (hn0) b_m b_L fr)
    · rw [if_pos c5] at hF
      refine rx_aload_n C dL_law_1053 5 rfl ?_
      refine rx_iconst C dL_law_1054 (0 : Int32) (by decide) ?_
      refine rx_ldL C dL_law_1055 b_L ?_
      refine rx_iload C dL_law_1056 0 rfl ?_
      refine rx_i2l C dL_law_1058 ?_
      refine rx_lcmp C dL_law_1059 ?_
      refine rx_if_eq C dL_law_1060 1065 (by decide) (fun c6 => ?_) (fun c6 => ?_)
      · rw [if_pos c6] at hF
        refine rx_goto C dL_law_1065 3126 (by decide) ?_
        obtain rfl := Option.some.inj hF
        refine rx_sub [2, 3, 4, 5, 6] rfl ?_
        exact rx_wide (cells + 3) (slots + 18) (by omega) (by omega) (KK _ _ (hn0) b_m b_L fr)
      · rw [if_neg c6] at hF
        refine rx_iconst C dL_law_1063 (0 : Int32) (by decide) ?_
        cases hF
  · rw [if_neg c4] at hF
    refine rx_iconst C dL_law_1046 (0 : Int32) (by decide) ?_
    cases hF
def F_case_19 (oB : ob) (os : ob) (op : ob) (om : ob) : Option (ob) := (F_X8_richest oB os op).bind fun y1 => (F_X9_richest om).bind fun y2 => if y1 = y2.1 then (some y2.2) else (none)
set_option maxRecDepth 100000 in
set_option maxHeartbeats 4000000 in
theorem lc_19 {b : Nat} {oB : ob} {os : ob} {op : ob} {om : ob} {y : ob} (hst : l.stackTraces = false) (hF : F_case_19 oB os op om = some y) (C : rx_C G k P9 M9 c9 cL_law RL 9 ret9 S9 A9 me9) (hN : rx_NC S9) (hX : va_X sc len xs S9 S9.heap) (hbl : sc < S9.heap.size) (hbA : ¬ k 0 ≤ sc) (hcl : cells + 3 ≤ 601024) (hsl : slots + 18 ≤ 7293034) (b_B : bB k b oB h) (b_s : bS k (b + 12) os h) (b_p : bP k (b + 21) (b + 12) op h) (b_m : bM k (b + 204) om h) (KK : ∀ (hh : hp) (n1 : Nat), n ≤ n1 → bM k (b + 204) y hh → rx_fr [(b + 204, 9)] h hh → rx_W P9 l E9 room_1 S9 M9 A9 B9 me9 c9 Q9 G k 9 (cells + 3) (slots + 18) hh n1 3126 [(0, .ref sc), (1, .ref b), (2, .ref (b + 204)), (3, .ref (b + 213)), (4, .int x4)] []) : rx_W P9 l E9 room_1 S9 M9 A9 B9 me9 c9 Q9 G k 9 cells slots h n 1068 [(0, .ref sc), (1, .ref b), (2, .ref (b + 204)), (3, .ref (b + 213)), (4, .int x4)] [] := by
  have s_B_m : b + 1 ≤ b + 204 ∨ b + 204 + 9 ≤ b := by omega
  have s_s_m : b + 12 + 9 ≤ b + 204 ∨ b + 204 + 9 ≤ b + 12 := by omega
  have s_p_m : b + 21 + 10 ≤ b + 204 ∨ b + 204 + 9 ≤ b + 21 := by omega
  unfold F_case_19 at hF
  have fr : rx_fr [(b + 204, 9)] h h := rx_fr0
  refine rx_aload_n C dL_law_1068 1 rfl ?_
  replace hF := rx_biE hF; obtain ⟨y1, e_y1, hF⟩ := hF
  refine rx_ci (rx_rV C (w_X8_richest e_y1 b_B b_s b_p) Y_X8_richest V_X8_richest m_L_212 (Or.inl ⟨_, _, _, _, b_B, rfl⟩) ⟨⟨rfl, rfl⟩, ⟨(Nat.le_of_ble_eq_true rfl), (Nat.le_of_ble_eq_true rfl)⟩, ⟨by show _ ≤ 601024; omega, by show _ ≤ 7293034; omega⟩⟩ rfl rfl (Nat.le_of_ble_eq_true rfl) dL_law_1069) (fun r hh n1 hpp => ?_)
  obtain ⟨rfl, hu⟩ := hpp
  cases hu
  refine rx_aload_n C dL_law_1072 2 rfl ?_
  replace hF := rx_biE hF; obtain ⟨y2, e_y2, hF⟩ := hF
  refine rx_ci (rx_rV C (w_X9_richest e_y2 b_m) Y_X9_richest V_X9_richest m_L_215 (Or.inl ⟨_, _, _, _, b_m.1, rfl⟩) ⟨⟨rfl, rfl⟩, ⟨(Nat.le_of_ble_eq_true rfl), (Nat.le_of_ble_eq_true rfl)⟩, ⟨by show _ ≤ 601024; omega, by show _ ≤ 7293034; omega⟩⟩ rfl rfl (Nat.le_of_ble_eq_true rfl) dL_law_1073) (fun r hh n1 hpp => ?_)
  obtain ⟨rfl, hn, c_m, ff⟩ := hpp
  replace hn : n = n1 := Eq.symm hn
  subst hn
  replace b_m : bM k (b + 204) y2.2 hh := c_m
  clear c_m
  replace ff : rx_fr [(b + 204, 9)] _ hh := ff
  replace b_B := b_B.keep ff ⟨s_B_m, trivial⟩
  replace b_s := b_s.keep ff ⟨s_s_m, trivial⟩
  replace b_p := b_p.keep ff ⟨s_p_m, trivial⟩
  replace fr := rx_frt fr ff (fun a ha => ⟨ha.1, trivial⟩)
  refine rx_icmp_eq C dL_law_1076 3126 (by decide) (fun c3 => ?_) (fun c3 => ?_)
  · rw [if_pos c3] at hF
    obtain rfl := Option.some.inj hF
    exact rx_wide (cells + 3) (slots + 18) (by omega) (by omega) (KK _ _ (Nat.le_refl _) b_m fr)
  · rw [if_neg c3] at hF
    refine rx_iconst C dL_law_1079 (0 : Int32) (by decide) ?_
    cases hF
def F_case_20 (oB : ob) (os : ob) (op : ob) (om : ob) (oL : (Nat → Int64)) (a1 : Int32) (a2 : Int32) : Option (ob × (Nat → Int64)) := (F_L_bowTo oB os op oL a1 a2).bind fun y1 => (F_X9_bowTo om a1 a2).bind fun y2 => (F_X9_thrown y2.2).bind fun y3 => if y3 = y1.1 then (if y1.1 = (0 : Int32) then (if (lg_cmp ((y1.2 0)) y2.1.toInt64) = (0 : Int32) then (some (y2.2, y1.2)) else (none)) else (some (y2.2, y1.2))) else (none)
set_option maxRecDepth 100000 in
set_option maxHeartbeats 4000000 in
theorem lc_20 {b : Nat} {oB : ob} {os : ob} {op : ob} {om : ob} {oL : (Nat → Int64)} {a1 : Int32} {a2 : Int32} {y : ob × (Nat → Int64)} (hst : l.stackTraces = false) (hF : F_case_20 oB os op om oL a1 a2 = some y) (C : rx_C G k P9 M9 c9 cL_law RL 9 ret9 S9 A9 me9) (hN : rx_NC S9) (hX : va_X sc len xs S9 S9.heap) (hbl : sc < S9.heap.size) (hbA : ¬ k 0 ≤ sc) (h1 : vp_in (x4 + (1 : Int32)) len ∧ xs (x4 + (1 : Int32)).toNatClampNeg = a1) (h2 : vp_in (x4 + (2 : Int32)) len ∧ xs (x4 + (2 : Int32)).toNatClampNeg = a2) (hcl : cells + 3 ≤ 601024) (hsl : slots + 18 ≤ 7293034) (b_B : bB k b oB h) (b_s : bS k (b + 12) os h) (b_p : bP k (b + 21) (b + 12) op h) (b_m : bM k (b + 204) om h) (b_L : bL k (b + 213) oL h) (KK : ∀ (hh : hp) (n1 : Nat), n ≤ n1 → bM k (b + 204) y.1 hh → bL k (b + 213) y.2 hh → rx_fr [(b + 204, 9), (b + 213, 1)] h hh → rx_W P9 l E9 room_1 S9 M9 A9 B9 me9 c9 Q9 G k 9 (cells + 3) (slots + 18) hh n1 3126 [(0, .ref sc), (1, .ref b), (2, .ref (b + 204)), (3, .ref (b + 213)), (4, .int x4)] []) : rx_W P9 l E9 room_1 S9 M9 A9 B9 me9 c9 Q9 G k 9 cells slots h n 1081 [(0, .ref sc), (1, .ref b), (2, .ref (b + 204)), (3, .ref (b + 213)), (4, .int x4)] [] := by
  have s_B_L : b + 1 ≤ b + 213 ∨ b + 213 + 1 ≤ b := by omega
  have s_s_L : b + 12 + 9 ≤ b + 213 ∨ b + 213 + 1 ≤ b + 12 := by omega
  have s_p_L : b + 21 + 10 ≤ b + 213 ∨ b + 213 + 1 ≤ b + 21 := by omega
  have s_m_L : b + 204 + 9 ≤ b + 213 ∨ b + 213 + 1 ≤ b + 204 := by omega
  have s_B_m : b + 1 ≤ b + 204 ∨ b + 204 + 9 ≤ b := by omega
  have s_s_m : b + 12 + 9 ≤ b + 204 ∨ b + 204 + 9 ≤ b + 12 := by omega
  have s_p_m : b + 21 + 10 ≤ b + 204 ∨ b + 204 + 9 ≤ b + 21 := by omega
  have s_L_m : b + 213 + 1 ≤ b + 204 ∨ b + 204 + 9 ≤ b + 213 := by omega
  unfold F_case_20 at hF
  have fr : rx_fr [(b + 204, 9), (b + 213, 1)] h h := rx_fr0
  refine rx_aload_n C dL_law_1081 1 rfl ?_
  refine rx_aload_n C dL_law_1082 0 rfl ?_
  refine rx_iload C dL_law_1083 4 rfl ?_
  refine rx_iconst C dL_law_1085 (1 : Int32) (by decide) ?_
  refine rx_iadd C dL_law_1086 ?_
  refine rx_sld C hX hbl hbA h1 dL_law_1087 ?_
  refine rx_aload_n C dL_law_1088 0 rfl ?_
  refine rx_iload C dL_law_1089 4 rfl ?_
  refine rx_iconst C dL_law_1091 (2 : Int32) (by decide) ?_
  refine rx_iadd C dL_law_1092 ?_
  refine rx_sld C hX hbl hbA h2 dL_law_1093 ?_
  refine rx_aload_n C dL_law_1094 3 rfl ?_
  replace hF := rx_biE hF; obtain ⟨y1, e_y1, hF⟩ := hF
  refine rx_xci (rx_rSX C hN (w_L_bowTo hst e_y1 b_B b_s b_p b_L (by omega)) Y_L_bowTo S_L_bowTo m_L_216 ⟨⟨rfl, rfl⟩, ⟨(Nat.le_of_ble_eq_true rfl), (Nat.le_of_ble_eq_true rfl)⟩, ⟨by show _ ≤ 601024; omega, by show _ ≤ 7293034; omega⟩⟩ rfl rfl (Nat.le_of_ble_eq_true rfl) dL_law_1095) (fun E hh n1 hx => hx.elim) (fun r hh n hpp => ?_)
  obtain ⟨rfl, hn0, c_L, ff⟩ := hpp
  replace b_L : bL k (b + 213) y1.2 hh := c_L
  clear c_L
  replace ff : rx_fr [(b + 213, 1)] _ hh := ff
  replace b_B := b_B.keep ff ⟨s_B_L, trivial⟩
  replace b_s := b_s.keep ff ⟨s_s_L, trivial⟩
  replace b_p := b_p.keep ff ⟨s_p_L, trivial⟩
  replace b_m := b_m.keep ff ⟨s_m_L, trivial⟩
  replace fr := rx_frt fr ff (fun a ha => ⟨ha.2.1, trivial⟩)
  refine rx_istore C dL_law_1098 (by decide) [(5, .int y1.1), (0, .ref sc), (1, .ref b), (2, .ref (b + 204)), (3, .ref (b + 213)), (4, .int x4)] rfl ?_
  refine rx_aload_n C dL_law_1100 3 rfl ?_
  refine rx_aload_n C dL_law_1101 1 rfl ?_
  refine rx_iload C dL_law_1102 5 rfl ?_
  refine rx_iconst C dL_law_1104 (1 : Int32) (by decide) ?_
  refine rx_iadd C dL_law_1105 ?_
  refine rx_sld C hX hbl hbA h1 dL_law_1106 ?_
  refine rx_aload_n C dL_law_1107 1 rfl ?_
  refine rx_iload C dL_law_1108 5 rfl ?_
  refine rx_iconst C dL_law_1110 (2 : Int32) (by decide) ?_
  refine rx_iadd C dL_law_1111 ?_
  refine rx_sld C hX hbl hbA h2 dL_law_1112 ?_
  replace hF := rx_biE hF; obtain ⟨y2, e_y2, hF⟩ := hF
  refine rx_ci (rx_rV C (w_X9_bowTo e_y2 b_m) Y_X9_bowTo V_X9_bowTo m_L_219 (Or.inl ⟨_, _, _, _, b_m.1, rfl⟩) ⟨⟨rfl, rfl⟩, ⟨(Nat.le_of_ble_eq_true rfl), (Nat.le_of_ble_eq_true rfl)⟩, ⟨by show _ ≤ 601024; omega, by show _ ≤ 7293034; omega⟩⟩ rfl rfl (Nat.le_of_ble_eq_true rfl) dL_law_1113) (fun r hh n1 hpp => ?_)
  obtain ⟨rfl, hn, c_m, ff⟩ := hpp
  replace hn : n = n1 := Eq.symm hn
  subst hn
  replace b_m : bM k (b + 204) y2.2 hh := c_m
  clear c_m
  replace ff : rx_fr [(b + 204, 9)] _ hh := ff
  replace b_B := b_B.keep ff ⟨s_B_m, trivial⟩
  replace b_s := b_s.keep ff ⟨s_s_m, trivial⟩
  replace b_p := b_p.keep ff ⟨s_p_m, trivial⟩
  replace b_L := b_L.keep ff ⟨s_L_m, trivial⟩
  replace fr := rx_frt fr ff (fun a ha => ⟨ha.1, trivial⟩)
  refine rx_istore C dL_law_1116 (by decide) [(6, .int y2.1), (5, .int y1.1), (0, .ref sc), (1, .ref b), (2, .ref (b + 204)), (3, .ref (b + 213)), (4, .int x4)] rfl ?_
  refine rx_aload_n C dL_law_1118 4 rfl ?_
  replace hF := rx_biE hF; obtain ⟨y3, e_y3, hF⟩ := hF
  refine rx_ci (rx_rV C (w_X9_thrown e_y3 b_m) Y_X9_thrown V_X9_thrown m_L_148 (Or.inl ⟨_, _, _, _, b_m.1, rfl⟩) ⟨⟨rfl, rfl⟩, ⟨(Nat.le_of_ble_eq_true rfl), (Nat.le_of_ble_eq_true rfl)⟩, ⟨by show _ ≤ 601024; omega, by show _ ≤ 7293034; omega⟩⟩ rfl rfl (Nat.le_of_ble_eq_true rfl) dL_law_1119) (fun r hh n1 hpp => ?_)
  obtain ⟨rfl, hu⟩ := hpp
  cases hu
  refine rx_iload C dL_law_1122 1 rfl ?_
  refine rx_icmp_eq C dL_law_1124 1129 (by decide) (fun c4 => ?_) (fun c4 => ?_)
  · rw [if_pos c4] at hF
    refine rx_iload C dL_law_1129 1 rfl ?_
    refine rx_if_ne C dL_law_1131 1146 (by decide) (fun c5 => ?_) (fun c5 => ?_)
    · rw [if_neg c5] at hF
      refine rx_goto C dL_law_1146 3126 (by decide) ?_
      obtain rfl := Option.some.inj hF
      refine rx_sub [2, 3, 4, 5, 6] rfl ?_
      exact rx_wide (cells + 3) (slots + 18) (by omega) (by omega) (KK _ _ (hn0) b_m b_L fr)
    · rw [if_pos c5] at hF
      refine rx_aload_n C dL_law_1134 5 rfl ?_
      refine rx_iconst C dL_law_1135 (0 : Int32) (by decide) ?_
      refine rx_ldL C dL_law_1136 b_L ?_
      refine rx_iload C dL_law_1137 0 rfl ?_
      refine rx_i2l C dL_law_1139 ?_
      refine rx_lcmp C dL_law_1140 ?_
      refine rx_if_eq C dL_law_1141 1146 (by decide) (fun c6 => ?_) (fun c6 => ?_)
      · rw [if_pos c6] at hF
        refine rx_goto C dL_law_1146 3126 (by decide) ?_
        obtain rfl := Option.some.inj hF
        refine rx_sub [2, 3, 4, 5, 6] rfl ?_
        exact rx_wide (cells + 3) (slots + 18) (by omega) (by omega) (KK _ _ (hn0) b_m b_L fr)
      · rw [if_neg c6] at hF
        refine rx_iconst C dL_law_1144 (0 : Int32) (by decide) ?_
        cases hF
  · rw [if_neg c4] at hF
    refine rx_iconst C dL_law_1127 (0 : Int32) (by decide) ?_
    cases hF
def F_case_21 (oB : ob) (os : ob) (op : ob) (om : ob) (oL : (Nat → Int64)) (a1 : Int32) : Option (ob × (Nat → Int64)) := (F_L_bowToKeeper oB os op oL a1).bind fun y1 => (F_X9_bowToKeeper om a1).bind fun y2 => (F_X9_thrown y2.2).bind fun y3 => if y3 = y1.1 then (if y1.1 = (0 : Int32) then (if (lg_cmp ((y1.2 0)) y2.1.toInt64) = (0 : Int32) then (some (y2.2, y1.2)) else (none)) else (some (y2.2, y1.2))) else (none)
set_option maxRecDepth 100000 in
set_option maxHeartbeats 4000000 in
theorem lc_21 {b : Nat} {oB : ob} {os : ob} {op : ob} {om : ob} {oL : (Nat → Int64)} {a1 : Int32} {y : ob × (Nat → Int64)} (hst : l.stackTraces = false) (hF : F_case_21 oB os op om oL a1 = some y) (C : rx_C G k P9 M9 c9 cL_law RL 9 ret9 S9 A9 me9) (hN : rx_NC S9) (hX : va_X sc len xs S9 S9.heap) (hbl : sc < S9.heap.size) (hbA : ¬ k 0 ≤ sc) (h1 : vp_in (x4 + (1 : Int32)) len ∧ xs (x4 + (1 : Int32)).toNatClampNeg = a1) (hcl : cells + 3 ≤ 601024) (hsl : slots + 18 ≤ 7293034) (b_B : bB k b oB h) (b_s : bS k (b + 12) os h) (b_p : bP k (b + 21) (b + 12) op h) (b_m : bM k (b + 204) om h) (b_L : bL k (b + 213) oL h) (KK : ∀ (hh : hp) (n1 : Nat), n ≤ n1 → bM k (b + 204) y.1 hh → bL k (b + 213) y.2 hh → rx_fr [(b + 204, 9), (b + 213, 1)] h hh → rx_W P9 l E9 room_1 S9 M9 A9 B9 me9 c9 Q9 G k 9 (cells + 3) (slots + 18) hh n1 3126 [(0, .ref sc), (1, .ref b), (2, .ref (b + 204)), (3, .ref (b + 213)), (4, .int x4)] []) : rx_W P9 l E9 room_1 S9 M9 A9 B9 me9 c9 Q9 G k 9 cells slots h n 1149 [(0, .ref sc), (1, .ref b), (2, .ref (b + 204)), (3, .ref (b + 213)), (4, .int x4)] [] := by
  have s_B_L : b + 1 ≤ b + 213 ∨ b + 213 + 1 ≤ b := by omega
  have s_s_L : b + 12 + 9 ≤ b + 213 ∨ b + 213 + 1 ≤ b + 12 := by omega
  have s_p_L : b + 21 + 10 ≤ b + 213 ∨ b + 213 + 1 ≤ b + 21 := by omega
  have s_m_L : b + 204 + 9 ≤ b + 213 ∨ b + 213 + 1 ≤ b + 204 := by omega
  have s_B_m : b + 1 ≤ b + 204 ∨ b + 204 + 9 ≤ b := by omega
  have s_s_m : b + 12 + 9 ≤ b + 204 ∨ b + 204 + 9 ≤ b + 12 := by omega
  have s_p_m : b + 21 + 10 ≤ b + 204 ∨ b + 204 + 9 ≤ b + 21 := by omega
  have s_L_m : b + 213 + 1 ≤ b + 204 ∨ b + 204 + 9 ≤ b + 213 := by omega
  unfold F_case_21 at hF
  have fr : rx_fr [(b + 204, 9), (b + 213, 1)] h h := rx_fr0
  refine rx_aload_n C dL_law_1149 1 rfl ?_
  refine rx_aload_n C dL_law_1150 0 rfl ?_
  refine rx_iload C dL_law_1151 4 rfl ?_
  refine rx_iconst C dL_law_1153 (1 : Int32) (by decide) ?_
  refine rx_iadd C dL_law_1154 ?_
  refine rx_sld C hX hbl hbA h1 dL_law_1155 ?_
  refine rx_aload_n C dL_law_1156 3 rfl ?_
  replace hF := rx_biE hF; obtain ⟨y1, e_y1, hF⟩ := hF
  refine rx_xci (rx_rSX C hN (w_L_bowToKeeper hst e_y1 b_B b_s b_p b_L (by omega)) Y_L_bowToKeeper S_L_bowToKeeper m_L_220 ⟨⟨rfl, rfl⟩, ⟨(Nat.le_of_ble_eq_true rfl), (Nat.le_of_ble_eq_true rfl)⟩, ⟨by show _ ≤ 601024; omega, by show _ ≤ 7293034; omega⟩⟩ rfl rfl (Nat.le_of_ble_eq_true rfl) dL_law_1157) (fun E hh n1 hx => hx.elim) (fun r hh n hpp => ?_)
  obtain ⟨rfl, hn0, c_L, ff⟩ := hpp
  replace b_L : bL k (b + 213) y1.2 hh := c_L
  clear c_L
  replace ff : rx_fr [(b + 213, 1)] _ hh := ff
  replace b_B := b_B.keep ff ⟨s_B_L, trivial⟩
  replace b_s := b_s.keep ff ⟨s_s_L, trivial⟩
  replace b_p := b_p.keep ff ⟨s_p_L, trivial⟩
  replace b_m := b_m.keep ff ⟨s_m_L, trivial⟩
  replace fr := rx_frt fr ff (fun a ha => ⟨ha.2.1, trivial⟩)
  refine rx_istore C dL_law_1160 (by decide) [(5, .int y1.1), (0, .ref sc), (1, .ref b), (2, .ref (b + 204)), (3, .ref (b + 213)), (4, .int x4)] rfl ?_
  refine rx_aload_n C dL_law_1162 3 rfl ?_
  refine rx_aload_n C dL_law_1163 1 rfl ?_
  refine rx_iload C dL_law_1164 5 rfl ?_
  refine rx_iconst C dL_law_1166 (1 : Int32) (by decide) ?_
  refine rx_iadd C dL_law_1167 ?_
  refine rx_sld C hX hbl hbA h1 dL_law_1168 ?_
  replace hF := rx_biE hF; obtain ⟨y2, e_y2, hF⟩ := hF
  refine rx_ci (rx_rV C (w_X9_bowToKeeper e_y2 b_m) Y_X9_bowToKeeper V_X9_bowToKeeper m_L_222 (Or.inl ⟨_, _, _, _, b_m.1, rfl⟩) ⟨⟨rfl, rfl⟩, ⟨(Nat.le_of_ble_eq_true rfl), (Nat.le_of_ble_eq_true rfl)⟩, ⟨by show _ ≤ 601024; omega, by show _ ≤ 7293034; omega⟩⟩ rfl rfl (Nat.le_of_ble_eq_true rfl) dL_law_1169) (fun r hh n1 hpp => ?_)
  obtain ⟨rfl, hn, c_m, ff⟩ := hpp
  replace hn : n = n1 := Eq.symm hn
  subst hn
  replace b_m : bM k (b + 204) y2.2 hh := c_m
  clear c_m
  replace ff : rx_fr [(b + 204, 9)] _ hh := ff
  replace b_B := b_B.keep ff ⟨s_B_m, trivial⟩
  replace b_s := b_s.keep ff ⟨s_s_m, trivial⟩
  replace b_p := b_p.keep ff ⟨s_p_m, trivial⟩
  replace b_L := b_L.keep ff ⟨s_L_m, trivial⟩
  replace fr := rx_frt fr ff (fun a ha => ⟨ha.1, trivial⟩)
  refine rx_istore C dL_law_1172 (by decide) [(6, .int y2.1), (5, .int y1.1), (0, .ref sc), (1, .ref b), (2, .ref (b + 204)), (3, .ref (b + 213)), (4, .int x4)] rfl ?_
  refine rx_aload_n C dL_law_1174 4 rfl ?_
  replace hF := rx_biE hF; obtain ⟨y3, e_y3, hF⟩ := hF
  refine rx_ci (rx_rV C (w_X9_thrown e_y3 b_m) Y_X9_thrown V_X9_thrown m_L_148 (Or.inl ⟨_, _, _, _, b_m.1, rfl⟩) ⟨⟨rfl, rfl⟩, ⟨(Nat.le_of_ble_eq_true rfl), (Nat.le_of_ble_eq_true rfl)⟩, ⟨by show _ ≤ 601024; omega, by show _ ≤ 7293034; omega⟩⟩ rfl rfl (Nat.le_of_ble_eq_true rfl) dL_law_1175) (fun r hh n1 hpp => ?_)
  obtain ⟨rfl, hu⟩ := hpp
  cases hu
  refine rx_iload C dL_law_1178 1 rfl ?_
  refine rx_icmp_eq C dL_law_1180 1185 (by decide) (fun c4 => ?_) (fun c4 => ?_)
  · rw [if_pos c4] at hF
    refine rx_iload C dL_law_1185 1 rfl ?_
    refine rx_if_ne C dL_law_1187 1202 (by decide) (fun c5 => ?_) (fun c5 => ?_)
    · rw [if_neg c5] at hF
      refine rx_goto C dL_law_1202 3126 (by decide) ?_
      obtain rfl := Option.some.inj hF
      refine rx_sub [2, 3, 4, 5, 6] rfl ?_
      exact rx_wide (cells + 3) (slots + 18) (by omega) (by omega) (KK _ _ (hn0) b_m b_L fr)
    · rw [if_pos c5] at hF
      refine rx_aload_n C dL_law_1190 5 rfl ?_
      refine rx_iconst C dL_law_1191 (0 : Int32) (by decide) ?_
      refine rx_ldL C dL_law_1192 b_L ?_
      refine rx_iload C dL_law_1193 0 rfl ?_
      refine rx_i2l C dL_law_1195 ?_
      refine rx_lcmp C dL_law_1196 ?_
      refine rx_if_eq C dL_law_1197 1202 (by decide) (fun c6 => ?_) (fun c6 => ?_)
      · rw [if_pos c6] at hF
        refine rx_goto C dL_law_1202 3126 (by decide) ?_
        obtain rfl := Option.some.inj hF
        refine rx_sub [2, 3, 4, 5, 6] rfl ?_
        exact rx_wide (cells + 3) (slots + 18) (by omega) (by omega) (KK _ _ (hn0) b_m b_L fr)
      · rw [if_neg c6] at hF
        refine rx_iconst C dL_law_1200 (0 : Int32) (by decide) ?_
        cases hF
  · rw [if_neg c4] at hF
    refine rx_iconst C dL_law_1183 (0 : Int32) (by decide) ?_
    cases hF
def F_case_22 (oB : ob) (os : ob) (op : ob) (om : ob) (oL : (Nat → Int64)) (a1 : Int32) : Option (ob × (Nat → Int64)) := (F_L_isTakenForKing oB os op oL a1).bind fun y1 => (F_X9_isTakenForKing om a1).bind fun y2 => (F_X9_thrown y2.2).bind fun y3 => if y3 = y1.1 then (if y1.1 = (0 : Int32) then (if y2.1 = (0 : Int32) then (if (lg_cmp ((y1.2 0)) ((0 : Int64))) = (0 : Int32) then (some (y2.2, y1.2)) else (none)) else (if (lg_cmp ((y1.2 0)) ((1 : Int64))) = (0 : Int32) then (some (y2.2, y1.2)) else (none))) else (some (y2.2, y1.2))) else (none)
set_option maxRecDepth 100000 in
set_option maxHeartbeats 4000000 in
theorem lc_22 {b : Nat} {oB : ob} {os : ob} {op : ob} {om : ob} {oL : (Nat → Int64)} {a1 : Int32} {y : ob × (Nat → Int64)} (hst : l.stackTraces = false) (hF : F_case_22 oB os op om oL a1 = some y) (C : rx_C G k P9 M9 c9 cL_law RL 9 ret9 S9 A9 me9) (hN : rx_NC S9) (hX : va_X sc len xs S9 S9.heap) (hbl : sc < S9.heap.size) (hbA : ¬ k 0 ≤ sc) (h1 : vp_in (x4 + (1 : Int32)) len ∧ xs (x4 + (1 : Int32)).toNatClampNeg = a1) (hcl : cells + 3 ≤ 601024) (hsl : slots + 18 ≤ 7293034) (b_B : bB k b oB h) (b_s : bS k (b + 12) os h) (b_p : bP k (b + 21) (b + 12) op h) (b_m : bM k (b + 204) om h) (b_L : bL k (b + 213) oL h) (KK : ∀ (hh : hp) (n1 : Nat), n ≤ n1 → bM k (b + 204) y.1 hh → bL k (b + 213) y.2 hh → rx_fr [(b + 204, 9), (b + 213, 1)] h hh → rx_W P9 l E9 room_1 S9 M9 A9 B9 me9 c9 Q9 G k 9 (cells + 3) (slots + 18) hh n1 3126 [(0, .ref sc), (1, .ref b), (2, .ref (b + 204)), (3, .ref (b + 213)), (4, .int x4)] []) : rx_W P9 l E9 room_1 S9 M9 A9 B9 me9 c9 Q9 G k 9 cells slots h n 1205 [(0, .ref sc), (1, .ref b), (2, .ref (b + 204)), (3, .ref (b + 213)), (4, .int x4)] [] := by
  have s_B_L : b + 1 ≤ b + 213 ∨ b + 213 + 1 ≤ b := by omega
  have s_s_L : b + 12 + 9 ≤ b + 213 ∨ b + 213 + 1 ≤ b + 12 := by omega
  have s_p_L : b + 21 + 10 ≤ b + 213 ∨ b + 213 + 1 ≤ b + 21 := by omega
  have s_m_L : b + 204 + 9 ≤ b + 213 ∨ b + 213 + 1 ≤ b + 204 := by omega
  have s_B_m : b + 1 ≤ b + 204 ∨ b + 204 + 9 ≤ b := by omega
  have s_s_m : b + 12 + 9 ≤ b + 204 ∨ b + 204 + 9 ≤ b + 12 := by omega
  have s_p_m : b + 21 + 10 ≤ b + 204 ∨ b + 204 + 9 ≤ b + 21 := by omega
  have s_L_m : b + 213 + 1 ≤ b + 204 ∨ b + 204 + 9 ≤ b + 213 := by omega
  unfold F_case_22 at hF
  have fr : rx_fr [(b + 204, 9), (b + 213, 1)] h h := rx_fr0
  refine rx_aload_n C dL_law_1205 1 rfl ?_
  refine rx_aload_n C dL_law_1206 0 rfl ?_
  refine rx_iload C dL_law_1207 4 rfl ?_
  refine rx_iconst C dL_law_1209 (1 : Int32) (by decide) ?_
  refine rx_iadd C dL_law_1210 ?_
  refine rx_sld C hX hbl hbA h1 dL_law_1211 ?_
  refine rx_aload_n C dL_law_1212 3 rfl ?_
  replace hF := rx_biE hF; obtain ⟨y1, e_y1, hF⟩ := hF
  refine rx_xci (rx_rSX C hN (w_L_isTakenForKing hst e_y1 b_B b_s b_p b_L (by omega)) Y_L_isTakenForKing S_L_isTakenForKing m_L_223 ⟨⟨rfl, rfl⟩, ⟨(Nat.le_of_ble_eq_true rfl), (Nat.le_of_ble_eq_true rfl)⟩, ⟨by show _ ≤ 601024; omega, by show _ ≤ 7293034; omega⟩⟩ rfl rfl (Nat.le_of_ble_eq_true rfl) dL_law_1213) (fun E hh n1 hx => hx.elim) (fun r hh n hpp => ?_)
  obtain ⟨rfl, hn0, c_L, ff⟩ := hpp
  replace b_L : bL k (b + 213) y1.2 hh := c_L
  clear c_L
  replace ff : rx_fr [(b + 213, 1)] _ hh := ff
  replace b_B := b_B.keep ff ⟨s_B_L, trivial⟩
  replace b_s := b_s.keep ff ⟨s_s_L, trivial⟩
  replace b_p := b_p.keep ff ⟨s_p_L, trivial⟩
  replace b_m := b_m.keep ff ⟨s_m_L, trivial⟩
  replace fr := rx_frt fr ff (fun a ha => ⟨ha.2.1, trivial⟩)
  refine rx_istore C dL_law_1216 (by decide) [(5, .int y1.1), (0, .ref sc), (1, .ref b), (2, .ref (b + 204)), (3, .ref (b + 213)), (4, .int x4)] rfl ?_
  refine rx_aload_n C dL_law_1218 3 rfl ?_
  refine rx_aload_n C dL_law_1219 1 rfl ?_
  refine rx_iload C dL_law_1220 5 rfl ?_
  refine rx_iconst C dL_law_1222 (1 : Int32) (by decide) ?_
  refine rx_iadd C dL_law_1223 ?_
  refine rx_sld C hX hbl hbA h1 dL_law_1224 ?_
  replace hF := rx_biE hF; obtain ⟨y2, e_y2, hF⟩ := hF
  refine rx_ci (rx_rV C (w_X9_isTakenForKing e_y2 b_m) Y_X9_isTakenForKing V_X9_isTakenForKing m_L_225 (Or.inl ⟨_, _, _, _, b_m.1, rfl⟩) ⟨⟨rfl, rfl⟩, ⟨(Nat.le_of_ble_eq_true rfl), (Nat.le_of_ble_eq_true rfl)⟩, ⟨by show _ ≤ 601024; omega, by show _ ≤ 7293034; omega⟩⟩ rfl rfl (Nat.le_of_ble_eq_true rfl) dL_law_1225) (fun r hh n1 hpp => ?_)
  obtain ⟨rfl, bo_y2, hn, c_m, ff⟩ := hpp
  replace hn : n = n1 := Eq.symm hn
  subst hn
  replace b_m : bM k (b + 204) y2.2 hh := c_m
  clear c_m
  replace ff : rx_fr [(b + 204, 9)] _ hh := ff
  replace b_B := b_B.keep ff ⟨s_B_m, trivial⟩
  replace b_s := b_s.keep ff ⟨s_s_m, trivial⟩
  replace b_p := b_p.keep ff ⟨s_p_m, trivial⟩
  replace b_L := b_L.keep ff ⟨s_L_m, trivial⟩
  replace fr := rx_frt fr ff (fun a ha => ⟨ha.1, trivial⟩)
  refine rx_istore C dL_law_1228 (by decide) [(6, .int y2.1), (5, .int y1.1), (0, .ref sc), (1, .ref b), (2, .ref (b + 204)), (3, .ref (b + 213)), (4, .int x4)] rfl ?_
  refine rx_aload_n C dL_law_1230 4 rfl ?_
  replace hF := rx_biE hF; obtain ⟨y3, e_y3, hF⟩ := hF
  refine rx_ci (rx_rV C (w_X9_thrown e_y3 b_m) Y_X9_thrown V_X9_thrown m_L_148 (Or.inl ⟨_, _, _, _, b_m.1, rfl⟩) ⟨⟨rfl, rfl⟩, ⟨(Nat.le_of_ble_eq_true rfl), (Nat.le_of_ble_eq_true rfl)⟩, ⟨by show _ ≤ 601024; omega, by show _ ≤ 7293034; omega⟩⟩ rfl rfl (Nat.le_of_ble_eq_true rfl) dL_law_1231) (fun r hh n1 hpp => ?_)
  obtain ⟨rfl, hu⟩ := hpp
  cases hu
  refine rx_iload C dL_law_1234 1 rfl ?_
  refine rx_icmp_eq C dL_law_1236 1241 (by decide) (fun c4 => ?_) (fun c4 => ?_)
  · rw [if_pos c4] at hF
    refine rx_iload C dL_law_1241 1 rfl ?_
    refine rx_if_ne C dL_law_1243 1265 (by decide) (fun c5 => ?_) (fun c5 => ?_)
    · rw [if_neg c5] at hF
      refine rx_goto C dL_law_1265 3126 (by decide) ?_
      obtain rfl := Option.some.inj hF
      refine rx_sub [2, 3, 4, 5, 6] rfl ?_
      exact rx_wide (cells + 3) (slots + 18) (by omega) (by omega) (KK _ _ (hn0) b_m b_L fr)
    · rw [if_pos c5] at hF
      refine rx_aload_n C dL_law_1246 5 rfl ?_
      refine rx_iconst C dL_law_1247 (0 : Int32) (by decide) ?_
      refine rx_ldL C dL_law_1248 b_L ?_
      refine rx_iload C dL_law_1249 0 rfl ?_
      refine rx_if_eq C dL_law_1251 1258 (by decide) (fun c6 => ?_) (fun c6 => ?_)
      · rw [if_pos c6] at hF
        refine rx_lconst C dL_law_1258 0 (by decide) ?_
        refine rx_lcmp C dL_law_1259 ?_
        refine rx_if_eq C dL_law_1260 1265 (by decide) (fun c7 => ?_) (fun c7 => ?_)
        · rw [if_pos c7] at hF
          refine rx_goto C dL_law_1265 3126 (by decide) ?_
          obtain rfl := Option.some.inj hF
          refine rx_sub [2, 3, 4, 5, 6] rfl ?_
          exact rx_wide (cells + 3) (slots + 18) (by omega) (by omega) (KK _ _ (hn0) b_m b_L fr)
        · rw [if_neg c7] at hF
          refine rx_iconst C dL_law_1263 (0 : Int32) (by decide) ?_
          cases hF
      · rw [if_neg c6] at hF
        refine rx_lconst C dL_law_1254 1 (by decide) ?_
        refine rx_goto C dL_law_1255 1259 (by decide) ?_
        refine rx_lcmp C dL_law_1259 ?_
        refine rx_if_eq C dL_law_1260 1265 (by decide) (fun c8 => ?_) (fun c8 => ?_)
        · rw [if_pos c8] at hF
          refine rx_goto C dL_law_1265 3126 (by decide) ?_
          obtain rfl := Option.some.inj hF
          refine rx_sub [2, 3, 4, 5, 6] rfl ?_
          exact rx_wide (cells + 3) (slots + 18) (by omega) (by omega) (KK _ _ (hn0) b_m b_L fr)
        · rw [if_neg c8] at hF
          refine rx_iconst C dL_law_1263 (0 : Int32) (by decide) ?_
          cases hF
  · rw [if_neg c4] at hF
    refine rx_iconst C dL_law_1239 (0 : Int32) (by decide) ?_
    cases hF
def F_case_23 (oB : ob) (os : ob) (op : ob) (om : ob) (oL : (Nat → Int64)) (a1 : Int32) : Option (ob × (Nat → Int64)) := (F_L_tollOf oB os op oL a1).bind fun y1 => (F_X9_tollOf om a1).bind fun y2 => (F_X9_thrown y2.2).bind fun y3 => if y3 = y1.1 then (if y1.1 = (0 : Int32) then (if (lg_cmp ((y1.2 0)) y2.1.toInt64) = (0 : Int32) then (some (y2.2, y1.2)) else (none)) else (some (y2.2, y1.2))) else (none)
set_option maxRecDepth 100000 in
set_option maxHeartbeats 4000000 in
theorem lc_23 {b : Nat} {oB : ob} {os : ob} {op : ob} {om : ob} {oL : (Nat → Int64)} {a1 : Int32} {y : ob × (Nat → Int64)} (hst : l.stackTraces = false) (hF : F_case_23 oB os op om oL a1 = some y) (C : rx_C G k P9 M9 c9 cL_law RL 9 ret9 S9 A9 me9) (hN : rx_NC S9) (hX : va_X sc len xs S9 S9.heap) (hbl : sc < S9.heap.size) (hbA : ¬ k 0 ≤ sc) (h1 : vp_in (x4 + (1 : Int32)) len ∧ xs (x4 + (1 : Int32)).toNatClampNeg = a1) (hcl : cells + 3 ≤ 601024) (hsl : slots + 18 ≤ 7293034) (b_B : bB k b oB h) (b_s : bS k (b + 12) os h) (b_p : bP k (b + 21) (b + 12) op h) (b_m : bM k (b + 204) om h) (b_L : bL k (b + 213) oL h) (KK : ∀ (hh : hp) (n1 : Nat), n ≤ n1 → bM k (b + 204) y.1 hh → bL k (b + 213) y.2 hh → rx_fr [(b + 204, 9), (b + 213, 1)] h hh → rx_W P9 l E9 room_1 S9 M9 A9 B9 me9 c9 Q9 G k 9 (cells + 3) (slots + 18) hh n1 3126 [(0, .ref sc), (1, .ref b), (2, .ref (b + 204)), (3, .ref (b + 213)), (4, .int x4)] []) : rx_W P9 l E9 room_1 S9 M9 A9 B9 me9 c9 Q9 G k 9 cells slots h n 1268 [(0, .ref sc), (1, .ref b), (2, .ref (b + 204)), (3, .ref (b + 213)), (4, .int x4)] [] := by
  have s_B_L : b + 1 ≤ b + 213 ∨ b + 213 + 1 ≤ b := by omega
  have s_s_L : b + 12 + 9 ≤ b + 213 ∨ b + 213 + 1 ≤ b + 12 := by omega
  have s_p_L : b + 21 + 10 ≤ b + 213 ∨ b + 213 + 1 ≤ b + 21 := by omega
  have s_m_L : b + 204 + 9 ≤ b + 213 ∨ b + 213 + 1 ≤ b + 204 := by omega
  have s_B_m : b + 1 ≤ b + 204 ∨ b + 204 + 9 ≤ b := by omega
  have s_s_m : b + 12 + 9 ≤ b + 204 ∨ b + 204 + 9 ≤ b + 12 := by omega
  have s_p_m : b + 21 + 10 ≤ b + 204 ∨ b + 204 + 9 ≤ b + 21 := by omega
  have s_L_m : b + 213 + 1 ≤ b + 204 ∨ b + 204 + 9 ≤ b + 213 := by omega
  unfold F_case_23 at hF
  have fr : rx_fr [(b + 204, 9), (b + 213, 1)] h h := rx_fr0
  refine rx_aload_n C dL_law_1268 1 rfl ?_
  refine rx_aload_n C dL_law_1269 0 rfl ?_
  refine rx_iload C dL_law_1270 4 rfl ?_
  refine rx_iconst C dL_law_1272 (1 : Int32) (by decide) ?_
  refine rx_iadd C dL_law_1273 ?_
  refine rx_sld C hX hbl hbA h1 dL_law_1274 ?_
  refine rx_aload_n C dL_law_1275 3 rfl ?_
  replace hF := rx_biE hF; obtain ⟨y1, e_y1, hF⟩ := hF
  refine rx_xci (rx_rSX C hN (w_L_tollOf hst e_y1 b_B b_s b_p b_L (by omega)) Y_L_tollOf S_L_tollOf m_L_226 ⟨⟨rfl, rfl⟩, ⟨(Nat.le_of_ble_eq_true rfl), (Nat.le_of_ble_eq_true rfl)⟩, ⟨by show _ ≤ 601024; omega, by show _ ≤ 7293034; omega⟩⟩ rfl rfl (Nat.le_of_ble_eq_true rfl) dL_law_1276) (fun E hh n1 hx => hx.elim) (fun r hh n hpp => ?_)
  obtain ⟨rfl, hn0, c_L, ff⟩ := hpp
  replace b_L : bL k (b + 213) y1.2 hh := c_L
  clear c_L
  replace ff : rx_fr [(b + 213, 1)] _ hh := ff
  replace b_B := b_B.keep ff ⟨s_B_L, trivial⟩
  replace b_s := b_s.keep ff ⟨s_s_L, trivial⟩
  replace b_p := b_p.keep ff ⟨s_p_L, trivial⟩
  replace b_m := b_m.keep ff ⟨s_m_L, trivial⟩
  replace fr := rx_frt fr ff (fun a ha => ⟨ha.2.1, trivial⟩)
  refine rx_istore C dL_law_1279 (by decide) [(5, .int y1.1), (0, .ref sc), (1, .ref b), (2, .ref (b + 204)), (3, .ref (b + 213)), (4, .int x4)] rfl ?_
  refine rx_aload_n C dL_law_1281 3 rfl ?_
  refine rx_aload_n C dL_law_1282 1 rfl ?_
  refine rx_iload C dL_law_1283 5 rfl ?_
  refine rx_iconst C dL_law_1285 (1 : Int32) (by decide) ?_
  refine rx_iadd C dL_law_1286 ?_
  refine rx_sld C hX hbl hbA h1 dL_law_1287 ?_
  replace hF := rx_biE hF; obtain ⟨y2, e_y2, hF⟩ := hF
  refine rx_ci (rx_rV C (w_X9_tollOf e_y2 b_m) Y_X9_tollOf V_X9_tollOf m_L_228 (Or.inl ⟨_, _, _, _, b_m.1, rfl⟩) ⟨⟨rfl, rfl⟩, ⟨(Nat.le_of_ble_eq_true rfl), (Nat.le_of_ble_eq_true rfl)⟩, ⟨by show _ ≤ 601024; omega, by show _ ≤ 7293034; omega⟩⟩ rfl rfl (Nat.le_of_ble_eq_true rfl) dL_law_1288) (fun r hh n1 hpp => ?_)
  obtain ⟨rfl, hn, c_m, ff⟩ := hpp
  replace hn : n = n1 := Eq.symm hn
  subst hn
  replace b_m : bM k (b + 204) y2.2 hh := c_m
  clear c_m
  replace ff : rx_fr [(b + 204, 9)] _ hh := ff
  replace b_B := b_B.keep ff ⟨s_B_m, trivial⟩
  replace b_s := b_s.keep ff ⟨s_s_m, trivial⟩
  replace b_p := b_p.keep ff ⟨s_p_m, trivial⟩
  replace b_L := b_L.keep ff ⟨s_L_m, trivial⟩
  replace fr := rx_frt fr ff (fun a ha => ⟨ha.1, trivial⟩)
  refine rx_istore C dL_law_1291 (by decide) [(6, .int y2.1), (5, .int y1.1), (0, .ref sc), (1, .ref b), (2, .ref (b + 204)), (3, .ref (b + 213)), (4, .int x4)] rfl ?_
  refine rx_aload_n C dL_law_1293 4 rfl ?_
  replace hF := rx_biE hF; obtain ⟨y3, e_y3, hF⟩ := hF
  refine rx_ci (rx_rV C (w_X9_thrown e_y3 b_m) Y_X9_thrown V_X9_thrown m_L_148 (Or.inl ⟨_, _, _, _, b_m.1, rfl⟩) ⟨⟨rfl, rfl⟩, ⟨(Nat.le_of_ble_eq_true rfl), (Nat.le_of_ble_eq_true rfl)⟩, ⟨by show _ ≤ 601024; omega, by show _ ≤ 7293034; omega⟩⟩ rfl rfl (Nat.le_of_ble_eq_true rfl) dL_law_1294) (fun r hh n1 hpp => ?_)
  obtain ⟨rfl, hu⟩ := hpp
  cases hu
  refine rx_iload C dL_law_1297 1 rfl ?_
  refine rx_icmp_eq C dL_law_1299 1304 (by decide) (fun c4 => ?_) (fun c4 => ?_)
  · rw [if_pos c4] at hF
    refine rx_iload C dL_law_1304 1 rfl ?_
    refine rx_if_ne C dL_law_1306 1321 (by decide) (fun c5 => ?_) (fun c5 => ?_)
    · rw [if_neg c5] at hF
      refine rx_goto C dL_law_1321 3126 (by decide) ?_
      obtain rfl := Option.some.inj hF
      refine rx_sub [2, 3, 4, 5, 6] rfl ?_
      exact rx_wide (cells + 3) (slots + 18) (by omega) (by omega) (KK _ _ (hn0) b_m b_L fr)
    · rw [if_pos c5] at hF
      refine rx_aload_n C dL_law_1309 5 rfl ?_
      refine rx_iconst C dL_law_1310 (0 : Int32) (by decide) ?_
      refine rx_ldL C dL_law_1311 b_L ?_
      refine rx_iload C dL_law_1312 0 rfl ?_
      refine rx_i2l C dL_law_1314 ?_
      refine rx_lcmp C dL_law_1315 ?_
      refine rx_if_eq C dL_law_1316 1321 (by decide) (fun c6 => ?_) (fun c6 => ?_)
      · rw [if_pos c6] at hF
        refine rx_goto C dL_law_1321 3126 (by decide) ?_
        obtain rfl := Option.some.inj hF
        refine rx_sub [2, 3, 4, 5, 6] rfl ?_
        exact rx_wide (cells + 3) (slots + 18) (by omega) (by omega) (KK _ _ (hn0) b_m b_L fr)
      · rw [if_neg c6] at hF
        refine rx_iconst C dL_law_1319 (0 : Int32) (by decide) ?_
        cases hF
  · rw [if_neg c4] at hF
    refine rx_iconst C dL_law_1302 (0 : Int32) (by decide) ?_
    cases hF
def F_case_24 (oB : ob) (os : ob) (op : ob) (om : ob) : Option (ob) := (F_X8_wrongGuesses oB os op).bind fun y1 => (F_X9_wrongGuesses om).bind fun y2 => if y1 = y2.1 then (some y2.2) else (none)
set_option maxRecDepth 100000 in
set_option maxHeartbeats 4000000 in
theorem lc_24 {b : Nat} {oB : ob} {os : ob} {op : ob} {om : ob} {y : ob} (hst : l.stackTraces = false) (hF : F_case_24 oB os op om = some y) (C : rx_C G k P9 M9 c9 cL_law RL 9 ret9 S9 A9 me9) (hN : rx_NC S9) (hX : va_X sc len xs S9 S9.heap) (hbl : sc < S9.heap.size) (hbA : ¬ k 0 ≤ sc) (hcl : cells + 3 ≤ 601024) (hsl : slots + 18 ≤ 7293034) (b_B : bB k b oB h) (b_s : bS k (b + 12) os h) (b_p : bP k (b + 21) (b + 12) op h) (b_m : bM k (b + 204) om h) (KK : ∀ (hh : hp) (n1 : Nat), n ≤ n1 → bM k (b + 204) y hh → rx_fr [(b + 204, 9)] h hh → rx_W P9 l E9 room_1 S9 M9 A9 B9 me9 c9 Q9 G k 9 (cells + 3) (slots + 18) hh n1 3126 [(0, .ref sc), (1, .ref b), (2, .ref (b + 204)), (3, .ref (b + 213)), (4, .int x4)] []) : rx_W P9 l E9 room_1 S9 M9 A9 B9 me9 c9 Q9 G k 9 cells slots h n 1324 [(0, .ref sc), (1, .ref b), (2, .ref (b + 204)), (3, .ref (b + 213)), (4, .int x4)] [] := by
  have s_B_m : b + 1 ≤ b + 204 ∨ b + 204 + 9 ≤ b := by omega
  have s_s_m : b + 12 + 9 ≤ b + 204 ∨ b + 204 + 9 ≤ b + 12 := by omega
  have s_p_m : b + 21 + 10 ≤ b + 204 ∨ b + 204 + 9 ≤ b + 21 := by omega
  unfold F_case_24 at hF
  have fr : rx_fr [(b + 204, 9)] h h := rx_fr0
  refine rx_aload_n C dL_law_1324 1 rfl ?_
  replace hF := rx_biE hF; obtain ⟨y1, e_y1, hF⟩ := hF
  refine rx_ci (rx_rV C (w_X8_wrongGuesses e_y1 b_B b_s b_p) Y_X8_wrongGuesses V_X8_wrongGuesses m_L_229 (Or.inl ⟨_, _, _, _, b_B, rfl⟩) ⟨⟨rfl, rfl⟩, ⟨(Nat.le_of_ble_eq_true rfl), (Nat.le_of_ble_eq_true rfl)⟩, ⟨by show _ ≤ 601024; omega, by show _ ≤ 7293034; omega⟩⟩ rfl rfl (Nat.le_of_ble_eq_true rfl) dL_law_1325) (fun r hh n1 hpp => ?_)
  obtain ⟨rfl, hu⟩ := hpp
  cases hu
  refine rx_aload_n C dL_law_1328 2 rfl ?_
  replace hF := rx_biE hF; obtain ⟨y2, e_y2, hF⟩ := hF
  refine rx_ci (rx_rV C (w_X9_wrongGuesses e_y2 b_m) Y_X9_wrongGuesses V_X9_wrongGuesses m_L_232 (Or.inl ⟨_, _, _, _, b_m.1, rfl⟩) ⟨⟨rfl, rfl⟩, ⟨(Nat.le_of_ble_eq_true rfl), (Nat.le_of_ble_eq_true rfl)⟩, ⟨by show _ ≤ 601024; omega, by show _ ≤ 7293034; omega⟩⟩ rfl rfl (Nat.le_of_ble_eq_true rfl) dL_law_1329) (fun r hh n1 hpp => ?_)
  obtain ⟨rfl, hn, c_m, ff⟩ := hpp
  replace hn : n = n1 := Eq.symm hn
  subst hn
  replace b_m : bM k (b + 204) y2.2 hh := c_m
  clear c_m
  replace ff : rx_fr [(b + 204, 9)] _ hh := ff
  replace b_B := b_B.keep ff ⟨s_B_m, trivial⟩
  replace b_s := b_s.keep ff ⟨s_s_m, trivial⟩
  replace b_p := b_p.keep ff ⟨s_p_m, trivial⟩
  replace fr := rx_frt fr ff (fun a ha => ⟨ha.1, trivial⟩)
  refine rx_icmp_eq C dL_law_1332 3126 (by decide) (fun c3 => ?_) (fun c3 => ?_)
  · rw [if_pos c3] at hF
    obtain rfl := Option.some.inj hF
    exact rx_wide (cells + 3) (slots + 18) (by omega) (by omega) (KK _ _ (Nat.le_refl _) b_m fr)
  · rw [if_neg c3] at hF
    refine rx_iconst C dL_law_1335 (0 : Int32) (by decide) ?_
    cases hF
def F_case_25 (oB : ob) (os : ob) (op : ob) (om : ob) : Option (ob) := (F_X8_stiffest oB os op).bind fun y1 => (F_X9_stiffest om).bind fun y2 => if y1 = y2.1 then (some y2.2) else (none)
set_option maxRecDepth 100000 in
set_option maxHeartbeats 4000000 in
theorem lc_25 {b : Nat} {oB : ob} {os : ob} {op : ob} {om : ob} {y : ob} (hst : l.stackTraces = false) (hF : F_case_25 oB os op om = some y) (C : rx_C G k P9 M9 c9 cL_law RL 9 ret9 S9 A9 me9) (hN : rx_NC S9) (hX : va_X sc len xs S9 S9.heap) (hbl : sc < S9.heap.size) (hbA : ¬ k 0 ≤ sc) (hcl : cells + 3 ≤ 601024) (hsl : slots + 18 ≤ 7293034) (b_B : bB k b oB h) (b_s : bS k (b + 12) os h) (b_p : bP k (b + 21) (b + 12) op h) (b_m : bM k (b + 204) om h) (KK : ∀ (hh : hp) (n1 : Nat), n ≤ n1 → bM k (b + 204) y hh → rx_fr [(b + 204, 9)] h hh → rx_W P9 l E9 room_1 S9 M9 A9 B9 me9 c9 Q9 G k 9 (cells + 3) (slots + 18) hh n1 3126 [(0, .ref sc), (1, .ref b), (2, .ref (b + 204)), (3, .ref (b + 213)), (4, .int x4)] []) : rx_W P9 l E9 room_1 S9 M9 A9 B9 me9 c9 Q9 G k 9 cells slots h n 1337 [(0, .ref sc), (1, .ref b), (2, .ref (b + 204)), (3, .ref (b + 213)), (4, .int x4)] [] := by
  have s_B_m : b + 1 ≤ b + 204 ∨ b + 204 + 9 ≤ b := by omega
  have s_s_m : b + 12 + 9 ≤ b + 204 ∨ b + 204 + 9 ≤ b + 12 := by omega
  have s_p_m : b + 21 + 10 ≤ b + 204 ∨ b + 204 + 9 ≤ b + 21 := by omega
  unfold F_case_25 at hF
  have fr : rx_fr [(b + 204, 9)] h h := rx_fr0
  refine rx_aload_n C dL_law_1337 1 rfl ?_
  replace hF := rx_biE hF; obtain ⟨y1, e_y1, hF⟩ := hF
  refine rx_ci (rx_rV C (w_X8_stiffest e_y1 b_B b_s b_p) Y_X8_stiffest V_X8_stiffest m_L_233 (Or.inl ⟨_, _, _, _, b_B, rfl⟩) ⟨⟨rfl, rfl⟩, ⟨(Nat.le_of_ble_eq_true rfl), (Nat.le_of_ble_eq_true rfl)⟩, ⟨by show _ ≤ 601024; omega, by show _ ≤ 7293034; omega⟩⟩ rfl rfl (Nat.le_of_ble_eq_true rfl) dL_law_1338) (fun r hh n1 hpp => ?_)
  obtain ⟨rfl, hu⟩ := hpp
  cases hu
  refine rx_aload_n C dL_law_1341 2 rfl ?_
  replace hF := rx_biE hF; obtain ⟨y2, e_y2, hF⟩ := hF
  refine rx_ci (rx_rV C (w_X9_stiffest e_y2 b_m) Y_X9_stiffest V_X9_stiffest m_L_236 (Or.inl ⟨_, _, _, _, b_m.1, rfl⟩) ⟨⟨rfl, rfl⟩, ⟨(Nat.le_of_ble_eq_true rfl), (Nat.le_of_ble_eq_true rfl)⟩, ⟨by show _ ≤ 601024; omega, by show _ ≤ 7293034; omega⟩⟩ rfl rfl (Nat.le_of_ble_eq_true rfl) dL_law_1342) (fun r hh n1 hpp => ?_)
  obtain ⟨rfl, hn, c_m, ff⟩ := hpp
  replace hn : n = n1 := Eq.symm hn
  subst hn
  replace b_m : bM k (b + 204) y2.2 hh := c_m
  clear c_m
  replace ff : rx_fr [(b + 204, 9)] _ hh := ff
  replace b_B := b_B.keep ff ⟨s_B_m, trivial⟩
  replace b_s := b_s.keep ff ⟨s_s_m, trivial⟩
  replace b_p := b_p.keep ff ⟨s_p_m, trivial⟩
  replace fr := rx_frt fr ff (fun a ha => ⟨ha.1, trivial⟩)
  refine rx_icmp_eq C dL_law_1345 3126 (by decide) (fun c3 => ?_) (fun c3 => ?_)
  · rw [if_pos c3] at hF
    obtain rfl := Option.some.inj hF
    exact rx_wide (cells + 3) (slots + 18) (by omega) (by omega) (KK _ _ (Nat.le_refl _) b_m fr)
  · rw [if_neg c3] at hF
    refine rx_iconst C dL_law_1348 (0 : Int32) (by decide) ?_
    cases hF
def F_case_26 (oB : ob) (os : ob) (op : ob) (om : ob) (oL : (Nat → Int64)) (a1 : Int32) : Option (ob × (Nat → Int64)) := (F_L_cheapestRags oB os op oL a1).bind fun y1 => (F_X9_cheapestRags om a1).bind fun y2 => (F_X9_thrown y2.2).bind fun y3 => if y3 = y1.1 then (if y1.1 = (0 : Int32) then (if (lg_cmp ((y1.2 0)) y2.1.toInt64) = (0 : Int32) then (some (y2.2, y1.2)) else (none)) else (some (y2.2, y1.2))) else (none)
set_option maxRecDepth 100000 in
set_option maxHeartbeats 4000000 in
theorem lc_26 {b : Nat} {oB : ob} {os : ob} {op : ob} {om : ob} {oL : (Nat → Int64)} {a1 : Int32} {y : ob × (Nat → Int64)} (hst : l.stackTraces = false) (hF : F_case_26 oB os op om oL a1 = some y) (C : rx_C G k P9 M9 c9 cL_law RL 9 ret9 S9 A9 me9) (hN : rx_NC S9) (hX : va_X sc len xs S9 S9.heap) (hbl : sc < S9.heap.size) (hbA : ¬ k 0 ≤ sc) (h1 : vp_in (x4 + (1 : Int32)) len ∧ xs (x4 + (1 : Int32)).toNatClampNeg = a1) (hcl : cells + 3 ≤ 601024) (hsl : slots + 18 ≤ 7293034) (b_B : bB k b oB h) (b_s : bS k (b + 12) os h) (b_p : bP k (b + 21) (b + 12) op h) (b_m : bM k (b + 204) om h) (b_L : bL k (b + 213) oL h) (KK : ∀ (hh : hp) (n1 : Nat), n ≤ n1 → bM k (b + 204) y.1 hh → bL k (b + 213) y.2 hh → rx_fr [(b + 204, 9), (b + 213, 1)] h hh → rx_W P9 l E9 room_1 S9 M9 A9 B9 me9 c9 Q9 G k 9 (cells + 3) (slots + 18) hh n1 3126 [(0, .ref sc), (1, .ref b), (2, .ref (b + 204)), (3, .ref (b + 213)), (4, .int x4)] []) : rx_W P9 l E9 room_1 S9 M9 A9 B9 me9 c9 Q9 G k 9 cells slots h n 1350 [(0, .ref sc), (1, .ref b), (2, .ref (b + 204)), (3, .ref (b + 213)), (4, .int x4)] [] := by
  have s_B_L : b + 1 ≤ b + 213 ∨ b + 213 + 1 ≤ b := by omega
  have s_s_L : b + 12 + 9 ≤ b + 213 ∨ b + 213 + 1 ≤ b + 12 := by omega
  have s_p_L : b + 21 + 10 ≤ b + 213 ∨ b + 213 + 1 ≤ b + 21 := by omega
  have s_m_L : b + 204 + 9 ≤ b + 213 ∨ b + 213 + 1 ≤ b + 204 := by omega
  have s_B_m : b + 1 ≤ b + 204 ∨ b + 204 + 9 ≤ b := by omega
  have s_s_m : b + 12 + 9 ≤ b + 204 ∨ b + 204 + 9 ≤ b + 12 := by omega
  have s_p_m : b + 21 + 10 ≤ b + 204 ∨ b + 204 + 9 ≤ b + 21 := by omega
  have s_L_m : b + 213 + 1 ≤ b + 204 ∨ b + 204 + 9 ≤ b + 213 := by omega
  unfold F_case_26 at hF
  have fr : rx_fr [(b + 204, 9), (b + 213, 1)] h h := rx_fr0
  refine rx_aload_n C dL_law_1350 1 rfl ?_
  refine rx_aload_n C dL_law_1351 0 rfl ?_
  refine rx_iload C dL_law_1352 4 rfl ?_
  refine rx_iconst C dL_law_1354 (1 : Int32) (by decide) ?_
  refine rx_iadd C dL_law_1355 ?_
  refine rx_sld C hX hbl hbA h1 dL_law_1356 ?_
  refine rx_aload_n C dL_law_1357 3 rfl ?_
  replace hF := rx_biE hF; obtain ⟨y1, e_y1, hF⟩ := hF
  refine rx_xci (rx_rSX C hN (w_L_cheapestRags hst e_y1 b_B b_s b_p b_L (by omega)) Y_L_cheapestRags S_L_cheapestRags m_L_237 ⟨⟨rfl, rfl⟩, ⟨(Nat.le_of_ble_eq_true rfl), (Nat.le_of_ble_eq_true rfl)⟩, ⟨by show _ ≤ 601024; omega, by show _ ≤ 7293034; omega⟩⟩ rfl rfl (Nat.le_of_ble_eq_true rfl) dL_law_1358) (fun E hh n1 hx => hx.elim) (fun r hh n hpp => ?_)
  obtain ⟨rfl, hn0, c_L, ff⟩ := hpp
  replace b_L : bL k (b + 213) y1.2 hh := c_L
  clear c_L
  replace ff : rx_fr [(b + 213, 1)] _ hh := ff
  replace b_B := b_B.keep ff ⟨s_B_L, trivial⟩
  replace b_s := b_s.keep ff ⟨s_s_L, trivial⟩
  replace b_p := b_p.keep ff ⟨s_p_L, trivial⟩
  replace b_m := b_m.keep ff ⟨s_m_L, trivial⟩
  replace fr := rx_frt fr ff (fun a ha => ⟨ha.2.1, trivial⟩)
  refine rx_istore C dL_law_1361 (by decide) [(5, .int y1.1), (0, .ref sc), (1, .ref b), (2, .ref (b + 204)), (3, .ref (b + 213)), (4, .int x4)] rfl ?_
  refine rx_aload_n C dL_law_1363 3 rfl ?_
  refine rx_aload_n C dL_law_1364 1 rfl ?_
  refine rx_iload C dL_law_1365 5 rfl ?_
  refine rx_iconst C dL_law_1367 (1 : Int32) (by decide) ?_
  refine rx_iadd C dL_law_1368 ?_
  refine rx_sld C hX hbl hbA h1 dL_law_1369 ?_
  replace hF := rx_biE hF; obtain ⟨y2, e_y2, hF⟩ := hF
  refine rx_ci (rx_rV C (w_X9_cheapestRags e_y2 b_m) Y_X9_cheapestRags V_X9_cheapestRags m_L_239 (Or.inl ⟨_, _, _, _, b_m.1, rfl⟩) ⟨⟨rfl, rfl⟩, ⟨(Nat.le_of_ble_eq_true rfl), (Nat.le_of_ble_eq_true rfl)⟩, ⟨by show _ ≤ 601024; omega, by show _ ≤ 7293034; omega⟩⟩ rfl rfl (Nat.le_of_ble_eq_true rfl) dL_law_1370) (fun r hh n1 hpp => ?_)
  obtain ⟨rfl, hn, c_m, ff⟩ := hpp
  replace hn : n = n1 := Eq.symm hn
  subst hn
  replace b_m : bM k (b + 204) y2.2 hh := c_m
  clear c_m
  replace ff : rx_fr [(b + 204, 9)] _ hh := ff
  replace b_B := b_B.keep ff ⟨s_B_m, trivial⟩
  replace b_s := b_s.keep ff ⟨s_s_m, trivial⟩
  replace b_p := b_p.keep ff ⟨s_p_m, trivial⟩
  replace b_L := b_L.keep ff ⟨s_L_m, trivial⟩
  replace fr := rx_frt fr ff (fun a ha => ⟨ha.1, trivial⟩)
  refine rx_istore C dL_law_1373 (by decide) [(6, .int y2.1), (5, .int y1.1), (0, .ref sc), (1, .ref b), (2, .ref (b + 204)), (3, .ref (b + 213)), (4, .int x4)] rfl ?_
  refine rx_aload_n C dL_law_1375 4 rfl ?_
  replace hF := rx_biE hF; obtain ⟨y3, e_y3, hF⟩ := hF
  refine rx_ci (rx_rV C (w_X9_thrown e_y3 b_m) Y_X9_thrown V_X9_thrown m_L_148 (Or.inl ⟨_, _, _, _, b_m.1, rfl⟩) ⟨⟨rfl, rfl⟩, ⟨(Nat.le_of_ble_eq_true rfl), (Nat.le_of_ble_eq_true rfl)⟩, ⟨by show _ ≤ 601024; omega, by show _ ≤ 7293034; omega⟩⟩ rfl rfl (Nat.le_of_ble_eq_true rfl) dL_law_1376) (fun r hh n1 hpp => ?_)
  obtain ⟨rfl, hu⟩ := hpp
  cases hu
  refine rx_iload C dL_law_1379 1 rfl ?_
  refine rx_icmp_eq C dL_law_1381 1386 (by decide) (fun c4 => ?_) (fun c4 => ?_)
  · rw [if_pos c4] at hF
    refine rx_iload C dL_law_1386 1 rfl ?_
    refine rx_if_ne C dL_law_1388 1403 (by decide) (fun c5 => ?_) (fun c5 => ?_)
    · rw [if_neg c5] at hF
      refine rx_goto C dL_law_1403 3126 (by decide) ?_
      obtain rfl := Option.some.inj hF
      refine rx_sub [2, 3, 4, 5, 6] rfl ?_
      exact rx_wide (cells + 3) (slots + 18) (by omega) (by omega) (KK _ _ (hn0) b_m b_L fr)
    · rw [if_pos c5] at hF
      refine rx_aload_n C dL_law_1391 5 rfl ?_
      refine rx_iconst C dL_law_1392 (0 : Int32) (by decide) ?_
      refine rx_ldL C dL_law_1393 b_L ?_
      refine rx_iload C dL_law_1394 0 rfl ?_
      refine rx_i2l C dL_law_1396 ?_
      refine rx_lcmp C dL_law_1397 ?_
      refine rx_if_eq C dL_law_1398 1403 (by decide) (fun c6 => ?_) (fun c6 => ?_)
      · rw [if_pos c6] at hF
        refine rx_goto C dL_law_1403 3126 (by decide) ?_
        obtain rfl := Option.some.inj hF
        refine rx_sub [2, 3, 4, 5, 6] rfl ?_
        exact rx_wide (cells + 3) (slots + 18) (by omega) (by omega) (KK _ _ (hn0) b_m b_L fr)
      · rw [if_neg c6] at hF
        refine rx_iconst C dL_law_1401 (0 : Int32) (by decide) ?_
        cases hF
  · rw [if_neg c4] at hF
    refine rx_iconst C dL_law_1384 (0 : Int32) (by decide) ?_
    cases hF
def F_case_27 (oB : ob) (os : ob) (op : ob) (om : ob) : Option (ob) := (F_X8_meanBow oB os op).bind fun y1 => (F_X9_meanBow om).bind fun y2 => if (Op.cmpValue (FP.dcmp y1 y2.1) .l) = (0 : Int32) then (some y2.2) else (if (Op.cmpValue (FP.dcmp y1 y1) .l) = (0 : Int32) then (none) else (if (Op.cmpValue (FP.dcmp y2.1 y2.1) .l) = (0 : Int32) then (none) else (some y2.2)))
set_option maxRecDepth 100000 in
set_option maxHeartbeats 4000000 in
theorem lc_27 {b : Nat} {oB : ob} {os : ob} {op : ob} {om : ob} {y : ob} (hst : l.stackTraces = false) (hF : F_case_27 oB os op om = some y) (C : rx_C G k P9 M9 c9 cL_law RL 9 ret9 S9 A9 me9) (hN : rx_NC S9) (hX : va_X sc len xs S9 S9.heap) (hbl : sc < S9.heap.size) (hbA : ¬ k 0 ≤ sc) (hcl : cells + 3 ≤ 601024) (hsl : slots + 18 ≤ 7293034) (b_B : bB k b oB h) (b_s : bS k (b + 12) os h) (b_p : bP k (b + 21) (b + 12) op h) (b_m : bM k (b + 204) om h) (KK : ∀ (hh : hp) (n1 : Nat), n ≤ n1 → bM k (b + 204) y hh → rx_fr [(b + 204, 9)] h hh → rx_W P9 l E9 room_1 S9 M9 A9 B9 me9 c9 Q9 G k 9 (cells + 3) (slots + 18) hh n1 3126 [(0, .ref sc), (1, .ref b), (2, .ref (b + 204)), (3, .ref (b + 213)), (4, .int x4)] []) : rx_W P9 l E9 room_1 S9 M9 A9 B9 me9 c9 Q9 G k 9 cells slots h n 1406 [(0, .ref sc), (1, .ref b), (2, .ref (b + 204)), (3, .ref (b + 213)), (4, .int x4)] [] := by
  have s_B_m : b + 1 ≤ b + 204 ∨ b + 204 + 9 ≤ b := by omega
  have s_s_m : b + 12 + 9 ≤ b + 204 ∨ b + 204 + 9 ≤ b + 12 := by omega
  have s_p_m : b + 21 + 10 ≤ b + 204 ∨ b + 204 + 9 ≤ b + 21 := by omega
  unfold F_case_27 at hF
  have fr : rx_fr [(b + 204, 9)] h h := rx_fr0
  refine rx_aload_n C dL_law_1406 1 rfl ?_
  replace hF := rx_biE hF; obtain ⟨y1, e_y1, hF⟩ := hF
  refine rx_cd (rx_rV C (w_X8_meanBow e_y1 b_B b_s b_p) Y_X8_meanBow V_X8_meanBow m_L_240 (Or.inl ⟨_, _, _, _, b_B, rfl⟩) ⟨⟨rfl, rfl⟩, ⟨(Nat.le_of_ble_eq_true rfl), (Nat.le_of_ble_eq_true rfl)⟩, ⟨by show _ ≤ 601024; omega, by show _ ≤ 7293034; omega⟩⟩ rfl rfl (Nat.le_of_ble_eq_true rfl) dL_law_1407) (fun r hh n1 hpp => ?_)
  obtain ⟨rfl, hu⟩ := hpp
  cases hu
  refine rx_dstore C dL_law_1410 (by decide) [(5, .double y1), (0, .ref sc), (1, .ref b), (2, .ref (b + 204)), (3, .ref (b + 213)), (4, .int x4)] rfl ?_
  refine rx_aload_n C dL_law_1412 3 rfl ?_
  replace hF := rx_biE hF; obtain ⟨y2, e_y2, hF⟩ := hF
  refine rx_cd (rx_rV C (w_X9_meanBow e_y2 b_m) Y_X9_meanBow V_X9_meanBow m_L_244 (Or.inl ⟨_, _, _, _, b_m.1, rfl⟩) ⟨⟨rfl, rfl⟩, ⟨(Nat.le_of_ble_eq_true rfl), (Nat.le_of_ble_eq_true rfl)⟩, ⟨by show _ ≤ 601024; omega, by show _ ≤ 7293034; omega⟩⟩ rfl rfl (Nat.le_of_ble_eq_true rfl) dL_law_1413) (fun r hh n1 hpp => ?_)
  obtain ⟨rfl, hn, c_m, ff⟩ := hpp
  replace hn : n = n1 := Eq.symm hn
  subst hn
  replace b_m : bM k (b + 204) y2.2 hh := c_m
  clear c_m
  replace ff : rx_fr [(b + 204, 9)] _ hh := ff
  replace b_B := b_B.keep ff ⟨s_B_m, trivial⟩
  replace b_s := b_s.keep ff ⟨s_s_m, trivial⟩
  replace b_p := b_p.keep ff ⟨s_p_m, trivial⟩
  replace fr := rx_frt fr ff (fun a ha => ⟨ha.1, trivial⟩)
  refine rx_dstore C dL_law_1416 (by decide) [(7, .double y2.1), (5, .double y1), (0, .ref sc), (1, .ref b), (2, .ref (b + 204)), (3, .ref (b + 213)), (4, .int x4)] rfl ?_
  refine rx_dload C dL_law_1418 1 rfl ?_
  refine rx_dload C dL_law_1420 0 rfl ?_
  refine rx_dcmp C dL_law_1422 ?_
  refine rx_if_eq C dL_law_1423 1444 (by decide) (fun c3 => ?_) (fun c3 => ?_)
  · rw [if_pos c3] at hF
    refine rx_goto C dL_law_1444 3126 (by decide) ?_
    obtain rfl := Option.some.inj hF
    refine rx_sub [2, 3, 4, 5, 6] rfl ?_
    exact rx_wide (cells + 3) (slots + 18) (by omega) (by omega) (KK _ _ (Nat.le_refl _) b_m fr)
  · rw [if_neg c3] at hF
    refine rx_dload C dL_law_1426 1 rfl ?_
    refine rx_dload C dL_law_1428 1 rfl ?_
    refine rx_dcmp C dL_law_1430 ?_
    refine rx_if_eq C dL_law_1431 1442 (by decide) (fun c4 => ?_) (fun c4 => ?_)
    · rw [if_pos c4] at hF
      refine rx_iconst C dL_law_1442 (0 : Int32) (by decide) ?_
      cases hF
    · rw [if_neg c4] at hF
      refine rx_dload C dL_law_1434 0 rfl ?_
      refine rx_dload C dL_law_1436 0 rfl ?_
      refine rx_dcmp C dL_law_1438 ?_
      refine rx_if_ne C dL_law_1439 1444 (by decide) (fun c5 => ?_) (fun c5 => ?_)
      · rw [if_neg c5] at hF
        refine rx_goto C dL_law_1444 3126 (by decide) ?_
        obtain rfl := Option.some.inj hF
        refine rx_sub [2, 3, 4, 5, 6] rfl ?_
        exact rx_wide (cells + 3) (slots + 18) (by omega) (by omega) (KK _ _ (Nat.le_refl _) b_m fr)
      · rw [if_pos c5] at hF
        refine rx_iconst C dL_law_1442 (0 : Int32) (by decide) ?_
        cases hF
def F_case_28 (oB : ob) (os : ob) (op : ob) (om : ob) (oL : (Nat → Int64)) (a1 : Int32) : Option (ob × (Nat → Int64)) := (F_L_royalHolder oB os op oL a1).bind fun y1 => (F_X9_royalHolder om a1).bind fun y2 => (F_X9_thrown y2.2).bind fun y3 => if y3 = y1.1 then (if y1.1 = (0 : Int32) then (if (lg_cmp ((y1.2 0)) y2.1.toInt64) = (0 : Int32) then (some (y2.2, y1.2)) else (none)) else (some (y2.2, y1.2))) else (none)
set_option maxRecDepth 100000 in
set_option maxHeartbeats 4000000 in
theorem lc_28 {b : Nat} {oB : ob} {os : ob} {op : ob} {om : ob} {oL : (Nat → Int64)} {a1 : Int32} {y : ob × (Nat → Int64)} (hst : l.stackTraces = false) (hF : F_case_28 oB os op om oL a1 = some y) (C : rx_C G k P9 M9 c9 cL_law RL 9 ret9 S9 A9 me9) (hN : rx_NC S9) (hX : va_X sc len xs S9 S9.heap) (hbl : sc < S9.heap.size) (hbA : ¬ k 0 ≤ sc) (h1 : vp_in (x4 + (1 : Int32)) len ∧ xs (x4 + (1 : Int32)).toNatClampNeg = a1) (hcl : cells + 3 ≤ 601024) (hsl : slots + 18 ≤ 7293034) (b_B : bB k b oB h) (b_s : bS k (b + 12) os h) (b_p : bP k (b + 21) (b + 12) op h) (b_m : bM k (b + 204) om h) (b_L : bL k (b + 213) oL h) (KK : ∀ (hh : hp) (n1 : Nat), n ≤ n1 → bM k (b + 204) y.1 hh → bL k (b + 213) y.2 hh → rx_fr [(b + 204, 9), (b + 213, 1)] h hh → rx_W P9 l E9 room_1 S9 M9 A9 B9 me9 c9 Q9 G k 9 (cells + 3) (slots + 18) hh n1 3126 [(0, .ref sc), (1, .ref b), (2, .ref (b + 204)), (3, .ref (b + 213)), (4, .int x4)] []) : rx_W P9 l E9 room_1 S9 M9 A9 B9 me9 c9 Q9 G k 9 cells slots h n 1447 [(0, .ref sc), (1, .ref b), (2, .ref (b + 204)), (3, .ref (b + 213)), (4, .int x4)] [] := by
  have s_B_L : b + 1 ≤ b + 213 ∨ b + 213 + 1 ≤ b := by omega
  have s_s_L : b + 12 + 9 ≤ b + 213 ∨ b + 213 + 1 ≤ b + 12 := by omega
  have s_p_L : b + 21 + 10 ≤ b + 213 ∨ b + 213 + 1 ≤ b + 21 := by omega
  have s_m_L : b + 204 + 9 ≤ b + 213 ∨ b + 213 + 1 ≤ b + 204 := by omega
  have s_B_m : b + 1 ≤ b + 204 ∨ b + 204 + 9 ≤ b := by omega
  have s_s_m : b + 12 + 9 ≤ b + 204 ∨ b + 204 + 9 ≤ b + 12 := by omega
  have s_p_m : b + 21 + 10 ≤ b + 204 ∨ b + 204 + 9 ≤ b + 21 := by omega
  have s_L_m : b + 213 + 1 ≤ b + 204 ∨ b + 204 + 9 ≤ b + 213 := by omega
  unfold F_case_28 at hF
  have fr : rx_fr [(b + 204, 9), (b + 213, 1)] h h := rx_fr0
  refine rx_aload_n C dL_law_1447 1 rfl ?_
  refine rx_aload_n C dL_law_1448 0 rfl ?_
  refine rx_iload C dL_law_1449 4 rfl ?_
  refine rx_iconst C dL_law_1451 (1 : Int32) (by decide) ?_
  refine rx_iadd C dL_law_1452 ?_
  refine rx_sld C hX hbl hbA h1 dL_law_1453 ?_
  refine rx_aload_n C dL_law_1454 3 rfl ?_
  replace hF := rx_biE hF; obtain ⟨y1, e_y1, hF⟩ := hF
  refine rx_xci (rx_rSX C hN (w_L_royalHolder hst e_y1 b_B b_s b_p b_L (by omega)) Y_L_royalHolder S_L_royalHolder m_L_245 ⟨⟨rfl, rfl⟩, ⟨(Nat.le_of_ble_eq_true rfl), (Nat.le_of_ble_eq_true rfl)⟩, ⟨by show _ ≤ 601024; omega, by show _ ≤ 7293034; omega⟩⟩ rfl rfl (Nat.le_of_ble_eq_true rfl) dL_law_1455) (fun E hh n1 hx => hx.elim) (fun r hh n hpp => ?_)
  obtain ⟨rfl, hn0, c_L, ff⟩ := hpp
  replace b_L : bL k (b + 213) y1.2 hh := c_L
  clear c_L
  replace ff : rx_fr [(b + 213, 1)] _ hh := ff
  replace b_B := b_B.keep ff ⟨s_B_L, trivial⟩
  replace b_s := b_s.keep ff ⟨s_s_L, trivial⟩
  replace b_p := b_p.keep ff ⟨s_p_L, trivial⟩
  replace b_m := b_m.keep ff ⟨s_m_L, trivial⟩
  replace fr := rx_frt fr ff (fun a ha => ⟨ha.2.1, trivial⟩)
  refine rx_istore C dL_law_1458 (by decide) [(5, .int y1.1), (0, .ref sc), (1, .ref b), (2, .ref (b + 204)), (3, .ref (b + 213)), (4, .int x4)] rfl ?_
  refine rx_aload_n C dL_law_1460 3 rfl ?_
  refine rx_aload_n C dL_law_1461 1 rfl ?_
  refine rx_iload C dL_law_1462 5 rfl ?_
  refine rx_iconst C dL_law_1464 (1 : Int32) (by decide) ?_
  refine rx_iadd C dL_law_1465 ?_
  refine rx_sld C hX hbl hbA h1 dL_law_1466 ?_
  replace hF := rx_biE hF; obtain ⟨y2, e_y2, hF⟩ := hF
  refine rx_ci (rx_rV C (w_X9_royalHolder e_y2 b_m) Y_X9_royalHolder V_X9_royalHolder m_L_247 (Or.inl ⟨_, _, _, _, b_m.1, rfl⟩) ⟨⟨rfl, rfl⟩, ⟨(Nat.le_of_ble_eq_true rfl), (Nat.le_of_ble_eq_true rfl)⟩, ⟨by show _ ≤ 601024; omega, by show _ ≤ 7293034; omega⟩⟩ rfl rfl (Nat.le_of_ble_eq_true rfl) dL_law_1467) (fun r hh n1 hpp => ?_)
  obtain ⟨rfl, hn, c_m, ff⟩ := hpp
  replace hn : n = n1 := Eq.symm hn
  subst hn
  replace b_m : bM k (b + 204) y2.2 hh := c_m
  clear c_m
  replace ff : rx_fr [(b + 204, 9)] _ hh := ff
  replace b_B := b_B.keep ff ⟨s_B_m, trivial⟩
  replace b_s := b_s.keep ff ⟨s_s_m, trivial⟩
  replace b_p := b_p.keep ff ⟨s_p_m, trivial⟩
  replace b_L := b_L.keep ff ⟨s_L_m, trivial⟩
  replace fr := rx_frt fr ff (fun a ha => ⟨ha.1, trivial⟩)
  refine rx_istore C dL_law_1470 (by decide) [(6, .int y2.1), (5, .int y1.1), (0, .ref sc), (1, .ref b), (2, .ref (b + 204)), (3, .ref (b + 213)), (4, .int x4)] rfl ?_
  refine rx_aload_n C dL_law_1472 4 rfl ?_
  replace hF := rx_biE hF; obtain ⟨y3, e_y3, hF⟩ := hF
  refine rx_ci (rx_rV C (w_X9_thrown e_y3 b_m) Y_X9_thrown V_X9_thrown m_L_148 (Or.inl ⟨_, _, _, _, b_m.1, rfl⟩) ⟨⟨rfl, rfl⟩, ⟨(Nat.le_of_ble_eq_true rfl), (Nat.le_of_ble_eq_true rfl)⟩, ⟨by show _ ≤ 601024; omega, by show _ ≤ 7293034; omega⟩⟩ rfl rfl (Nat.le_of_ble_eq_true rfl) dL_law_1473) (fun r hh n1 hpp => ?_)
  obtain ⟨rfl, hu⟩ := hpp
  cases hu
  refine rx_iload C dL_law_1476 1 rfl ?_
  refine rx_icmp_eq C dL_law_1478 1483 (by decide) (fun c4 => ?_) (fun c4 => ?_)
  · rw [if_pos c4] at hF
    refine rx_iload C dL_law_1483 1 rfl ?_
    refine rx_if_ne C dL_law_1485 1500 (by decide) (fun c5 => ?_) (fun c5 => ?_)
    · rw [if_neg c5] at hF
      refine rx_goto C dL_law_1500 3126 (by decide) ?_
      obtain rfl := Option.some.inj hF
      refine rx_sub [2, 3, 4, 5, 6] rfl ?_
      exact rx_wide (cells + 3) (slots + 18) (by omega) (by omega) (KK _ _ (hn0) b_m b_L fr)
    · rw [if_pos c5] at hF
      refine rx_aload_n C dL_law_1488 5 rfl ?_
      refine rx_iconst C dL_law_1489 (0 : Int32) (by decide) ?_
      refine rx_ldL C dL_law_1490 b_L ?_
      refine rx_iload C dL_law_1491 0 rfl ?_
      refine rx_i2l C dL_law_1493 ?_
      refine rx_lcmp C dL_law_1494 ?_
      refine rx_if_eq C dL_law_1495 1500 (by decide) (fun c6 => ?_) (fun c6 => ?_)
      · rw [if_pos c6] at hF
        refine rx_goto C dL_law_1500 3126 (by decide) ?_
        obtain rfl := Option.some.inj hF
        refine rx_sub [2, 3, 4, 5, 6] rfl ?_
        exact rx_wide (cells + 3) (slots + 18) (by omega) (by omega) (KK _ _ (hn0) b_m b_L fr)
      · rw [if_neg c6] at hF
        refine rx_iconst C dL_law_1498 (0 : Int32) (by decide) ?_
        cases hF
  · rw [if_neg c4] at hF
    refine rx_iconst C dL_law_1481 (0 : Int32) (by decide) ?_
    cases hF
def F_case_29 (oB : ob) (os : ob) (op : ob) (om : ob) (oL : (Nat → Int64)) (a1 : Int32) : Option (ob × (Nat → Int64)) := (F_L_isRoyalCoinEast oB os op oL a1).bind fun y1 => (F_X9_isRoyalCoinEast om a1).bind fun y2 => (F_X9_thrown y2.2).bind fun y3 => if y3 = y1.1 then (if y1.1 = (0 : Int32) then (if y2.1 = (0 : Int32) then (if (lg_cmp ((y1.2 0)) ((0 : Int64))) = (0 : Int32) then (some (y2.2, y1.2)) else (none)) else (if (lg_cmp ((y1.2 0)) ((1 : Int64))) = (0 : Int32) then (some (y2.2, y1.2)) else (none))) else (some (y2.2, y1.2))) else (none)
set_option maxRecDepth 100000 in
set_option maxHeartbeats 4000000 in
theorem lc_29 {b : Nat} {oB : ob} {os : ob} {op : ob} {om : ob} {oL : (Nat → Int64)} {a1 : Int32} {y : ob × (Nat → Int64)} (hst : l.stackTraces = false) (hF : F_case_29 oB os op om oL a1 = some y) (C : rx_C G k P9 M9 c9 cL_law RL 9 ret9 S9 A9 me9) (hN : rx_NC S9) (hX : va_X sc len xs S9 S9.heap) (hbl : sc < S9.heap.size) (hbA : ¬ k 0 ≤ sc) (h1 : vp_in (x4 + (1 : Int32)) len ∧ xs (x4 + (1 : Int32)).toNatClampNeg = a1) (hcl : cells + 3 ≤ 601024) (hsl : slots + 18 ≤ 7293034) (b_B : bB k b oB h) (b_s : bS k (b + 12) os h) (b_p : bP k (b + 21) (b + 12) op h) (b_m : bM k (b + 204) om h) (b_L : bL k (b + 213) oL h) (KK : ∀ (hh : hp) (n1 : Nat), n ≤ n1 → bM k (b + 204) y.1 hh → bL k (b + 213) y.2 hh → rx_fr [(b + 204, 9), (b + 213, 1)] h hh → rx_W P9 l E9 room_1 S9 M9 A9 B9 me9 c9 Q9 G k 9 (cells + 3) (slots + 18) hh n1 3126 [(0, .ref sc), (1, .ref b), (2, .ref (b + 204)), (3, .ref (b + 213)), (4, .int x4)] []) : rx_W P9 l E9 room_1 S9 M9 A9 B9 me9 c9 Q9 G k 9 cells slots h n 1503 [(0, .ref sc), (1, .ref b), (2, .ref (b + 204)), (3, .ref (b + 213)), (4, .int x4)] [] := by
  have s_B_L : b + 1 ≤ b + 213 ∨ b + 213 + 1 ≤ b := by omega
  have s_s_L : b + 12 + 9 ≤ b + 213 ∨ b + 213 + 1 ≤ b + 12 := by omega
  have s_p_L : b + 21 + 10 ≤ b + 213 ∨ b + 213 + 1 ≤ b + 21 := by omega
  have s_m_L : b + 204 + 9 ≤ b + 213 ∨ b + 213 + 1 ≤ b + 204 := by omega
  have s_B_m : b + 1 ≤ b + 204 ∨ b + 204 + 9 ≤ b := by omega
  have s_s_m : b + 12 + 9 ≤ b + 204 ∨ b + 204 + 9 ≤ b + 12 := by omega
  have s_p_m : b + 21 + 10 ≤ b + 204 ∨ b + 204 + 9 ≤ b + 21 := by omega
  have s_L_m : b + 213 + 1 ≤ b + 204 ∨ b + 204 + 9 ≤ b + 213 := by omega
  unfold F_case_29 at hF
  have fr : rx_fr [(b + 204, 9), (b + 213, 1)] h h := rx_fr0
  refine rx_aload_n C dL_law_1503 1 rfl ?_
  refine rx_aload_n C dL_law_1504 0 rfl ?_
  refine rx_iload C dL_law_1505 4 rfl ?_
  refine rx_iconst C dL_law_1507 (1 : Int32) (by decide) ?_
  refine rx_iadd C dL_law_1508 ?_
  refine rx_sld C hX hbl hbA h1 dL_law_1509 ?_
  refine rx_aload_n C dL_law_1510 3 rfl ?_
  replace hF := rx_biE hF; obtain ⟨y1, e_y1, hF⟩ := hF
  refine rx_xci (rx_rSX C hN (w_L_isRoyalCoinEast hst e_y1 b_B b_s b_p b_L (by omega)) Y_L_isRoyalCoinEast S_L_isRoyalCoinEast m_L_248 ⟨⟨rfl, rfl⟩, ⟨(Nat.le_of_ble_eq_true rfl), (Nat.le_of_ble_eq_true rfl)⟩, ⟨by show _ ≤ 601024; omega, by show _ ≤ 7293034; omega⟩⟩ rfl rfl (Nat.le_of_ble_eq_true rfl) dL_law_1511) (fun E hh n1 hx => hx.elim) (fun r hh n hpp => ?_)
  obtain ⟨rfl, hn0, c_L, ff⟩ := hpp
  replace b_L : bL k (b + 213) y1.2 hh := c_L
  clear c_L
  replace ff : rx_fr [(b + 213, 1)] _ hh := ff
  replace b_B := b_B.keep ff ⟨s_B_L, trivial⟩
  replace b_s := b_s.keep ff ⟨s_s_L, trivial⟩
  replace b_p := b_p.keep ff ⟨s_p_L, trivial⟩
  replace b_m := b_m.keep ff ⟨s_m_L, trivial⟩
  replace fr := rx_frt fr ff (fun a ha => ⟨ha.2.1, trivial⟩)
  refine rx_istore C dL_law_1514 (by decide) [(5, .int y1.1), (0, .ref sc), (1, .ref b), (2, .ref (b + 204)), (3, .ref (b + 213)), (4, .int x4)] rfl ?_
  refine rx_aload_n C dL_law_1516 3 rfl ?_
  refine rx_aload_n C dL_law_1517 1 rfl ?_
  refine rx_iload C dL_law_1518 5 rfl ?_
  refine rx_iconst C dL_law_1520 (1 : Int32) (by decide) ?_
  refine rx_iadd C dL_law_1521 ?_
  refine rx_sld C hX hbl hbA h1 dL_law_1522 ?_
  replace hF := rx_biE hF; obtain ⟨y2, e_y2, hF⟩ := hF
  refine rx_ci (rx_rV C (w_X9_isRoyalCoinEast e_y2 b_m) Y_X9_isRoyalCoinEast V_X9_isRoyalCoinEast m_L_250 (Or.inl ⟨_, _, _, _, b_m.1, rfl⟩) ⟨⟨rfl, rfl⟩, ⟨(Nat.le_of_ble_eq_true rfl), (Nat.le_of_ble_eq_true rfl)⟩, ⟨by show _ ≤ 601024; omega, by show _ ≤ 7293034; omega⟩⟩ rfl rfl (Nat.le_of_ble_eq_true rfl) dL_law_1523) (fun r hh n1 hpp => ?_)
  obtain ⟨rfl, bo_y2, hn, c_m, ff⟩ := hpp
  replace hn : n = n1 := Eq.symm hn
  subst hn
  replace b_m : bM k (b + 204) y2.2 hh := c_m
  clear c_m
  replace ff : rx_fr [(b + 204, 9)] _ hh := ff
  replace b_B := b_B.keep ff ⟨s_B_m, trivial⟩
  replace b_s := b_s.keep ff ⟨s_s_m, trivial⟩
  replace b_p := b_p.keep ff ⟨s_p_m, trivial⟩
  replace b_L := b_L.keep ff ⟨s_L_m, trivial⟩
  replace fr := rx_frt fr ff (fun a ha => ⟨ha.1, trivial⟩)
  refine rx_istore C dL_law_1526 (by decide) [(6, .int y2.1), (5, .int y1.1), (0, .ref sc), (1, .ref b), (2, .ref (b + 204)), (3, .ref (b + 213)), (4, .int x4)] rfl ?_
  refine rx_aload_n C dL_law_1528 4 rfl ?_
  replace hF := rx_biE hF; obtain ⟨y3, e_y3, hF⟩ := hF
  refine rx_ci (rx_rV C (w_X9_thrown e_y3 b_m) Y_X9_thrown V_X9_thrown m_L_148 (Or.inl ⟨_, _, _, _, b_m.1, rfl⟩) ⟨⟨rfl, rfl⟩, ⟨(Nat.le_of_ble_eq_true rfl), (Nat.le_of_ble_eq_true rfl)⟩, ⟨by show _ ≤ 601024; omega, by show _ ≤ 7293034; omega⟩⟩ rfl rfl (Nat.le_of_ble_eq_true rfl) dL_law_1529) (fun r hh n1 hpp => ?_)
  obtain ⟨rfl, hu⟩ := hpp
  cases hu
  refine rx_iload C dL_law_1532 1 rfl ?_
  refine rx_icmp_eq C dL_law_1534 1539 (by decide) (fun c4 => ?_) (fun c4 => ?_)
  · rw [if_pos c4] at hF
    refine rx_iload C dL_law_1539 1 rfl ?_
    refine rx_if_ne C dL_law_1541 1563 (by decide) (fun c5 => ?_) (fun c5 => ?_)
    · rw [if_neg c5] at hF
      refine rx_goto C dL_law_1563 3126 (by decide) ?_
      obtain rfl := Option.some.inj hF
      refine rx_sub [2, 3, 4, 5, 6] rfl ?_
      exact rx_wide (cells + 3) (slots + 18) (by omega) (by omega) (KK _ _ (hn0) b_m b_L fr)
    · rw [if_pos c5] at hF
      refine rx_aload_n C dL_law_1544 5 rfl ?_
      refine rx_iconst C dL_law_1545 (0 : Int32) (by decide) ?_
      refine rx_ldL C dL_law_1546 b_L ?_
      refine rx_iload C dL_law_1547 0 rfl ?_
      refine rx_if_eq C dL_law_1549 1556 (by decide) (fun c6 => ?_) (fun c6 => ?_)
      · rw [if_pos c6] at hF
        refine rx_lconst C dL_law_1556 0 (by decide) ?_
        refine rx_lcmp C dL_law_1557 ?_
        refine rx_if_eq C dL_law_1558 1563 (by decide) (fun c7 => ?_) (fun c7 => ?_)
        · rw [if_pos c7] at hF
          refine rx_goto C dL_law_1563 3126 (by decide) ?_
          obtain rfl := Option.some.inj hF
          refine rx_sub [2, 3, 4, 5, 6] rfl ?_
          exact rx_wide (cells + 3) (slots + 18) (by omega) (by omega) (KK _ _ (hn0) b_m b_L fr)
        · rw [if_neg c7] at hF
          refine rx_iconst C dL_law_1561 (0 : Int32) (by decide) ?_
          cases hF
      · rw [if_neg c6] at hF
        refine rx_lconst C dL_law_1552 1 (by decide) ?_
        refine rx_goto C dL_law_1553 1557 (by decide) ?_
        refine rx_lcmp C dL_law_1557 ?_
        refine rx_if_eq C dL_law_1558 1563 (by decide) (fun c8 => ?_) (fun c8 => ?_)
        · rw [if_pos c8] at hF
          refine rx_goto C dL_law_1563 3126 (by decide) ?_
          obtain rfl := Option.some.inj hF
          refine rx_sub [2, 3, 4, 5, 6] rfl ?_
          exact rx_wide (cells + 3) (slots + 18) (by omega) (by omega) (KK _ _ (hn0) b_m b_L fr)
        · rw [if_neg c8] at hF
          refine rx_iconst C dL_law_1561 (0 : Int32) (by decide) ?_
          cases hF
  · rw [if_neg c4] at hF
    refine rx_iconst C dL_law_1537 (0 : Int32) (by decide) ?_
    cases hF
def F_case_30 (oB : ob) (os : ob) (op : ob) (om : ob) (oL : (Nat → Int64)) (a1 : Int32) : Option (ob × (Nat → Int64)) := (F_L_isCounted oB os op oL a1).bind fun y1 => (F_X9_isCounted om a1).bind fun y2 => (F_X9_thrown y2.2).bind fun y3 => if y3 = y1.1 then (if y1.1 = (0 : Int32) then (if y2.1 = (0 : Int32) then (if (lg_cmp ((y1.2 0)) ((0 : Int64))) = (0 : Int32) then (some (y2.2, y1.2)) else (none)) else (if (lg_cmp ((y1.2 0)) ((1 : Int64))) = (0 : Int32) then (some (y2.2, y1.2)) else (none))) else (some (y2.2, y1.2))) else (none)
set_option maxRecDepth 100000 in
set_option maxHeartbeats 4000000 in
theorem lc_30 {b : Nat} {oB : ob} {os : ob} {op : ob} {om : ob} {oL : (Nat → Int64)} {a1 : Int32} {y : ob × (Nat → Int64)} (hst : l.stackTraces = false) (hF : F_case_30 oB os op om oL a1 = some y) (C : rx_C G k P9 M9 c9 cL_law RL 9 ret9 S9 A9 me9) (hN : rx_NC S9) (hX : va_X sc len xs S9 S9.heap) (hbl : sc < S9.heap.size) (hbA : ¬ k 0 ≤ sc) (h1 : vp_in (x4 + (1 : Int32)) len ∧ xs (x4 + (1 : Int32)).toNatClampNeg = a1) (hcl : cells + 3 ≤ 601024) (hsl : slots + 18 ≤ 7293034) (b_B : bB k b oB h) (b_s : bS k (b + 12) os h) (b_p : bP k (b + 21) (b + 12) op h) (b_m : bM k (b + 204) om h) (b_L : bL k (b + 213) oL h) (KK : ∀ (hh : hp) (n1 : Nat), n ≤ n1 → bM k (b + 204) y.1 hh → bL k (b + 213) y.2 hh → rx_fr [(b + 204, 9), (b + 213, 1)] h hh → rx_W P9 l E9 room_1 S9 M9 A9 B9 me9 c9 Q9 G k 9 (cells + 3) (slots + 18) hh n1 3126 [(0, .ref sc), (1, .ref b), (2, .ref (b + 204)), (3, .ref (b + 213)), (4, .int x4)] []) : rx_W P9 l E9 room_1 S9 M9 A9 B9 me9 c9 Q9 G k 9 cells slots h n 1566 [(0, .ref sc), (1, .ref b), (2, .ref (b + 204)), (3, .ref (b + 213)), (4, .int x4)] [] := by
  have s_B_L : b + 1 ≤ b + 213 ∨ b + 213 + 1 ≤ b := by omega
  have s_s_L : b + 12 + 9 ≤ b + 213 ∨ b + 213 + 1 ≤ b + 12 := by omega
  have s_p_L : b + 21 + 10 ≤ b + 213 ∨ b + 213 + 1 ≤ b + 21 := by omega
  have s_m_L : b + 204 + 9 ≤ b + 213 ∨ b + 213 + 1 ≤ b + 204 := by omega
  have s_B_m : b + 1 ≤ b + 204 ∨ b + 204 + 9 ≤ b := by omega
  have s_s_m : b + 12 + 9 ≤ b + 204 ∨ b + 204 + 9 ≤ b + 12 := by omega
  have s_p_m : b + 21 + 10 ≤ b + 204 ∨ b + 204 + 9 ≤ b + 21 := by omega
  have s_L_m : b + 213 + 1 ≤ b + 204 ∨ b + 204 + 9 ≤ b + 213 := by omega
  unfold F_case_30 at hF
  have fr : rx_fr [(b + 204, 9), (b + 213, 1)] h h := rx_fr0
  refine rx_aload_n C dL_law_1566 1 rfl ?_
  refine rx_aload_n C dL_law_1567 0 rfl ?_
  refine rx_iload C dL_law_1568 4 rfl ?_
  refine rx_iconst C dL_law_1570 (1 : Int32) (by decide) ?_
  refine rx_iadd C dL_law_1571 ?_
  refine rx_sld C hX hbl hbA h1 dL_law_1572 ?_
  refine rx_aload_n C dL_law_1573 3 rfl ?_
  replace hF := rx_biE hF; obtain ⟨y1, e_y1, hF⟩ := hF
  refine rx_xci (rx_rSX C hN (w_L_isCounted hst e_y1 b_B b_s b_p b_L (by omega)) Y_L_isCounted S_L_isCounted m_L_251 ⟨⟨rfl, rfl⟩, ⟨(Nat.le_of_ble_eq_true rfl), (Nat.le_of_ble_eq_true rfl)⟩, ⟨by show _ ≤ 601024; omega, by show _ ≤ 7293034; omega⟩⟩ rfl rfl (Nat.le_of_ble_eq_true rfl) dL_law_1574) (fun E hh n1 hx => hx.elim) (fun r hh n hpp => ?_)
  obtain ⟨rfl, hn0, c_L, ff⟩ := hpp
  replace b_L : bL k (b + 213) y1.2 hh := c_L
  clear c_L
  replace ff : rx_fr [(b + 213, 1)] _ hh := ff
  replace b_B := b_B.keep ff ⟨s_B_L, trivial⟩
  replace b_s := b_s.keep ff ⟨s_s_L, trivial⟩
  replace b_p := b_p.keep ff ⟨s_p_L, trivial⟩
  replace b_m := b_m.keep ff ⟨s_m_L, trivial⟩
  replace fr := rx_frt fr ff (fun a ha => ⟨ha.2.1, trivial⟩)
  refine rx_istore C dL_law_1577 (by decide) [(5, .int y1.1), (0, .ref sc), (1, .ref b), (2, .ref (b + 204)), (3, .ref (b + 213)), (4, .int x4)] rfl ?_
  refine rx_aload_n C dL_law_1579 3 rfl ?_
  refine rx_aload_n C dL_law_1580 1 rfl ?_
  refine rx_iload C dL_law_1581 5 rfl ?_
  refine rx_iconst C dL_law_1583 (1 : Int32) (by decide) ?_
  refine rx_iadd C dL_law_1584 ?_
  refine rx_sld C hX hbl hbA h1 dL_law_1585 ?_
  replace hF := rx_biE hF; obtain ⟨y2, e_y2, hF⟩ := hF
  refine rx_ci (rx_rV C (w_X9_isCounted e_y2 b_m) Y_X9_isCounted V_X9_isCounted m_L_253 (Or.inl ⟨_, _, _, _, b_m.1, rfl⟩) ⟨⟨rfl, rfl⟩, ⟨(Nat.le_of_ble_eq_true rfl), (Nat.le_of_ble_eq_true rfl)⟩, ⟨by show _ ≤ 601024; omega, by show _ ≤ 7293034; omega⟩⟩ rfl rfl (Nat.le_of_ble_eq_true rfl) dL_law_1586) (fun r hh n1 hpp => ?_)
  obtain ⟨rfl, bo_y2, hn, c_m, ff⟩ := hpp
  replace hn : n = n1 := Eq.symm hn
  subst hn
  replace b_m : bM k (b + 204) y2.2 hh := c_m
  clear c_m
  replace ff : rx_fr [(b + 204, 9)] _ hh := ff
  replace b_B := b_B.keep ff ⟨s_B_m, trivial⟩
  replace b_s := b_s.keep ff ⟨s_s_m, trivial⟩
  replace b_p := b_p.keep ff ⟨s_p_m, trivial⟩
  replace b_L := b_L.keep ff ⟨s_L_m, trivial⟩
  replace fr := rx_frt fr ff (fun a ha => ⟨ha.1, trivial⟩)
  refine rx_istore C dL_law_1589 (by decide) [(6, .int y2.1), (5, .int y1.1), (0, .ref sc), (1, .ref b), (2, .ref (b + 204)), (3, .ref (b + 213)), (4, .int x4)] rfl ?_
  refine rx_aload_n C dL_law_1591 4 rfl ?_
  replace hF := rx_biE hF; obtain ⟨y3, e_y3, hF⟩ := hF
  refine rx_ci (rx_rV C (w_X9_thrown e_y3 b_m) Y_X9_thrown V_X9_thrown m_L_148 (Or.inl ⟨_, _, _, _, b_m.1, rfl⟩) ⟨⟨rfl, rfl⟩, ⟨(Nat.le_of_ble_eq_true rfl), (Nat.le_of_ble_eq_true rfl)⟩, ⟨by show _ ≤ 601024; omega, by show _ ≤ 7293034; omega⟩⟩ rfl rfl (Nat.le_of_ble_eq_true rfl) dL_law_1592) (fun r hh n1 hpp => ?_)
  obtain ⟨rfl, hu⟩ := hpp
  cases hu
  refine rx_iload C dL_law_1595 1 rfl ?_
  refine rx_icmp_eq C dL_law_1597 1602 (by decide) (fun c4 => ?_) (fun c4 => ?_)
  · rw [if_pos c4] at hF
    refine rx_iload C dL_law_1602 1 rfl ?_
    refine rx_if_ne C dL_law_1604 1626 (by decide) (fun c5 => ?_) (fun c5 => ?_)
    · rw [if_neg c5] at hF
      refine rx_goto C dL_law_1626 3126 (by decide) ?_
      obtain rfl := Option.some.inj hF
      refine rx_sub [2, 3, 4, 5, 6] rfl ?_
      exact rx_wide (cells + 3) (slots + 18) (by omega) (by omega) (KK _ _ (hn0) b_m b_L fr)
    · rw [if_pos c5] at hF
      refine rx_aload_n C dL_law_1607 5 rfl ?_
      refine rx_iconst C dL_law_1608 (0 : Int32) (by decide) ?_
      refine rx_ldL C dL_law_1609 b_L ?_
      refine rx_iload C dL_law_1610 0 rfl ?_
      refine rx_if_eq C dL_law_1612 1619 (by decide) (fun c6 => ?_) (fun c6 => ?_)
      · rw [if_pos c6] at hF
        refine rx_lconst C dL_law_1619 0 (by decide) ?_
        refine rx_lcmp C dL_law_1620 ?_
        refine rx_if_eq C dL_law_1621 1626 (by decide) (fun c7 => ?_) (fun c7 => ?_)
        · rw [if_pos c7] at hF
          refine rx_goto C dL_law_1626 3126 (by decide) ?_
          obtain rfl := Option.some.inj hF
          refine rx_sub [2, 3, 4, 5, 6] rfl ?_
          exact rx_wide (cells + 3) (slots + 18) (by omega) (by omega) (KK _ _ (hn0) b_m b_L fr)
        · rw [if_neg c7] at hF
          refine rx_iconst C dL_law_1624 (0 : Int32) (by decide) ?_
          cases hF
      · rw [if_neg c6] at hF
        refine rx_lconst C dL_law_1615 1 (by decide) ?_
        refine rx_goto C dL_law_1616 1620 (by decide) ?_
        refine rx_lcmp C dL_law_1620 ?_
        refine rx_if_eq C dL_law_1621 1626 (by decide) (fun c8 => ?_) (fun c8 => ?_)
        · rw [if_pos c8] at hF
          refine rx_goto C dL_law_1626 3126 (by decide) ?_
          obtain rfl := Option.some.inj hF
          refine rx_sub [2, 3, 4, 5, 6] rfl ?_
          exact rx_wide (cells + 3) (slots + 18) (by omega) (by omega) (KK _ _ (hn0) b_m b_L fr)
        · rw [if_neg c8] at hF
          refine rx_iconst C dL_law_1624 (0 : Int32) (by decide) ?_
          cases hF
  · rw [if_neg c4] at hF
    refine rx_iconst C dL_law_1600 (0 : Int32) (by decide) ?_
    cases hF
end LAWC
