/-! THE START: the class's own first game and the model's, which the kernel evaluates. -/
def zSet : Option ob := (F_X5_begin ob0 ((30 : Int32)) ((4 : Int32)) ((9 : Int32)) ((2 : Int32))).bind fun y1 => (F_X5_addPerson y1 ((1 : Int32)) ((0 : Int32)) ((40 : Int32)) ((10 : Int32)) ((20 : Int32))).bind fun y2 => (F_X5_addPerson y2 ((0 : Int32)) ((0 : Int32)) ((12 : Int32)) ((0 : Int32)) ((5 : Int32))).bind fun y3 => (F_X5_addPerson y3 ((0 : Int32)) ((0 : Int32)) ((3 : Int32)) ((5 : Int32)) ((40 : Int32))).bind fun y4 => (F_X5_addPerson y4 ((1 : Int32)) ((1 : Int32)) ((25 : Int32)) ((30 : Int32)) ((0 : Int32))).bind fun y5 => (F_X5_addPerson y5 ((0 : Int32)) ((1 : Int32)) ((9 : Int32)) ((20 : Int32)) ((15 : Int32))).bind fun y6 => (F_X5_addBridge y6 ((1 : Int32)) ((0 : Int32)) ((1 : Int32))).bind fun y7 => F_X5_addBridge y7 ((3 : Int32)) ((1 : Int32)) ((2 : Int32))
def zLD (od : ob) (g : Nat → Int32) : Prop :=
  (od.1 0 = g 1 ∧ od.1 1 = g 2 ∧ od.1 2 = g 3 ∧ od.1 3 = g 4 ∧ od.1 4 = nI 5 ∧ od.1 5 = nI 2 ∧ g 8 = nI 5 ∧ g 9 = nI 2) ∧ (((0 ≤ g 1 ∧ g 1 ≤ 90) ∧ (0 ≤ g 2 ∧ g 2 ≤ 9)) ∧ g 0 = 0 ∧ g 5 = 0 ∧ g 6 = 0 ∧ g 7 = 0 ∧ g 11 = 0 ∧ g 10 = z_sum (od.2 8) 5) ∧
  (∀ q : Nat, q < 5 → od.2 6 q = g (12 + 8 * q) ∧ (g (12 + 8 * q) = 0 ∨ g (12 + 8 * q) = 1) ∧ od.2 7 q = g (12 + 8 * q + 1) ∧ (g (12 + 8 * q + 1) = 0 ∨ g (12 + 8 * q + 1) = 1) ∧ od.2 8 q = g (12 + 8 * q + 2) ∧ od.2 9 q = g (12 + 8 * q + 3) ∧ g (12 + 8 * q + 4) = nI q ∧ od.2 10 q = g (92 + q) ∧ g (102 + 3 * q) = nI q) ∧
  (∀ q : Nat, q < 10 → g (12 + 8 * q + 5) = 0 ∧ g (12 + 8 * q + 6) = 0 ∧ g (12 + 8 * q + 7) = 0 ∧ g (102 + 3 * q + 1) = 0 ∧ g (102 + 3 * q + 2) = 0) ∧
  ∀ c : Nat, c < 2 → od.2 11 c = g (132 + 3 * c) ∧ od.2 12 c = g (132 + 3 * c + 1) ∧ od.2 13 c = g (132 + 3 * c + 2) ∧ g (132 + 3 * c) = nI (1 + 2 * c)
def zLDc (od : ob) (g : Nat → Int32) : Bool :=
  decide (od.1 0 = g 1 ∧ od.1 1 = g 2 ∧ od.1 2 = g 3 ∧ od.1 3 = g 4 ∧ od.1 4 = nI 5 ∧ od.1 5 = nI 2 ∧ g 8 = nI 5 ∧ g 9 = nI 2) && (decide (((0 ≤ g 1 ∧ g 1 ≤ 90) ∧ (0 ≤ g 2 ∧ g 2 ≤ 9)) ∧ g 0 = 0 ∧ g 5 = 0 ∧ g 6 = 0 ∧ g 7 = 0 ∧ g 11 = 0 ∧ g 10 = z_sum (od.2 8) 5) &&
  ((List.range 5).all (fun q => decide (od.2 6 q = g (12 + 8 * q) ∧ (g (12 + 8 * q) = 0 ∨ g (12 + 8 * q) = 1) ∧ od.2 7 q = g (12 + 8 * q + 1) ∧ (g (12 + 8 * q + 1) = 0 ∨ g (12 + 8 * q + 1) = 1) ∧ od.2 8 q = g (12 + 8 * q + 2) ∧ od.2 9 q = g (12 + 8 * q + 3) ∧ g (12 + 8 * q + 4) = nI q ∧ od.2 10 q = g (92 + q) ∧ g (102 + 3 * q) = nI q)) &&
  ((List.range 10).all (fun q => decide (g (12 + 8 * q + 5) = 0 ∧ g (12 + 8 * q + 6) = 0 ∧ g (12 + 8 * q + 7) = 0 ∧ g (102 + 3 * q + 1) = 0 ∧ g (102 + 3 * q + 2) = 0)) &&
  (List.range 2).all (fun c => decide (od.2 11 c = g (132 + 3 * c) ∧ od.2 12 c = g (132 + 3 * c + 1) ∧ od.2 13 c = g (132 + 3 * c + 2) ∧ g (132 + 3 * c) = nI (1 + 2 * c))))))
def zM9 (y : ob) : Prop := y.1 9 = 0 ∧ y.1 15 = 0 ∧ y.1 16 = -1 ∧ y.1 6 = 0 ∧ y.1 7 = 0 ∧ y.1 20 = 0
def zM9c (y : ob) : Bool := decide (y.1 9 = 0 ∧ y.1 15 = 0 ∧ y.1 16 = -1 ∧ y.1 6 = 0 ∧ y.1 7 = 0 ∧ y.1 20 = 0)
def zChk (o8 o9 : Option ob) : Bool :=
  match o8 with
  | none => false
  | some y8 => match o9 with
    | none => false
    | some y9 => zM9c y9 && zLDc y8 (y9.2 1)
set_option maxRecDepth 100000 in
set_option maxHeartbeats 4000000 in
theorem zChk_ok : zChk zSet (F_X9_init_seg om0) = true := by decide +kernel
theorem zM9c_ok {y : ob} (h : zM9c y = true) : zM9 y := by
  unfold zM9c at h
  unfold zM9
  exact of_decide_eq_true h
theorem zLDc_ok {od : ob} {g : Nat → Int32} (h : zLDc od g = true) : zLD od g := by
  unfold zLDc at h
  rw [Bool.and_eq_true, Bool.and_eq_true, Bool.and_eq_true, Bool.and_eq_true] at h
  obtain ⟨h1, h2, h3, h4, h5⟩ := h
  refine ⟨of_decide_eq_true h1, of_decide_eq_true h2, fun q hq => ?_, fun q hq => ?_, fun q hq => ?_⟩
  · exact of_decide_eq_true (List.all_eq_true.mp h3 q (List.mem_range.mpr hq))
  · exact of_decide_eq_true (List.all_eq_true.mp h4 q (List.mem_range.mpr hq))
  · exact of_decide_eq_true (List.all_eq_true.mp h5 q (List.mem_range.mpr hq))
theorem zLD_LD {od : ob} {g : Nat → Int32} (h : zLD od g) : LD 5 2 od g := by
  obtain ⟨⟨a0, a1, a2, a3, a4, a5, a8, a9⟩, hh, hp, hz, hb⟩ := h
  refine ⟨⟨a0, a1, a2, a3, a4, a5, a8, a9, by omega, by omega⟩, hh, hp, hz, fun c hc => ?_⟩
  obtain ⟨b1, b2, b3, b4⟩ := hb c hc
  exact ⟨b1, b2, b3, 1 + 2 * c, by omega, by omega, b4⟩
theorem zChk_sp {o8 o9 : Option ob} (h : zChk o8 o9 = true) : ∃ y8 y9 : ob, o8 = some y8 ∧ o9 = some y9 ∧ zM9 y9 ∧ LD 5 2 y8 (y9.2 1) := by
  cases o8 with
  | none => exact absurd h (by simp [zChk])
  | some y8 =>
    cases o9 with
    | none => exact absurd h (by simp [zChk])
    | some y9 =>
      have h : (zM9c y9 && zLDc y8 (y9.2 1)) = true := h
      rw [Bool.and_eq_true] at h
      exact ⟨y8, y9, rfl, rfl, zM9c_ok h.1, zLD_LD (zLDc_ok h.2)⟩
theorem zSeg {y : ob} (h : zSet = some y) {z : ob × ob × ob} (hz : F_X2_begin ob0 ob0 ob0 y = some z) : F_X8_init_seg ob0 ob0 ob0 ob0 ob0 = some (y, z.1, z.2.1, z.2.2) := by
  unfold zSet at h
  obtain ⟨y1, h1, h⟩ := rx_biE h
  obtain ⟨y2, h2, h⟩ := rx_biE h
  obtain ⟨y3, h3, h⟩ := rx_biE h
  obtain ⟨y4, h4, h⟩ := rx_biE h
  obtain ⟨y5, h5, h⟩ := rx_biE h
  obtain ⟨y6, h6, h⟩ := rx_biE h
  obtain ⟨y7, h7, h⟩ := rx_biE h
  unfold F_X8_init_seg
  rw [h1, z_bsN, h2, z_bsN, h3, z_bsN, h4, z_bsN, h5, z_bsN, h6, z_bsN, h7, z_bsN, h, z_bsN, hz, z_bsN]
theorem zStart : ∃ (y8 : ob × ob × ob × ob) (y9 : ob), F_X8_init_seg ob0 ob0 ob0 ob0 ob0 = some y8 ∧ F_X9_init_seg om0 = some y9 ∧ Inv 0 (st0 y8 y9) := by
  obtain ⟨y8, y9, e8, e9, ⟨m9, m15, m16, m6, m7, m20⟩, hL⟩ := zChk_sp zChk_ok
  obtain ⟨z, hz, hR⟩ := C_begin (op := ob0) (ow := ob0) (oe := ob0) hL (by omega) (by omega)
  refine ⟨(y8, z.1, z.2.1, z.2.2), y9, zSeg e8 hz, e9, 5, 2, ⟨0, by omega, rfl, m9, m15.symm, m16.symm, fun i hi => absurd hi (by omega)⟩, ⟨⟨[], [], hR⟩, ⟨0, 0, by omega, by omega, rfl, rfl, m6, fun i hi => absurd hi (by omega)⟩, ⟨m7.symm, Or.inl m7⟩⟩, 0, by omega, rfl, m20, fun i hi => absurd hi (by omega)⟩
theorem whole_start {p : Program} {e : Env} {s : State} {m : MethodId} {below : List Frame} {meth : Method} {c : Code} (l : Launch) (hflags : l.flags = flags0) {b L : Nat} {xs : Nat → Int32} (hL : L ≤ 3072) (C0 : lw_At p s m meth c b L xs) : W p l e room_1 s m #[Value.ref b] below meth c s.heap [] 0 0 (lw_Z below #[Value.ref b] s) (entryFrame m ([Value.ref b] : List Value).toArray 9) := by
  obtain ⟨y8, y9, h8, h9, h0⟩ := zStart
  exact whole_open h8 h9 h0 hstep_all l hflags hL C0
