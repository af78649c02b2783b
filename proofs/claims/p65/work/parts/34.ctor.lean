set_option maxRecDepth 100000 in
theorem oi_inst : Cond.instanceMethod Lib.objectInit ∈ rx_good := (rx_g1 29 rfl rfl)
set_option maxRecDepth 100000 in
theorem oi_code : Cond.code Lib.objectInit ⟨#[0xb1]⟩ 1 none ∈ rx_good := (rx_g1 30 rfl rfl)
set_option maxRecDepth 100000 in
theorem ac_int : Cond.arrayClass .int ∈ rx_good := (rx_g1 68 rfl rfl)
abbrev rx_rmX (f lo mc ms : Nat) : Room := { frames := f, cells := mc, slots := ms, locals := lo }
set_option maxRecDepth 100000 in
theorem N_L_36 : rx_N RL 36 7 11 [.null, .null, .null, .null, .null, .null, .null, .null, .null, .int 0, .int 0] := ⟨RX8, TX8, tyX8, rfl, in_X8, tyX8_ok, (rx_g1 23 rfl rfl), (rx_g1 24 rfl rfl), (rx_g1 1 rfl rfl), by decide⟩
set_option maxRecDepth 100000 in
theorem mo_X8 : Cond.methodLink RX8 1 Lib.objectInit ∈ rx_good := (rx_g1 28 rfl rfl)
set_option maxRecDepth 100000 in
theorem N_X8_7 : rx_N RX8 7 5 9 [.null, .int 0, .int 0, .int 0, .int 0, .int 0, .int 0, .int 0, .int 0] := ⟨RX6, TX6, tyX6, rfl, in_X6, tyX6_ok, (rx_g1 31 rfl rfl), (rx_g1 32 rfl rfl), (rx_g1 2 rfl rfl), by decide⟩
set_option maxRecDepth 100000 in
theorem mo_X6 : Cond.methodLink RX6 3 Lib.objectInit ∈ rx_good := (rx_g1 36 rfl rfl)
set_option maxRecDepth 100000 in
theorem N_X8_16 : rx_N RX8 16 4 14 [.int 0, .int 0, .int 0, .int 0, .int 0, .int 0, .null, .null, .null, .null, .null, .null, .null, .null] := ⟨RX5, TX5, tyX5, rfl, in_X5, tyX5_ok, (rx_g1 69 rfl rfl), (rx_g1 70 rfl rfl), (rx_g1 3 rfl rfl), by decide⟩
set_option maxRecDepth 100000 in
theorem mo_X5 : Cond.methodLink RX5 3 Lib.objectInit ∈ rx_good := (rx_g1 74 rfl rfl)
set_option maxRecDepth 100000 in
theorem N_X8_26 : rx_N RX8 26 1 15 [.null, .int 0, .int 0, .int 0, .null, .null, .null, .null, .null, .null, .null, .null, .null, .null, .null] := ⟨RX2, TX2, tyX2, rfl, in_X2, tyX2_ok, (rx_g1 130 rfl rfl), (rx_g1 131 rfl rfl), (rx_g1 4 rfl rfl), by decide⟩
set_option maxRecDepth 100000 in
theorem mo_X2 : Cond.methodLink RX2 3 Lib.objectInit ∈ rx_good := (rx_g1 135 rfl rfl)
set_option maxRecDepth 100000 in
theorem N_X2_39 : rx_N RX2 39 2 3 [.null, .null, .int 0] := ⟨RX3, TX3, tyX3, rfl, in_X3, tyX3_ok, (rx_g1 136 rfl rfl), (rx_g1 137 rfl rfl), (rx_g1 5 rfl rfl), by decide⟩
set_option maxRecDepth 100000 in
theorem mo_X3 : Cond.methodLink RX3 3 Lib.objectInit ∈ rx_good := (rx_g1 141 rfl rfl)
set_option maxRecDepth 100000 in
theorem N_X8_41 : rx_N RX8 41 0 3 [.null, .int 0, .int 0] := ⟨RX1, TX1, tyX1, rfl, in_X1, tyX1_ok, (rx_g1 210 rfl rfl), (rx_g1 211 rfl rfl), (rx_g1 6 rfl rfl), by decide⟩
set_option maxRecDepth 100000 in
theorem mo_X1 : Cond.methodLink RX1 3 Lib.objectInit ∈ rx_good := (rx_g1 215 rfl rfl)
set_option maxRecDepth 100000 in
theorem N_X1_9 : rx_N RX1 9 1 15 [.null, .int 0, .int 0, .int 0, .null, .null, .null, .null, .null, .null, .null, .null, .null, .null, .null] := ⟨RX2, TX2, tyX2, rfl, in_X2, tyX2_ok, (rx_g1 216 rfl rfl), (rx_g1 131 rfl rfl), (rx_g1 4 rfl rfl), by decide⟩
set_option maxRecDepth 100000 in
theorem cl_X1_9 : Cond.classLink RX1 9 RX2 ∈ rx_good := (rx_g1 216 rfl rfl)
set_option maxRecDepth 100000 in
theorem N_X8_48 : rx_N RX8 48 3 4 [.null, .null, .null, .int 0] := ⟨RX4, TX4, tyX4, rfl, in_X4, tyX4_ok, (rx_g1 229 rfl rfl), (rx_g1 230 rfl rfl), (rx_g1 7 rfl rfl), by decide⟩
set_option maxRecDepth 100000 in
theorem mo_X4 : Cond.methodLink RX4 3 Lib.objectInit ∈ rx_good := (rx_g1 234 rfl rfl)
set_option maxRecDepth 100000 in
theorem cl_X4_9 : Cond.classLink RX4 9 RX7 ∈ rx_good := (rx_g1 235 rfl rfl)
set_option maxRecDepth 100000 in
theorem N_L_8 : rx_N RL 8 8 5 [.null, .null, .int 0, .int 0, .int 0] := ⟨RL, TL, tyL, rfl, in_L, tyL_ok, (rx_g2 106 rfl rfl), (rx_g2 107 rfl rfl), (rx_g1 0 rfl rfl), by decide⟩
set_option maxRecDepth 100000 in
theorem mo_L : Cond.methodLink RL 1 Lib.objectInit ∈ rx_good := (rx_g2 111 rfl rfl)
section RXM
variable {p : Program} {l : Launch} {e : Env} {R : Room} {s : State} {m : MethodId} {args : Array Value} {below : List Frame} {meth : Method} {c : Code} {Q : State → Prop} {G : va_G} {k : Nat → Nat} {cc : ByteArray} {own : String} {nL : Nat} {ret : Option FieldType} {cells slots : Nat} {h : hp} {n pc : Nat} {L : List (Nat × Value)} {st : List Value}
theorem rx_newi2 (C : rx_C G k p m c cc own nL ret s args meth) {v : Int32} (len : Nat) (hdg : decode cc pc = .ok (.newarray .int, 2)) (hv : ¬ v < 0) (hlen : v.toNatClampNeg = len) (hb : len * 4 ≤ 536870912) (hcells : cells + 1 ≤ R.cells) (hslots : slots + len ≤ R.slots)
    (K : ∀ h1 : hp, h1 n = some (rx_ia k len (fun _ => 0)) → rx_fr [(n, 1)] h h1 → rx_W p l e R s m args below meth c Q G k nL (cells + 1) (slots + len) h1 (n + 1) (pc + 2) L (.ref n :: st)) : rx_W p l e R s m args below meth c Q G k nL cells slots h n pc L (.int v :: st) :=
  rx_newi C len ac_int hdg hv hlen hb hcells hslots (K _ (va_up_self _ _ _) (rx_fr1 (Nat.le_refl _) (Nat.lt_succ_self _)))
theorem rx_new2 (C : rx_C G k p m c cc own nL ret s args meth) {index ci N : Nat} {fs : List Value} (hN : rx_N own index ci N fs) (hdg : decode cc pc = .ok (.new index, 3)) (hcells : cells + 1 ≤ R.cells) (hslots : slots + N ≤ R.slots)
    (K : ∀ h1 : hp, h1 n = some (.inr (ci, fs)) → rx_fr [(n, 1)] h h1 → rx_W p l e R s m args below meth c Q G k nL (cells + 1) (slots + N) h1 (n + 1) (pc + 3) L (.ref n :: st)) : rx_W p l e R s m args below meth c Q G k nL cells slots h n pc L st :=
  rx_new C hN hdg hcells hslots (K _ (va_up_self _ _ _) (rx_fr1 (Nat.le_refl _) (Nat.lt_succ_self _)))
theorem rx_newq2 (C : rx_C G k p m c cc own nL ret s args meth) {index : Nat} {v : Int32} (len kk t0 : Nat) {Cn : String} (ht : (rx_tys k)[t0]? = some (k kk, .object Cn)) (hlk : Cond.classLink own index Cn ∈ rx_good) (hover : va_AO Cn s) (hdg : decode cc pc = .ok (.anewarray index, 3)) (hv : ¬ v < 0) (hlen : v.toNatClampNeg = len) (hb : len * 4 ≤ 536870912) (hcells : cells + 1 ≤ R.cells) (hslots : slots + len ≤ R.slots)
    (K : ∀ h1 : hp, h1 n = some (rx_qa (k kk) len (fun _ => none)) → rx_fr [(n, 1)] h h1 → rx_W p l e R s m args below meth c Q G k nL (cells + 1) (slots + len) h1 (n + 1) (pc + 3) L (.ref n :: st)) : rx_W p l e R s m args below meth c Q G k nL cells slots h n pc L (.int v :: st) :=
  rx_newq C len kk t0 ht hlk hover hdg hv hlen hb hcells hslots (K _ (va_up_self _ _ _) (rx_fr1 (Nat.le_refl _) (Nat.lt_succ_self _)))
theorem rx_putf2 (C : rx_C G k p m c cc own nL ret s args meth) {index ci j a : Nat} {fs fs2 : List Value} {v : Value} {ty : FieldType} (hF : rx_F own index ci j) (hT : rx_FT ci j ty false) (hdg : decode cc pc = .ok (.putfield index, 3)) (hh : h a = some (.inr (ci, fs))) (hl0 : j < fs.length) (hn : narrow ty v = v) (hfit : fits ty v = true) (h2 : fs.set j v = fs2)
    (K : ∀ h1 : hp, h1 a = some (.inr (ci, fs2)) → rx_fr [(a, 1)] h h1 → rx_W p l e R s m args below meth c Q G k nL cells slots h1 n (pc + 3) L st) : rx_W p l e R s m args below meth c Q G k nL cells slots h n pc L (v :: .ref a :: st) := by
  subst h2
  exact rx_putf C hF hT hdg hh hl0 hn hfit (K _ (va_up_self _ _ _) (rx_fr1 (Nat.le_refl _) (Nat.lt_succ_self _)))
theorem rx_putfF2 (C : rx_C G k p m c cc own nL ret s args meth) {index ci j a : Nat} {fs fs2 : List Value} {v : Value} {ty : FieldType} (hF : rx_F own index ci j) (hT : rx_FT ci j ty true) (hown : ∃ (T : u_T) (N : Nat), vwCl[ci]? = some (own, T, N)) (hin9 : meth.name = "<init>") (hdg : decode cc pc = .ok (.putfield index, 3)) (hh : h a = some (.inr (ci, fs))) (hl0 : j < fs.length) (hn : narrow ty v = v) (hfit : fits ty v = true) (h2 : fs.set j v = fs2)
    (K : ∀ h1 : hp, h1 a = some (.inr (ci, fs2)) → rx_fr [(a, 1)] h h1 → rx_W p l e R s m args below meth c Q G k nL cells slots h1 n (pc + 3) L st) : rx_W p l e R s m args below meth c Q G k nL cells slots h n pc L (v :: .ref a :: st) := by
  subst h2
  exact rx_putfF C hF hT hown hin9 hdg hh hl0 hn hfit (K _ (va_up_self _ _ _) (rx_fr1 (Nat.le_refl _) (Nat.lt_succ_self _)))
theorem rx_qastP2 (C : rx_C G k p m c cc own nL ret s args meth) {a v len : Nat} {vs : List Value} {f : Nat → Option Nat} {i : Int32} (hdg : decode cc pc = .ok (.aastore, 1)) (hh : h a = some (rx_qa (k 3) len f)) (hv : h v = some (.inr (1, vs))) (hin : vp_in i len)
    (K : ∀ h1 : hp, h1 a = some (rx_qa (k 3) len (va_up f i.toNatClampNeg (some v))) → rx_fr [(a, 1)] h h1 → rx_W p l e R s m args below meth c Q G k nL cells slots h1 n (pc + 1) L st) : rx_W p l e R s m args below meth c Q G k nL cells slots h n pc L (.ref v :: .int i :: .ref a :: st) :=
  rx_qastP C hdg hh hv hin (K _ (va_up_self _ _ _) (rx_fr1 (Nat.le_refl _) (Nat.lt_succ_self _)))
theorem rx_objI (C : rx_C G k p m c cc own nL ret s args meth) {idx a : Nat} (hlk : Cond.methodLink own idx Lib.objectInit ∈ rx_good) (hdg : decode cc pc = .ok (.invokespecial idx, 3)) (hfr : 1 ≤ R.frames) (hlo : (st.map fun v => v.category).sum + 12 ≤ R.locals)
    (K : rx_W p l e R s m args below meth c Q G k nL cells slots h n (pc + 3) L st) : rx_W p l e R s m args below meth c Q G k nL cells slots h n pc L (.ref a :: st) := fun H locs ls hP hS hl =>
  W.objInit C.1 C.2.1 C.2.2.1 (C.2.2.2.1 _ hlk) (C.2.2.2.1 _ oi_inst) (C.2.2.2.1 _ oi_code) rfl (hl.1.trans C.2.2.2.2.1.symm) rfl hdg hfr (by show 2 * 0 + _ + 12 ≤ _; omega) (K H locs ls hP hS hl)
end RXM
def ob0 : ob := (fun _ => 0, fun _ _ => 0)
def obv0 : obv := (ob0, fun _ => none)
def obt0 : ob := (fun j => if j = 8 then -1 else 0, fun _ _ => 0)
def hst0 : hst := (ob0, fun _ => (ob0, ob0, ob0))
section RXI
variable {l : Launch} {G : va_G} {k : Nat → Nat} {h : hp}
set_option maxRecDepth 100000 in
set_option maxHeartbeats 4000000 in
theorem w_X3_init {q : Nat} (e_0 : h q = some (.inr (2, [.null, .null, .int 0]))) : Met l yX3_init (rx_ws yX3_init cX3_init 1 none) (rx_rmX 1 16 2 20) (va_Pc [.ref q] (rx_G G k h (q + 1))) (va_Qv (fun u => u.2 = q + 3 ∧ bQ k q ob0 u.1 ∧ rx_fr [(q, 3)] h u.1) (rx_B G k) (rx_A k)) 2 20 (rx_A k) := by
  refine rx_start [(0, .ref q)] rfl (Nat.le_of_ble_eq_true rfl) (by decide) rfl (fun P9 E9 S9 M9 A9 B9 me9 c9 C hname => ?_)
  replace hname : me9.name = "<init>" := hname
  have fr : rx_fr [(q, 3)] h h := rx_fr0
  refine rx_aload_n C dX3_init_0 0 rfl ?_
  refine rx_objI C mo_X3 dX3_init_1 (Nat.le_of_ble_eq_true rfl) (Nat.le_of_ble_eq_true rfl) ?_
  refine rx_aload_n C dX3_init_4 0 rfl ?_
  refine rx_bipush C dX3_init_5 (10 : Int32) (by decide) ?_
  refine rx_newi2 C 10 dX3_init_7 (by decide) (by decide) (by decide) (Nat.le_of_ble_eq_true rfl) (Nat.le_of_ble_eq_true rfl) (fun h5 e_1 ff => ?_)
  replace e_0 := (ff _ ⟨by omega, trivial⟩).trans e_0
  replace fr := rx_frt fr ff (fun a ha => ⟨by have := ha.1; dsimp only at this ⊢; omega, trivial⟩)
  refine rx_putfF2 C f_X3_9 t_X3_0 ⟨_, _, rfl⟩ hname dX3_init_9 e_0 (Nat.le_of_ble_eq_true rfl) rfl rfl (fs2 := [.ref (q + 1), .null, .int 0]) rfl (fun h6 e9 ff => ?_)
  replace e_0 := e9
  replace e_1 := (ff _ ⟨by omega, trivial⟩).trans e_1
  replace fr := rx_frt fr ff (fun a ha => ⟨by have := ha.1; dsimp only at this ⊢; omega, trivial⟩)
  refine rx_aload_n C dX3_init_12 0 rfl ?_
  refine rx_bipush C dX3_init_13 (10 : Int32) (by decide) ?_
  refine rx_newi2 C 10 dX3_init_15 (by decide) (by decide) (by decide) (Nat.le_of_ble_eq_true rfl) (Nat.le_of_ble_eq_true rfl) (fun h9 e_2 ff => ?_)
  replace e_0 := (ff _ ⟨by omega, trivial⟩).trans e_0
  replace e_1 := (ff _ ⟨by omega, trivial⟩).trans e_1
  replace fr := rx_frt fr ff (fun a ha => ⟨by have := ha.1; dsimp only at this ⊢; omega, trivial⟩)
  refine rx_putfF2 C f_X3_15 t_X3_1 ⟨_, _, rfl⟩ hname dX3_init_17 e_0 (Nat.le_of_ble_eq_true rfl) rfl rfl (fs2 := [.ref (q + 1), .ref (q + 2), .int 0]) rfl (fun h10 e9 ff => ?_)
  replace e_0 := e9
  replace e_1 := (ff _ ⟨by omega, trivial⟩).trans e_1
  replace e_2 := (ff _ ⟨by omega, trivial⟩).trans e_2
  replace fr := rx_frt fr ff (fun a ha => ⟨by have := ha.1; dsimp only at this ⊢; omega, trivial⟩)
  exact rx_vret C dX3_init_20 (Nat.le_of_ble_eq_true rfl) (Nat.le_of_ble_eq_true rfl) ⟨rfl, ⟨e_0, e_1, e_2⟩, fr⟩
set_option maxRecDepth 100000 in
set_option maxHeartbeats 4000000 in
theorem w_X5_init {q : Nat} (e_0 : h q = some (.inr (4, [.int 0, .int 0, .int 0, .int 0, .int 0, .int 0, .null, .null, .null, .null, .null, .null, .null, .null]))) : Met l yX5_init (rx_ws yX5_init cX5_init 1 none) (rx_rmX 1 16 8 62) (va_Pc [.ref q] (rx_G G k h (q + 1))) (va_Qv (fun u => u.2 = q + 9 ∧ bS k q ob0 u.1 ∧ rx_fr [(q, 9)] h u.1) (rx_B G k) (rx_A k)) 8 62 (rx_A k) := by
  refine rx_start [(0, .ref q)] rfl (Nat.le_of_ble_eq_true rfl) (by decide) rfl (fun P9 E9 S9 M9 A9 B9 me9 c9 C hname => ?_)
  replace hname : me9.name = "<init>" := hname
  have fr : rx_fr [(q, 9)] h h := rx_fr0
  refine rx_aload_n C dX5_init_0 0 rfl ?_
  refine rx_objI C mo_X5 dX5_init_1 (Nat.le_of_ble_eq_true rfl) (Nat.le_of_ble_eq_true rfl) ?_
  refine rx_aload_n C dX5_init_4 0 rfl ?_
  refine rx_bipush C dX5_init_5 (10 : Int32) (by decide) ?_
  refine rx_newi2 C 10 dX5_init_7 (by decide) (by decide) (by decide) (Nat.le_of_ble_eq_true rfl) (Nat.le_of_ble_eq_true rfl) (fun h5 e_1 ff => ?_)
  replace e_0 := (ff _ ⟨by omega, trivial⟩).trans e_0
  replace fr := rx_frt fr ff (fun a ha => ⟨by have := ha.1; dsimp only at this ⊢; omega, trivial⟩)
  refine rx_putfF2 C f_X5_9 t_X5_6 ⟨_, _, rfl⟩ hname dX5_init_9 e_0 (Nat.le_of_ble_eq_true rfl) rfl rfl (fs2 := [.int 0, .int 0, .int 0, .int 0, .int 0, .int 0, .ref (q + 1), .null, .null, .null, .null, .null, .null, .null]) rfl (fun h6 e9 ff => ?_)
  replace e_0 := e9
  replace e_1 := (ff _ ⟨by omega, trivial⟩).trans e_1
  replace fr := rx_frt fr ff (fun a ha => ⟨by have := ha.1; dsimp only at this ⊢; omega, trivial⟩)
  refine rx_aload_n C dX5_init_12 0 rfl ?_
  refine rx_bipush C dX5_init_13 (10 : Int32) (by decide) ?_
  refine rx_newi2 C 10 dX5_init_15 (by decide) (by decide) (by decide) (Nat.le_of_ble_eq_true rfl) (Nat.le_of_ble_eq_true rfl) (fun h9 e_2 ff => ?_)
  replace e_0 := (ff _ ⟨by omega, trivial⟩).trans e_0
  replace e_1 := (ff _ ⟨by omega, trivial⟩).trans e_1
  replace fr := rx_frt fr ff (fun a ha => ⟨by have := ha.1; dsimp only at this ⊢; omega, trivial⟩)
  refine rx_putfF2 C f_X5_15 t_X5_7 ⟨_, _, rfl⟩ hname dX5_init_17 e_0 (Nat.le_of_ble_eq_true rfl) rfl rfl (fs2 := [.int 0, .int 0, .int 0, .int 0, .int 0, .int 0, .ref (q + 1), .ref (q + 2), .null, .null, .null, .null, .null, .null]) rfl (fun h10 e9 ff => ?_)
  replace e_0 := e9
  replace e_1 := (ff _ ⟨by omega, trivial⟩).trans e_1
  replace e_2 := (ff _ ⟨by omega, trivial⟩).trans e_2
  replace fr := rx_frt fr ff (fun a ha => ⟨by have := ha.1; dsimp only at this ⊢; omega, trivial⟩)
  refine rx_aload_n C dX5_init_20 0 rfl ?_
  refine rx_bipush C dX5_init_21 (10 : Int32) (by decide) ?_
  refine rx_newi2 C 10 dX5_init_23 (by decide) (by decide) (by decide) (Nat.le_of_ble_eq_true rfl) (Nat.le_of_ble_eq_true rfl) (fun h13 e_3 ff => ?_)
  replace e_0 := (ff _ ⟨by omega, trivial⟩).trans e_0
  replace e_1 := (ff _ ⟨by omega, trivial⟩).trans e_1
  replace e_2 := (ff _ ⟨by omega, trivial⟩).trans e_2
  replace fr := rx_frt fr ff (fun a ha => ⟨by have := ha.1; dsimp only at this ⊢; omega, trivial⟩)
  refine rx_putfF2 C f_X5_18 t_X5_8 ⟨_, _, rfl⟩ hname dX5_init_25 e_0 (Nat.le_of_ble_eq_true rfl) rfl rfl (fs2 := [.int 0, .int 0, .int 0, .int 0, .int 0, .int 0, .ref (q + 1), .ref (q + 2), .ref (q + 3), .null, .null, .null, .null, .null]) rfl (fun h14 e9 ff => ?_)
  replace e_0 := e9
  replace e_1 := (ff _ ⟨by omega, trivial⟩).trans e_1
  replace e_2 := (ff _ ⟨by omega, trivial⟩).trans e_2
  replace e_3 := (ff _ ⟨by omega, trivial⟩).trans e_3
  replace fr := rx_frt fr ff (fun a ha => ⟨by have := ha.1; dsimp only at this ⊢; omega, trivial⟩)
  refine rx_aload_n C dX5_init_28 0 rfl ?_
  refine rx_bipush C dX5_init_29 (10 : Int32) (by decide) ?_
  refine rx_newi2 C 10 dX5_init_31 (by decide) (by decide) (by decide) (Nat.le_of_ble_eq_true rfl) (Nat.le_of_ble_eq_true rfl) (fun h17 e_4 ff => ?_)
  replace e_0 := (ff _ ⟨by omega, trivial⟩).trans e_0
  replace e_1 := (ff _ ⟨by omega, trivial⟩).trans e_1
  replace e_2 := (ff _ ⟨by omega, trivial⟩).trans e_2
  replace e_3 := (ff _ ⟨by omega, trivial⟩).trans e_3
  replace fr := rx_frt fr ff (fun a ha => ⟨by have := ha.1; dsimp only at this ⊢; omega, trivial⟩)
  refine rx_putfF2 C f_X5_21 t_X5_9 ⟨_, _, rfl⟩ hname dX5_init_33 e_0 (Nat.le_of_ble_eq_true rfl) rfl rfl (fs2 := [.int 0, .int 0, .int 0, .int 0, .int 0, .int 0, .ref (q + 1), .ref (q + 2), .ref (q + 3), .ref (q + 4), .null, .null, .null, .null]) rfl (fun h18 e9 ff => ?_)
  replace e_0 := e9
  replace e_1 := (ff _ ⟨by omega, trivial⟩).trans e_1
  replace e_2 := (ff _ ⟨by omega, trivial⟩).trans e_2
  replace e_3 := (ff _ ⟨by omega, trivial⟩).trans e_3
  replace e_4 := (ff _ ⟨by omega, trivial⟩).trans e_4
  replace fr := rx_frt fr ff (fun a ha => ⟨by have := ha.1; dsimp only at this ⊢; omega, trivial⟩)
  refine rx_aload_n C dX5_init_36 0 rfl ?_
  refine rx_bipush C dX5_init_37 (10 : Int32) (by decide) ?_
  refine rx_newi2 C 10 dX5_init_39 (by decide) (by decide) (by decide) (Nat.le_of_ble_eq_true rfl) (Nat.le_of_ble_eq_true rfl) (fun h21 e_5 ff => ?_)
  replace e_0 := (ff _ ⟨by omega, trivial⟩).trans e_0
  replace e_1 := (ff _ ⟨by omega, trivial⟩).trans e_1
  replace e_2 := (ff _ ⟨by omega, trivial⟩).trans e_2
  replace e_3 := (ff _ ⟨by omega, trivial⟩).trans e_3
  replace e_4 := (ff _ ⟨by omega, trivial⟩).trans e_4
  replace fr := rx_frt fr ff (fun a ha => ⟨by have := ha.1; dsimp only at this ⊢; omega, trivial⟩)
  refine rx_putfF2 C f_X5_24 t_X5_10 ⟨_, _, rfl⟩ hname dX5_init_41 e_0 (Nat.le_of_ble_eq_true rfl) rfl rfl (fs2 := [.int 0, .int 0, .int 0, .int 0, .int 0, .int 0, .ref (q + 1), .ref (q + 2), .ref (q + 3), .ref (q + 4), .ref (q + 5), .null, .null, .null]) rfl (fun h22 e9 ff => ?_)
  replace e_0 := e9
  replace e_1 := (ff _ ⟨by omega, trivial⟩).trans e_1
  replace e_2 := (ff _ ⟨by omega, trivial⟩).trans e_2
  replace e_3 := (ff _ ⟨by omega, trivial⟩).trans e_3
  replace e_4 := (ff _ ⟨by omega, trivial⟩).trans e_4
  replace e_5 := (ff _ ⟨by omega, trivial⟩).trans e_5
  replace fr := rx_frt fr ff (fun a ha => ⟨by have := ha.1; dsimp only at this ⊢; omega, trivial⟩)
  refine rx_aload_n C dX5_init_44 0 rfl ?_
  refine rx_iconst C dX5_init_45 (4 : Int32) (by decide) ?_
  refine rx_newi2 C 4 dX5_init_46 (by decide) (by decide) (by decide) (Nat.le_of_ble_eq_true rfl) (Nat.le_of_ble_eq_true rfl) (fun h25 e_6 ff => ?_)
  replace e_0 := (ff _ ⟨by omega, trivial⟩).trans e_0
  replace e_1 := (ff _ ⟨by omega, trivial⟩).trans e_1
  replace e_2 := (ff _ ⟨by omega, trivial⟩).trans e_2
  replace e_3 := (ff _ ⟨by omega, trivial⟩).trans e_3
  replace e_4 := (ff _ ⟨by omega, trivial⟩).trans e_4
  replace e_5 := (ff _ ⟨by omega, trivial⟩).trans e_5
  replace fr := rx_frt fr ff (fun a ha => ⟨by have := ha.1; dsimp only at this ⊢; omega, trivial⟩)
  refine rx_putfF2 C f_X5_27 t_X5_11 ⟨_, _, rfl⟩ hname dX5_init_48 e_0 (Nat.le_of_ble_eq_true rfl) rfl rfl (fs2 := [.int 0, .int 0, .int 0, .int 0, .int 0, .int 0, .ref (q + 1), .ref (q + 2), .ref (q + 3), .ref (q + 4), .ref (q + 5), .ref (q + 6), .null, .null]) rfl (fun h26 e9 ff => ?_)
  replace e_0 := e9
  replace e_1 := (ff _ ⟨by omega, trivial⟩).trans e_1
  replace e_2 := (ff _ ⟨by omega, trivial⟩).trans e_2
  replace e_3 := (ff _ ⟨by omega, trivial⟩).trans e_3
  replace e_4 := (ff _ ⟨by omega, trivial⟩).trans e_4
  replace e_5 := (ff _ ⟨by omega, trivial⟩).trans e_5
  replace e_6 := (ff _ ⟨by omega, trivial⟩).trans e_6
  replace fr := rx_frt fr ff (fun a ha => ⟨by have := ha.1; dsimp only at this ⊢; omega, trivial⟩)
  refine rx_aload_n C dX5_init_51 0 rfl ?_
  refine rx_iconst C dX5_init_52 (4 : Int32) (by decide) ?_
  refine rx_newi2 C 4 dX5_init_53 (by decide) (by decide) (by decide) (Nat.le_of_ble_eq_true rfl) (Nat.le_of_ble_eq_true rfl) (fun h29 e_7 ff => ?_)
  replace e_0 := (ff _ ⟨by omega, trivial⟩).trans e_0
  replace e_1 := (ff _ ⟨by omega, trivial⟩).trans e_1
  replace e_2 := (ff _ ⟨by omega, trivial⟩).trans e_2
  replace e_3 := (ff _ ⟨by omega, trivial⟩).trans e_3
  replace e_4 := (ff _ ⟨by omega, trivial⟩).trans e_4
  replace e_5 := (ff _ ⟨by omega, trivial⟩).trans e_5
  replace e_6 := (ff _ ⟨by omega, trivial⟩).trans e_6
  replace fr := rx_frt fr ff (fun a ha => ⟨by have := ha.1; dsimp only at this ⊢; omega, trivial⟩)
  refine rx_putfF2 C f_X5_30 t_X5_12 ⟨_, _, rfl⟩ hname dX5_init_55 e_0 (Nat.le_of_ble_eq_true rfl) rfl rfl (fs2 := [.int 0, .int 0, .int 0, .int 0, .int 0, .int 0, .ref (q + 1), .ref (q + 2), .ref (q + 3), .ref (q + 4), .ref (q + 5), .ref (q + 6), .ref (q + 7), .null]) rfl (fun h30 e9 ff => ?_)
  replace e_0 := e9
  replace e_1 := (ff _ ⟨by omega, trivial⟩).trans e_1
  replace e_2 := (ff _ ⟨by omega, trivial⟩).trans e_2
  replace e_3 := (ff _ ⟨by omega, trivial⟩).trans e_3
  replace e_4 := (ff _ ⟨by omega, trivial⟩).trans e_4
  replace e_5 := (ff _ ⟨by omega, trivial⟩).trans e_5
  replace e_6 := (ff _ ⟨by omega, trivial⟩).trans e_6
  replace e_7 := (ff _ ⟨by omega, trivial⟩).trans e_7
  replace fr := rx_frt fr ff (fun a ha => ⟨by have := ha.1; dsimp only at this ⊢; omega, trivial⟩)
  refine rx_aload_n C dX5_init_58 0 rfl ?_
  refine rx_iconst C dX5_init_59 (4 : Int32) (by decide) ?_
  refine rx_newi2 C 4 dX5_init_60 (by decide) (by decide) (by decide) (Nat.le_of_ble_eq_true rfl) (Nat.le_of_ble_eq_true rfl) (fun h33 e_8 ff => ?_)
  replace e_0 := (ff _ ⟨by omega, trivial⟩).trans e_0
  replace e_1 := (ff _ ⟨by omega, trivial⟩).trans e_1
  replace e_2 := (ff _ ⟨by omega, trivial⟩).trans e_2
  replace e_3 := (ff _ ⟨by omega, trivial⟩).trans e_3
  replace e_4 := (ff _ ⟨by omega, trivial⟩).trans e_4
  replace e_5 := (ff _ ⟨by omega, trivial⟩).trans e_5
  replace e_6 := (ff _ ⟨by omega, trivial⟩).trans e_6
  replace e_7 := (ff _ ⟨by omega, trivial⟩).trans e_7
  replace fr := rx_frt fr ff (fun a ha => ⟨by have := ha.1; dsimp only at this ⊢; omega, trivial⟩)
  refine rx_putfF2 C f_X5_33 t_X5_13 ⟨_, _, rfl⟩ hname dX5_init_62 e_0 (Nat.le_of_ble_eq_true rfl) rfl rfl (fs2 := [.int 0, .int 0, .int 0, .int 0, .int 0, .int 0, .ref (q + 1), .ref (q + 2), .ref (q + 3), .ref (q + 4), .ref (q + 5), .ref (q + 6), .ref (q + 7), .ref (q + 8)]) rfl (fun h34 e9 ff => ?_)
  replace e_0 := e9
  replace e_1 := (ff _ ⟨by omega, trivial⟩).trans e_1
  replace e_2 := (ff _ ⟨by omega, trivial⟩).trans e_2
  replace e_3 := (ff _ ⟨by omega, trivial⟩).trans e_3
  replace e_4 := (ff _ ⟨by omega, trivial⟩).trans e_4
  replace e_5 := (ff _ ⟨by omega, trivial⟩).trans e_5
  replace e_6 := (ff _ ⟨by omega, trivial⟩).trans e_6
  replace e_7 := (ff _ ⟨by omega, trivial⟩).trans e_7
  replace e_8 := (ff _ ⟨by omega, trivial⟩).trans e_8
  replace fr := rx_frt fr ff (fun a ha => ⟨by have := ha.1; dsimp only at this ⊢; omega, trivial⟩)
  exact rx_vret C dX5_init_65 (Nat.le_of_ble_eq_true rfl) (Nat.le_of_ble_eq_true rfl) ⟨rfl, ⟨e_0, e_1, e_2, e_3, e_4, e_5, e_6, e_7, e_8⟩, fr⟩
set_option maxRecDepth 100000 in
set_option maxHeartbeats 4000000 in
theorem w_X6_init {q : Nat} (e_0 : h q = some (.inr (5, [.null, .int 0, .int 0, .int 0, .int 0, .int 0, .int 0, .int 0, .int 0]))) : Met l yX6_init (rx_ws yX6_init cX6_init 1 none) (rx_rmX 1 16 1 500) (va_Pc [.ref q] (rx_G G k h (q + 1))) (va_Qv (fun u => u.2 = q + 2 ∧ bT k q obt0 u.1 ∧ rx_fr [(q, 2)] h u.1) (rx_B G k) (rx_A k)) 1 500 (rx_A k) := by
  refine rx_start [(0, .ref q)] rfl (Nat.le_of_ble_eq_true rfl) (by decide) rfl (fun P9 E9 S9 M9 A9 B9 me9 c9 C hname => ?_)
  replace hname : me9.name = "<init>" := hname
  have fr : rx_fr [(q, 2)] h h := rx_fr0
  refine rx_aload_n C dX6_init_0 0 rfl ?_
  refine rx_objI C mo_X6 dX6_init_1 (Nat.le_of_ble_eq_true rfl) (Nat.le_of_ble_eq_true rfl) ?_
  refine rx_aload_n C dX6_init_4 0 rfl ?_
  refine rx_sipush C dX6_init_5 (500 : Int32) (by decide) ?_
  refine rx_newi2 C 500 dX6_init_8 (by decide) (by decide) (by decide) (Nat.le_of_ble_eq_true rfl) (Nat.le_of_ble_eq_true rfl) (fun h5 e_1 ff => ?_)
  replace e_0 := (ff _ ⟨by omega, trivial⟩).trans e_0
  replace fr := rx_frt fr ff (fun a ha => ⟨by have := ha.1; dsimp only at this ⊢; omega, trivial⟩)
  refine rx_putfF2 C f_X6_9 t_X6_0 ⟨_, _, rfl⟩ hname dX6_init_10 e_0 (Nat.le_of_ble_eq_true rfl) rfl rfl (fs2 := [.ref (q + 1), .int 0, .int 0, .int 0, .int 0, .int 0, .int 0, .int 0, .int 0]) rfl (fun h6 e9 ff => ?_)
  replace e_0 := e9
  replace e_1 := (ff _ ⟨by omega, trivial⟩).trans e_1
  replace fr := rx_frt fr ff (fun a ha => ⟨by have := ha.1; dsimp only at this ⊢; omega, trivial⟩)
  refine rx_aload_n C dX6_init_13 0 rfl ?_
  refine rx_iconst C dX6_init_14 (-1 : Int32) (by decide) ?_
  refine rx_putf2 C f_X6_15 t_X6_8 dX6_init_15 e_0 (Nat.le_of_ble_eq_true rfl) rfl rfl (fs2 := [.ref (q + 1), .int 0, .int 0, .int 0, .int 0, .int 0, .int 0, .int 0, .int (-1 : Int32)]) rfl (fun h9 e9 ff => ?_)
  replace e_0 := e9
  replace e_1 := (ff _ ⟨by omega, trivial⟩).trans e_1
  replace fr := rx_frt fr ff (fun a ha => ⟨by have := ha.1; dsimp only at this ⊢; omega, trivial⟩)
  exact rx_vret C dX6_init_18 (Nat.le_of_ble_eq_true rfl) (Nat.le_of_ble_eq_true rfl) ⟨rfl, ⟨e_0, e_1⟩, fr⟩
set_option maxRecDepth 100000 in
set_option maxHeartbeats 4000000 in
theorem w_X4_init {q : Nat} (e_0 : h q = some (.inr (3, [.null, .null, .null, .int 0]))) : Met l yX4_init (rx_ws yX4_init cX4_init 1 none) (rx_rmX 1 16 3 60) (va_Pc [.ref q] (rx_G G k h (q + 1))) (va_Qv (fun u => u.2 = q + 4 ∧ bC k q obv0 u.1 ∧ rx_fr [(q, 4)] h u.1) (rx_B G k) (rx_A k)) 3 60 (rx_A k) := by
  refine rx_start [(0, .ref q)] rfl (Nat.le_of_ble_eq_true rfl) (by decide) rfl (fun P9 E9 S9 M9 A9 B9 me9 c9 C hname => ?_)
  replace hname : me9.name = "<init>" := hname
  have fr : rx_fr [(q, 4)] h h := rx_fr0
  refine rx_aload_n C dX4_init_0 0 rfl ?_
  refine rx_objI C mo_X4 dX4_init_1 (Nat.le_of_ble_eq_true rfl) (Nat.le_of_ble_eq_true rfl) ?_
  refine rx_aload_n C dX4_init_4 0 rfl ?_
  refine rx_bipush C dX4_init_5 (20 : Int32) (by decide) ?_
  refine rx_newq2 C 20 4 3 (Cn := RX7) rfl cl_X4_9 C.2.2.2.2.2.2.2.1.2.2.2 dX4_init_7 (by decide) (by decide) (by decide) (Nat.le_of_ble_eq_true rfl) (Nat.le_of_ble_eq_true rfl) (fun h5 e_1 ff => ?_)
  replace e_0 := (ff _ ⟨by omega, trivial⟩).trans e_0
  replace fr := rx_frt fr ff (fun a ha => ⟨by have := ha.1; dsimp only at this ⊢; omega, trivial⟩)
  refine rx_putfF2 C f_X4_11 t_X4_0 ⟨_, _, rfl⟩ hname dX4_init_10 e_0 (Nat.le_of_ble_eq_true rfl) rfl rfl (fs2 := [.ref (q + 1), .null, .null, .int 0]) rfl (fun h6 e9 ff => ?_)
  replace e_0 := e9
  replace e_1 := (ff _ ⟨by omega, trivial⟩).trans e_1
  replace fr := rx_frt fr ff (fun a ha => ⟨by have := ha.1; dsimp only at this ⊢; omega, trivial⟩)
  refine rx_aload_n C dX4_init_13 0 rfl ?_
  refine rx_bipush C dX4_init_14 (20 : Int32) (by decide) ?_
  refine rx_newi2 C 20 dX4_init_16 (by decide) (by decide) (by decide) (Nat.le_of_ble_eq_true rfl) (Nat.le_of_ble_eq_true rfl) (fun h9 e_2 ff => ?_)
  replace e_0 := (ff _ ⟨by omega, trivial⟩).trans e_0
  replace e_1 := (ff _ ⟨by omega, trivial⟩).trans e_1
  replace fr := rx_frt fr ff (fun a ha => ⟨by have := ha.1; dsimp only at this ⊢; omega, trivial⟩)
  refine rx_putfF2 C f_X4_17 t_X4_1 ⟨_, _, rfl⟩ hname dX4_init_18 e_0 (Nat.le_of_ble_eq_true rfl) rfl rfl (fs2 := [.ref (q + 1), .ref (q + 2), .null, .int 0]) rfl (fun h10 e9 ff => ?_)
  replace e_0 := e9
  replace e_1 := (ff _ ⟨by omega, trivial⟩).trans e_1
  replace e_2 := (ff _ ⟨by omega, trivial⟩).trans e_2
  replace fr := rx_frt fr ff (fun a ha => ⟨by have := ha.1; dsimp only at this ⊢; omega, trivial⟩)
  refine rx_aload_n C dX4_init_21 0 rfl ?_
  refine rx_bipush C dX4_init_22 (20 : Int32) (by decide) ?_
  refine rx_newi2 C 20 dX4_init_24 (by decide) (by decide) (by decide) (Nat.le_of_ble_eq_true rfl) (Nat.le_of_ble_eq_true rfl) (fun h13 e_3 ff => ?_)
  replace e_0 := (ff _ ⟨by omega, trivial⟩).trans e_0
  replace e_1 := (ff _ ⟨by omega, trivial⟩).trans e_1
  replace e_2 := (ff _ ⟨by omega, trivial⟩).trans e_2
  replace fr := rx_frt fr ff (fun a ha => ⟨by have := ha.1; dsimp only at this ⊢; omega, trivial⟩)
  refine rx_putfF2 C f_X4_21 t_X4_2 ⟨_, _, rfl⟩ hname dX4_init_26 e_0 (Nat.le_of_ble_eq_true rfl) rfl rfl (fs2 := [.ref (q + 1), .ref (q + 2), .ref (q + 3), .int 0]) rfl (fun h14 e9 ff => ?_)
  replace e_0 := e9
  replace e_1 := (ff _ ⟨by omega, trivial⟩).trans e_1
  replace e_2 := (ff _ ⟨by omega, trivial⟩).trans e_2
  replace e_3 := (ff _ ⟨by omega, trivial⟩).trans e_3
  replace fr := rx_frt fr ff (fun a ha => ⟨by have := ha.1; dsimp only at this ⊢; omega, trivial⟩)
  exact rx_vret C dX4_init_29 (Nat.le_of_ble_eq_true rfl) (Nat.le_of_ble_eq_true rfl) ⟨rfl, ⟨e_0, e_1, e_2, e_3, fun j z hz => by cases hz⟩, fr⟩
set_option maxRecDepth 100000 in
set_option maxHeartbeats 4000000 in
theorem w_X2_init {q g : Nat} (e_0 : h q = some (.inr (1, [.null, .int 0, .int 0, .int 0, .null, .null, .null, .null, .null, .null, .null, .null, .null, .null, .null]))) : Met l yX2_init (rx_ws yX2_init cX2_init 2 none) (rx_rmX 2 36 15 128) (va_Pc [.ref q, .ref g] (rx_G G k h (q + 1))) (va_Qv (fun u => u.2 = q + 16 ∧ bP k q g ob0 u.1 ∧ bQ k (q + 10) ob0 u.1 ∧ bQ k (q + 13) ob0 u.1 ∧ rx_fr [(q, 16)] h u.1) (rx_B G k) (rx_A k)) 15 128 (rx_A k) := by
  refine rx_start [(0, .ref q), (1, .ref g)] rfl (Nat.le_of_ble_eq_true rfl) (by decide) rfl (fun P9 E9 S9 M9 A9 B9 me9 c9 C hname => ?_)
  replace hname : me9.name = "<init>" := hname
  have fr : rx_fr [(q, 16)] h h := rx_fr0
  refine rx_aload_n C dX2_init_0 0 rfl ?_
  refine rx_objI C mo_X2 dX2_init_1 (Nat.le_of_ble_eq_true rfl) (Nat.le_of_ble_eq_true rfl) ?_
  refine rx_aload_n C dX2_init_4 0 rfl ?_
  refine rx_iconst C dX2_init_5 (2 : Int32) (by decide) ?_
  refine rx_newi2 C 2 dX2_init_6 (by decide) (by decide) (by decide) (Nat.le_of_ble_eq_true rfl) (Nat.le_of_ble_eq_true rfl) (fun h5 e_1 ff => ?_)
  replace e_0 := (ff _ ⟨by omega, trivial⟩).trans e_0
  replace fr := rx_frt fr ff (fun a ha => ⟨by have := ha.1; dsimp only at this ⊢; omega, trivial⟩)
  refine rx_putfF2 C f_X2_9 t_X2_4 ⟨_, _, rfl⟩ hname dX2_init_8 e_0 (Nat.le_of_ble_eq_true rfl) rfl rfl (fs2 := [.null, .int 0, .int 0, .int 0, .ref (q + 1), .null, .null, .null, .null, .null, .null, .null, .null, .null, .null]) rfl (fun h6 e9 ff => ?_)
  replace e_0 := e9
  replace e_1 := (ff _ ⟨by omega, trivial⟩).trans e_1
  replace fr := rx_frt fr ff (fun a ha => ⟨by have := ha.1; dsimp only at this ⊢; omega, trivial⟩)
  refine rx_aload_n C dX2_init_11 0 rfl ?_
  refine rx_bipush C dX2_init_12 (10 : Int32) (by decide) ?_
  refine rx_newi2 C 10 dX2_init_14 (by decide) (by decide) (by decide) (Nat.le_of_ble_eq_true rfl) (Nat.le_of_ble_eq_true rfl) (fun h9 e_2 ff => ?_)
  replace e_0 := (ff _ ⟨by omega, trivial⟩).trans e_0
  replace e_1 := (ff _ ⟨by omega, trivial⟩).trans e_1
  replace fr := rx_frt fr ff (fun a ha => ⟨by have := ha.1; dsimp only at this ⊢; omega, trivial⟩)
  refine rx_putfF2 C f_X2_15 t_X2_5 ⟨_, _, rfl⟩ hname dX2_init_16 e_0 (Nat.le_of_ble_eq_true rfl) rfl rfl (fs2 := [.null, .int 0, .int 0, .int 0, .ref (q + 1), .ref (q + 2), .null, .null, .null, .null, .null, .null, .null, .null, .null]) rfl (fun h10 e9 ff => ?_)
  replace e_0 := e9
  replace e_1 := (ff _ ⟨by omega, trivial⟩).trans e_1
  replace e_2 := (ff _ ⟨by omega, trivial⟩).trans e_2
  replace fr := rx_frt fr ff (fun a ha => ⟨by have := ha.1; dsimp only at this ⊢; omega, trivial⟩)
  refine rx_aload_n C dX2_init_19 0 rfl ?_
  refine rx_bipush C dX2_init_20 (10 : Int32) (by decide) ?_
  refine rx_newi2 C 10 dX2_init_22 (by decide) (by decide) (by decide) (Nat.le_of_ble_eq_true rfl) (Nat.le_of_ble_eq_true rfl) (fun h13 e_3 ff => ?_)
  replace e_0 := (ff _ ⟨by omega, trivial⟩).trans e_0
  replace e_1 := (ff _ ⟨by omega, trivial⟩).trans e_1
  replace e_2 := (ff _ ⟨by omega, trivial⟩).trans e_2
  replace fr := rx_frt fr ff (fun a ha => ⟨by have := ha.1; dsimp only at this ⊢; omega, trivial⟩)
  refine rx_putfF2 C f_X2_18 t_X2_6 ⟨_, _, rfl⟩ hname dX2_init_24 e_0 (Nat.le_of_ble_eq_true rfl) rfl rfl (fs2 := [.null, .int 0, .int 0, .int 0, .ref (q + 1), .ref (q + 2), .ref (q + 3), .null, .null, .null, .null, .null, .null, .null, .null]) rfl (fun h14 e9 ff => ?_)
  replace e_0 := e9
  replace e_1 := (ff _ ⟨by omega, trivial⟩).trans e_1
  replace e_2 := (ff _ ⟨by omega, trivial⟩).trans e_2
  replace e_3 := (ff _ ⟨by omega, trivial⟩).trans e_3
  replace fr := rx_frt fr ff (fun a ha => ⟨by have := ha.1; dsimp only at this ⊢; omega, trivial⟩)
  refine rx_aload_n C dX2_init_27 0 rfl ?_
  refine rx_bipush C dX2_init_28 (10 : Int32) (by decide) ?_
  refine rx_newi2 C 10 dX2_init_30 (by decide) (by decide) (by decide) (Nat.le_of_ble_eq_true rfl) (Nat.le_of_ble_eq_true rfl) (fun h17 e_4 ff => ?_)
  replace e_0 := (ff _ ⟨by omega, trivial⟩).trans e_0
  replace e_1 := (ff _ ⟨by omega, trivial⟩).trans e_1
  replace e_2 := (ff _ ⟨by omega, trivial⟩).trans e_2
  replace e_3 := (ff _ ⟨by omega, trivial⟩).trans e_3
  replace fr := rx_frt fr ff (fun a ha => ⟨by have := ha.1; dsimp only at this ⊢; omega, trivial⟩)
  refine rx_putfF2 C f_X2_21 t_X2_7 ⟨_, _, rfl⟩ hname dX2_init_32 e_0 (Nat.le_of_ble_eq_true rfl) rfl rfl (fs2 := [.null, .int 0, .int 0, .int 0, .ref (q + 1), .ref (q + 2), .ref (q + 3), .ref (q + 4), .null, .null, .null, .null, .null, .null, .null]) rfl (fun h18 e9 ff => ?_)
  replace e_0 := e9
  replace e_1 := (ff _ ⟨by omega, trivial⟩).trans e_1
  replace e_2 := (ff _ ⟨by omega, trivial⟩).trans e_2
  replace e_3 := (ff _ ⟨by omega, trivial⟩).trans e_3
  replace e_4 := (ff _ ⟨by omega, trivial⟩).trans e_4
  replace fr := rx_frt fr ff (fun a ha => ⟨by have := ha.1; dsimp only at this ⊢; omega, trivial⟩)
  refine rx_aload_n C dX2_init_35 0 rfl ?_
  refine rx_bipush C dX2_init_36 (10 : Int32) (by decide) ?_
  refine rx_newi2 C 10 dX2_init_38 (by decide) (by decide) (by decide) (Nat.le_of_ble_eq_true rfl) (Nat.le_of_ble_eq_true rfl) (fun h21 e_5 ff => ?_)
  replace e_0 := (ff _ ⟨by omega, trivial⟩).trans e_0
  replace e_1 := (ff _ ⟨by omega, trivial⟩).trans e_1
  replace e_2 := (ff _ ⟨by omega, trivial⟩).trans e_2
  replace e_3 := (ff _ ⟨by omega, trivial⟩).trans e_3
  replace e_4 := (ff _ ⟨by omega, trivial⟩).trans e_4
  replace fr := rx_frt fr ff (fun a ha => ⟨by have := ha.1; dsimp only at this ⊢; omega, trivial⟩)
  refine rx_putfF2 C f_X2_24 t_X2_8 ⟨_, _, rfl⟩ hname dX2_init_40 e_0 (Nat.le_of_ble_eq_true rfl) rfl rfl (fs2 := [.null, .int 0, .int 0, .int 0, .ref (q + 1), .ref (q + 2), .ref (q + 3), .ref (q + 4), .ref (q + 5), .null, .null, .null, .null, .null, .null]) rfl (fun h22 e9 ff => ?_)
  replace e_0 := e9
  replace e_1 := (ff _ ⟨by omega, trivial⟩).trans e_1
  replace e_2 := (ff _ ⟨by omega, trivial⟩).trans e_2
  replace e_3 := (ff _ ⟨by omega, trivial⟩).trans e_3
  replace e_4 := (ff _ ⟨by omega, trivial⟩).trans e_4
  replace e_5 := (ff _ ⟨by omega, trivial⟩).trans e_5
  replace fr := rx_frt fr ff (fun a ha => ⟨by have := ha.1; dsimp only at this ⊢; omega, trivial⟩)
  refine rx_aload_n C dX2_init_43 0 rfl ?_
  refine rx_bipush C dX2_init_44 (10 : Int32) (by decide) ?_
  refine rx_newi2 C 10 dX2_init_46 (by decide) (by decide) (by decide) (Nat.le_of_ble_eq_true rfl) (Nat.le_of_ble_eq_true rfl) (fun h25 e_6 ff => ?_)
  replace e_0 := (ff _ ⟨by omega, trivial⟩).trans e_0
  replace e_1 := (ff _ ⟨by omega, trivial⟩).trans e_1
  replace e_2 := (ff _ ⟨by omega, trivial⟩).trans e_2
  replace e_3 := (ff _ ⟨by omega, trivial⟩).trans e_3
  replace e_4 := (ff _ ⟨by omega, trivial⟩).trans e_4
  replace e_5 := (ff _ ⟨by omega, trivial⟩).trans e_5
  replace fr := rx_frt fr ff (fun a ha => ⟨by have := ha.1; dsimp only at this ⊢; omega, trivial⟩)
  refine rx_putfF2 C f_X2_27 t_X2_9 ⟨_, _, rfl⟩ hname dX2_init_48 e_0 (Nat.le_of_ble_eq_true rfl) rfl rfl (fs2 := [.null, .int 0, .int 0, .int 0, .ref (q + 1), .ref (q + 2), .ref (q + 3), .ref (q + 4), .ref (q + 5), .ref (q + 6), .null, .null, .null, .null, .null]) rfl (fun h26 e9 ff => ?_)
  replace e_0 := e9
  replace e_1 := (ff _ ⟨by omega, trivial⟩).trans e_1
  replace e_2 := (ff _ ⟨by omega, trivial⟩).trans e_2
  replace e_3 := (ff _ ⟨by omega, trivial⟩).trans e_3
  replace e_4 := (ff _ ⟨by omega, trivial⟩).trans e_4
  replace e_5 := (ff _ ⟨by omega, trivial⟩).trans e_5
  replace e_6 := (ff _ ⟨by omega, trivial⟩).trans e_6
  replace fr := rx_frt fr ff (fun a ha => ⟨by have := ha.1; dsimp only at this ⊢; omega, trivial⟩)
  refine rx_aload_n C dX2_init_51 0 rfl ?_
  refine rx_bipush C dX2_init_52 (10 : Int32) (by decide) ?_
  refine rx_newi2 C 10 dX2_init_54 (by decide) (by decide) (by decide) (Nat.le_of_ble_eq_true rfl) (Nat.le_of_ble_eq_true rfl) (fun h29 e_7 ff => ?_)
  replace e_0 := (ff _ ⟨by omega, trivial⟩).trans e_0
  replace e_1 := (ff _ ⟨by omega, trivial⟩).trans e_1
  replace e_2 := (ff _ ⟨by omega, trivial⟩).trans e_2
  replace e_3 := (ff _ ⟨by omega, trivial⟩).trans e_3
  replace e_4 := (ff _ ⟨by omega, trivial⟩).trans e_4
  replace e_5 := (ff _ ⟨by omega, trivial⟩).trans e_5
  replace e_6 := (ff _ ⟨by omega, trivial⟩).trans e_6
  replace fr := rx_frt fr ff (fun a ha => ⟨by have := ha.1; dsimp only at this ⊢; omega, trivial⟩)
  refine rx_putfF2 C f_X2_30 t_X2_10 ⟨_, _, rfl⟩ hname dX2_init_56 e_0 (Nat.le_of_ble_eq_true rfl) rfl rfl (fs2 := [.null, .int 0, .int 0, .int 0, .ref (q + 1), .ref (q + 2), .ref (q + 3), .ref (q + 4), .ref (q + 5), .ref (q + 6), .ref (q + 7), .null, .null, .null, .null]) rfl (fun h30 e9 ff => ?_)
  replace e_0 := e9
  replace e_1 := (ff _ ⟨by omega, trivial⟩).trans e_1
  replace e_2 := (ff _ ⟨by omega, trivial⟩).trans e_2
  replace e_3 := (ff _ ⟨by omega, trivial⟩).trans e_3
  replace e_4 := (ff _ ⟨by omega, trivial⟩).trans e_4
  replace e_5 := (ff _ ⟨by omega, trivial⟩).trans e_5
  replace e_6 := (ff _ ⟨by omega, trivial⟩).trans e_6
  replace e_7 := (ff _ ⟨by omega, trivial⟩).trans e_7
  replace fr := rx_frt fr ff (fun a ha => ⟨by have := ha.1; dsimp only at this ⊢; omega, trivial⟩)
  refine rx_aload_n C dX2_init_59 0 rfl ?_
  refine rx_bipush C dX2_init_60 (10 : Int32) (by decide) ?_
  refine rx_newi2 C 10 dX2_init_62 (by decide) (by decide) (by decide) (Nat.le_of_ble_eq_true rfl) (Nat.le_of_ble_eq_true rfl) (fun h33 e_8 ff => ?_)
  replace e_0 := (ff _ ⟨by omega, trivial⟩).trans e_0
  replace e_1 := (ff _ ⟨by omega, trivial⟩).trans e_1
  replace e_2 := (ff _ ⟨by omega, trivial⟩).trans e_2
  replace e_3 := (ff _ ⟨by omega, trivial⟩).trans e_3
  replace e_4 := (ff _ ⟨by omega, trivial⟩).trans e_4
  replace e_5 := (ff _ ⟨by omega, trivial⟩).trans e_5
  replace e_6 := (ff _ ⟨by omega, trivial⟩).trans e_6
  replace e_7 := (ff _ ⟨by omega, trivial⟩).trans e_7
  replace fr := rx_frt fr ff (fun a ha => ⟨by have := ha.1; dsimp only at this ⊢; omega, trivial⟩)
  refine rx_putfF2 C f_X2_33 t_X2_11 ⟨_, _, rfl⟩ hname dX2_init_64 e_0 (Nat.le_of_ble_eq_true rfl) rfl rfl (fs2 := [.null, .int 0, .int 0, .int 0, .ref (q + 1), .ref (q + 2), .ref (q + 3), .ref (q + 4), .ref (q + 5), .ref (q + 6), .ref (q + 7), .ref (q + 8), .null, .null, .null]) rfl (fun h34 e9 ff => ?_)
  replace e_0 := e9
  replace e_1 := (ff _ ⟨by omega, trivial⟩).trans e_1
  replace e_2 := (ff _ ⟨by omega, trivial⟩).trans e_2
  replace e_3 := (ff _ ⟨by omega, trivial⟩).trans e_3
  replace e_4 := (ff _ ⟨by omega, trivial⟩).trans e_4
  replace e_5 := (ff _ ⟨by omega, trivial⟩).trans e_5
  replace e_6 := (ff _ ⟨by omega, trivial⟩).trans e_6
  replace e_7 := (ff _ ⟨by omega, trivial⟩).trans e_7
  replace e_8 := (ff _ ⟨by omega, trivial⟩).trans e_8
  replace fr := rx_frt fr ff (fun a ha => ⟨by have := ha.1; dsimp only at this ⊢; omega, trivial⟩)
  refine rx_aload_n C dX2_init_67 0 rfl ?_
  refine rx_bipush C dX2_init_68 (10 : Int32) (by decide) ?_
  refine rx_newi2 C 10 dX2_init_70 (by decide) (by decide) (by decide) (Nat.le_of_ble_eq_true rfl) (Nat.le_of_ble_eq_true rfl) (fun h37 e_9 ff => ?_)
  replace e_0 := (ff _ ⟨by omega, trivial⟩).trans e_0
  replace e_1 := (ff _ ⟨by omega, trivial⟩).trans e_1
  replace e_2 := (ff _ ⟨by omega, trivial⟩).trans e_2
  replace e_3 := (ff _ ⟨by omega, trivial⟩).trans e_3
  replace e_4 := (ff _ ⟨by omega, trivial⟩).trans e_4
  replace e_5 := (ff _ ⟨by omega, trivial⟩).trans e_5
  replace e_6 := (ff _ ⟨by omega, trivial⟩).trans e_6
  replace e_7 := (ff _ ⟨by omega, trivial⟩).trans e_7
  replace e_8 := (ff _ ⟨by omega, trivial⟩).trans e_8
  replace fr := rx_frt fr ff (fun a ha => ⟨by have := ha.1; dsimp only at this ⊢; omega, trivial⟩)
  refine rx_putfF2 C f_X2_36 t_X2_12 ⟨_, _, rfl⟩ hname dX2_init_72 e_0 (Nat.le_of_ble_eq_true rfl) rfl rfl (fs2 := [.null, .int 0, .int 0, .int 0, .ref (q + 1), .ref (q + 2), .ref (q + 3), .ref (q + 4), .ref (q + 5), .ref (q + 6), .ref (q + 7), .ref (q + 8), .ref (q + 9), .null, .null]) rfl (fun h38 e9 ff => ?_)
  replace e_0 := e9
  replace e_1 := (ff _ ⟨by omega, trivial⟩).trans e_1
  replace e_2 := (ff _ ⟨by omega, trivial⟩).trans e_2
  replace e_3 := (ff _ ⟨by omega, trivial⟩).trans e_3
  replace e_4 := (ff _ ⟨by omega, trivial⟩).trans e_4
  replace e_5 := (ff _ ⟨by omega, trivial⟩).trans e_5
  replace e_6 := (ff _ ⟨by omega, trivial⟩).trans e_6
  replace e_7 := (ff _ ⟨by omega, trivial⟩).trans e_7
  replace e_8 := (ff _ ⟨by omega, trivial⟩).trans e_8
  replace e_9 := (ff _ ⟨by omega, trivial⟩).trans e_9
  replace fr := rx_frt fr ff (fun a ha => ⟨by have := ha.1; dsimp only at this ⊢; omega, trivial⟩)
  refine rx_aload_n C dX2_init_75 0 rfl ?_
  refine rx_new2 C N_X2_39 dX2_init_76 (Nat.le_of_ble_eq_true rfl) (Nat.le_of_ble_eq_true rfl) (fun h40 e_10 ff => ?_)
  replace e_0 := (ff _ ⟨by omega, trivial⟩).trans e_0
  replace e_1 := (ff _ ⟨by omega, trivial⟩).trans e_1
  replace e_2 := (ff _ ⟨by omega, trivial⟩).trans e_2
  replace e_3 := (ff _ ⟨by omega, trivial⟩).trans e_3
  replace e_4 := (ff _ ⟨by omega, trivial⟩).trans e_4
  replace e_5 := (ff _ ⟨by omega, trivial⟩).trans e_5
  replace e_6 := (ff _ ⟨by omega, trivial⟩).trans e_6
  replace e_7 := (ff _ ⟨by omega, trivial⟩).trans e_7
  replace e_8 := (ff _ ⟨by omega, trivial⟩).trans e_8
  replace e_9 := (ff _ ⟨by omega, trivial⟩).trans e_9
  replace fr := rx_frt fr ff (fun a ha => ⟨by have := ha.1; dsimp only at this ⊢; omega, trivial⟩)
  refine rx_dup C dX2_init_79 rfl ?_
  refine rx_cv (rx_rIN C (w_X3_init (q := q + 10) e_10) Y_X3_init I_X3_init rfl m_X2_41 ⟨⟨rfl, rfl⟩, ⟨(Nat.le_of_ble_eq_true rfl), (Nat.le_of_ble_eq_true rfl)⟩, ⟨(Nat.le_of_ble_eq_true rfl), (Nat.le_of_ble_eq_true rfl)⟩⟩ rfl rfl (Nat.le_of_ble_eq_true rfl) dX2_init_80) (fun h42 n1 hpp => ?_)
  obtain ⟨hn, b_10, ff⟩ := hpp
  replace hn : q + 13 = n1 := Eq.symm hn
  subst hn
  replace ff : rx_fr [(q + 10, 3)] _ h42 := ff
  replace e_0 := (ff _ ⟨by omega, trivial⟩).trans e_0
  replace e_1 := (ff _ ⟨by omega, trivial⟩).trans e_1
  replace e_2 := (ff _ ⟨by omega, trivial⟩).trans e_2
  replace e_3 := (ff _ ⟨by omega, trivial⟩).trans e_3
  replace e_4 := (ff _ ⟨by omega, trivial⟩).trans e_4
  replace e_5 := (ff _ ⟨by omega, trivial⟩).trans e_5
  replace e_6 := (ff _ ⟨by omega, trivial⟩).trans e_6
  replace e_7 := (ff _ ⟨by omega, trivial⟩).trans e_7
  replace e_8 := (ff _ ⟨by omega, trivial⟩).trans e_8
  replace e_9 := (ff _ ⟨by omega, trivial⟩).trans e_9
  replace fr := rx_frt fr ff (fun a ha => ⟨by have := ha.1; dsimp only at this ⊢; omega, trivial⟩)
  clear e_10
  refine rx_putfF2 C f_X2_42 t_X2_13 ⟨_, _, rfl⟩ hname dX2_init_83 e_0 (Nat.le_of_ble_eq_true rfl) rfl rfl (fs2 := [.null, .int 0, .int 0, .int 0, .ref (q + 1), .ref (q + 2), .ref (q + 3), .ref (q + 4), .ref (q + 5), .ref (q + 6), .ref (q + 7), .ref (q + 8), .ref (q + 9), .ref (q + 10), .null]) rfl (fun h43 e9 ff => ?_)
  replace e_0 := e9
  replace e_1 := (ff _ ⟨by omega, trivial⟩).trans e_1
  replace e_2 := (ff _ ⟨by omega, trivial⟩).trans e_2
  replace e_3 := (ff _ ⟨by omega, trivial⟩).trans e_3
  replace e_4 := (ff _ ⟨by omega, trivial⟩).trans e_4
  replace e_5 := (ff _ ⟨by omega, trivial⟩).trans e_5
  replace e_6 := (ff _ ⟨by omega, trivial⟩).trans e_6
  replace e_7 := (ff _ ⟨by omega, trivial⟩).trans e_7
  replace e_8 := (ff _ ⟨by omega, trivial⟩).trans e_8
  replace e_9 := (ff _ ⟨by omega, trivial⟩).trans e_9
  replace b_10 := b_10.keep ff ⟨by omega, trivial⟩
  replace fr := rx_frt fr ff (fun a ha => ⟨by have := ha.1; dsimp only at this ⊢; omega, trivial⟩)
  refine rx_aload_n C dX2_init_86 0 rfl ?_
  refine rx_new2 C N_X2_39 dX2_init_87 (Nat.le_of_ble_eq_true rfl) (Nat.le_of_ble_eq_true rfl) (fun h45 e_13 ff => ?_)
  replace e_0 := (ff _ ⟨by omega, trivial⟩).trans e_0
  replace e_1 := (ff _ ⟨by omega, trivial⟩).trans e_1
  replace e_2 := (ff _ ⟨by omega, trivial⟩).trans e_2
  replace e_3 := (ff _ ⟨by omega, trivial⟩).trans e_3
  replace e_4 := (ff _ ⟨by omega, trivial⟩).trans e_4
  replace e_5 := (ff _ ⟨by omega, trivial⟩).trans e_5
  replace e_6 := (ff _ ⟨by omega, trivial⟩).trans e_6
  replace e_7 := (ff _ ⟨by omega, trivial⟩).trans e_7
  replace e_8 := (ff _ ⟨by omega, trivial⟩).trans e_8
  replace e_9 := (ff _ ⟨by omega, trivial⟩).trans e_9
  replace b_10 := b_10.keep ff ⟨by omega, trivial⟩
  replace fr := rx_frt fr ff (fun a ha => ⟨by have := ha.1; dsimp only at this ⊢; omega, trivial⟩)
  refine rx_dup C dX2_init_90 rfl ?_
  refine rx_cv (rx_rIN C (w_X3_init (q := q + 13) e_13) Y_X3_init I_X3_init rfl m_X2_41 ⟨⟨rfl, rfl⟩, ⟨(Nat.le_of_ble_eq_true rfl), (Nat.le_of_ble_eq_true rfl)⟩, ⟨(Nat.le_of_ble_eq_true rfl), (Nat.le_of_ble_eq_true rfl)⟩⟩ rfl rfl (Nat.le_of_ble_eq_true rfl) dX2_init_91) (fun h47 n1 hpp => ?_)
  obtain ⟨hn, b_13, ff⟩ := hpp
  replace hn : q + 16 = n1 := Eq.symm hn
  subst hn
  replace ff : rx_fr [(q + 13, 3)] _ h47 := ff
  replace e_0 := (ff _ ⟨by omega, trivial⟩).trans e_0
  replace e_1 := (ff _ ⟨by omega, trivial⟩).trans e_1
  replace e_2 := (ff _ ⟨by omega, trivial⟩).trans e_2
  replace e_3 := (ff _ ⟨by omega, trivial⟩).trans e_3
  replace e_4 := (ff _ ⟨by omega, trivial⟩).trans e_4
  replace e_5 := (ff _ ⟨by omega, trivial⟩).trans e_5
  replace e_6 := (ff _ ⟨by omega, trivial⟩).trans e_6
  replace e_7 := (ff _ ⟨by omega, trivial⟩).trans e_7
  replace e_8 := (ff _ ⟨by omega, trivial⟩).trans e_8
  replace e_9 := (ff _ ⟨by omega, trivial⟩).trans e_9
  replace b_10 := b_10.keep ff ⟨by omega, trivial⟩
  replace fr := rx_frt fr ff (fun a ha => ⟨by have := ha.1; dsimp only at this ⊢; omega, trivial⟩)
  clear e_13
  refine rx_putfF2 C f_X2_46 t_X2_14 ⟨_, _, rfl⟩ hname dX2_init_94 e_0 (Nat.le_of_ble_eq_true rfl) rfl rfl (fs2 := [.null, .int 0, .int 0, .int 0, .ref (q + 1), .ref (q + 2), .ref (q + 3), .ref (q + 4), .ref (q + 5), .ref (q + 6), .ref (q + 7), .ref (q + 8), .ref (q + 9), .ref (q + 10), .ref (q + 13)]) rfl (fun h48 e9 ff => ?_)
  replace e_0 := e9
  replace e_1 := (ff _ ⟨by omega, trivial⟩).trans e_1
  replace e_2 := (ff _ ⟨by omega, trivial⟩).trans e_2
  replace e_3 := (ff _ ⟨by omega, trivial⟩).trans e_3
  replace e_4 := (ff _ ⟨by omega, trivial⟩).trans e_4
  replace e_5 := (ff _ ⟨by omega, trivial⟩).trans e_5
  replace e_6 := (ff _ ⟨by omega, trivial⟩).trans e_6
  replace e_7 := (ff _ ⟨by omega, trivial⟩).trans e_7
  replace e_8 := (ff _ ⟨by omega, trivial⟩).trans e_8
  replace e_9 := (ff _ ⟨by omega, trivial⟩).trans e_9
  replace b_10 := b_10.keep ff ⟨by omega, trivial⟩
  replace b_13 := b_13.keep ff ⟨by omega, trivial⟩
  replace fr := rx_frt fr ff (fun a ha => ⟨by have := ha.1; dsimp only at this ⊢; omega, trivial⟩)
  refine rx_aload_n C dX2_init_97 0 rfl ?_
  refine rx_aload_n C dX2_init_98 1 rfl ?_
  refine rx_putfF2 C f_X2_49 t_X2_0 ⟨_, _, rfl⟩ hname dX2_init_99 e_0 (Nat.le_of_ble_eq_true rfl) rfl rfl (fs2 := [.ref g, .int 0, .int 0, .int 0, .ref (q + 1), .ref (q + 2), .ref (q + 3), .ref (q + 4), .ref (q + 5), .ref (q + 6), .ref (q + 7), .ref (q + 8), .ref (q + 9), .ref (q + 10), .ref (q + 13)]) rfl (fun h51 e9 ff => ?_)
  replace e_0 := e9
  replace e_1 := (ff _ ⟨by omega, trivial⟩).trans e_1
  replace e_2 := (ff _ ⟨by omega, trivial⟩).trans e_2
  replace e_3 := (ff _ ⟨by omega, trivial⟩).trans e_3
  replace e_4 := (ff _ ⟨by omega, trivial⟩).trans e_4
  replace e_5 := (ff _ ⟨by omega, trivial⟩).trans e_5
  replace e_6 := (ff _ ⟨by omega, trivial⟩).trans e_6
  replace e_7 := (ff _ ⟨by omega, trivial⟩).trans e_7
  replace e_8 := (ff _ ⟨by omega, trivial⟩).trans e_8
  replace e_9 := (ff _ ⟨by omega, trivial⟩).trans e_9
  replace b_10 := b_10.keep ff ⟨by omega, trivial⟩
  replace b_13 := b_13.keep ff ⟨by omega, trivial⟩
  replace fr := rx_frt fr ff (fun a ha => ⟨by have := ha.1; dsimp only at this ⊢; omega, trivial⟩)
  exact rx_vret C dX2_init_102 (Nat.le_of_ble_eq_true rfl) (Nat.le_of_ble_eq_true rfl) ⟨rfl, ⟨e_0, e_1, e_2, e_3, e_4, e_5, e_6, e_7, e_8, e_9⟩, b_10, b_13, fr⟩
set_option maxRecDepth 100000 in
set_option maxHeartbeats 4000000 in
theorem w_X1_init {q g : Nat} (e_0 : h q = some (.inr (0, [.null, .int 0, .int 0]))) : Met l yX1_init (rx_ws yX1_init cX1_init 3 none) (rx_rmX 3 57 129 1152) (va_Pc [.ref q, .ref g] (rx_G G k h (q + 1))) (va_Qv (fun u => u.2 = q + 130 ∧ bHH k q g hst0 u.1 ∧ rx_fr [(q, 130)] h u.1) (rx_B G k) (rx_A k)) 129 1152 (rx_A k) := by
  refine rx_start [(0, .ref q), (1, .ref g)] rfl (Nat.le_of_ble_eq_true rfl) (by decide) rfl (fun P9 E9 S9 M9 A9 B9 me9 c9 C hname => ?_)
  replace hname : me9.name = "<init>" := hname
  have fr : rx_fr [(q, 130)] h h := rx_fr0
  refine rx_aload_n C dX1_init_0 0 rfl ?_
  refine rx_objI C mo_X1 dX1_init_1 (Nat.le_of_ble_eq_true rfl) (Nat.le_of_ble_eq_true rfl) ?_
  refine rx_aload_n C dX1_init_4 0 rfl ?_
  refine rx_bipush C dX1_init_5 (8 : Int32) (by decide) ?_
  refine rx_newq2 C 8 3 2 (Cn := RX2) rfl cl_X1_9 C.2.2.2.2.2.2.2.1.2.2.1 dX1_init_7 (by decide) (by decide) (by decide) (Nat.le_of_ble_eq_true rfl) (Nat.le_of_ble_eq_true rfl) (fun h5 e_1 ff => ?_)
  replace e_0 := (ff _ ⟨by omega, trivial⟩).trans e_0
  replace fr := rx_frt fr ff (fun a ha => ⟨by have := ha.1; dsimp only at this ⊢; omega, trivial⟩)
  refine rx_putfF2 C f_X1_11 t_X1_0 ⟨_, _, rfl⟩ hname dX1_init_10 e_0 (Nat.le_of_ble_eq_true rfl) rfl rfl (fs2 := [.ref (q + 1), .int 0, .int 0]) rfl (fun h6 e9 ff => ?_)
  replace e_0 := e9
  replace e_1 := (ff _ ⟨by omega, trivial⟩).trans e_1
  replace fr := rx_frt fr ff (fun a ha => ⟨by have := ha.1; dsimp only at this ⊢; omega, trivial⟩)
  refine rx_iconst C dX1_init_13 (0 : Int32) (by decide) ?_
  refine rx_istore_n C dX1_init_14 (by decide) [(2, .int (0 : Int32)), (0, .ref q), (1, .ref g)] rfl ?_
  refine rx_iload_n C dX1_init_15 0 rfl ?_
  refine rx_aload_n C dX1_init_16 1 rfl ?_
  refine rx_getf C f_X1_11 dX1_init_17 e_0 rfl ?_
  refine rx_alen C 2 rfl dX1_init_20 e_1 ?_
  refine rx_icmp_ge C dX1_init_21 44 (by decide) (fun c9 => absurd c9 (show ¬ (8 : Int32) ≤ 0 by decide)) (fun c9 => ?_)
  refine rx_aload_n C dX1_init_24 1 rfl ?_
  refine rx_getf C f_X1_11 dX1_init_25 e_0 rfl ?_
  refine rx_iload_n C dX1_init_28 0 rfl ?_
  refine rx_new2 C N_X1_9 dX1_init_29 (Nat.le_of_ble_eq_true rfl) (Nat.le_of_ble_eq_true rfl) (fun h17 e_2 ff => ?_)
  replace e_0 := (ff _ ⟨by omega, trivial⟩).trans e_0
  replace e_1 := (ff _ ⟨by omega, trivial⟩).trans e_1
  replace fr := rx_frt fr ff (fun a ha => ⟨by have := ha.1; dsimp only at this ⊢; omega, trivial⟩)
  refine rx_dup C dX1_init_32 rfl ?_
  refine rx_aload_n C dX1_init_33 2 rfl ?_
  refine rx_cv (rx_rIN C (w_X2_init (q := q + 2) (g := g) e_2) Y_X2_init I_X2_init rfl m_X1_17 ⟨⟨rfl, rfl⟩, ⟨(Nat.le_of_ble_eq_true rfl), (Nat.le_of_ble_eq_true rfl)⟩, ⟨(Nat.le_of_ble_eq_true rfl), (Nat.le_of_ble_eq_true rfl)⟩⟩ rfl rfl (Nat.le_of_ble_eq_true rfl) dX1_init_34) (fun h20 n1 hpp => ?_)
  obtain ⟨hn, b_2, b_12, b_15, ff⟩ := hpp
  replace hn : q + 18 = n1 := Eq.symm hn
  subst hn
  replace ff : rx_fr [(q + 2, 16)] _ h20 := ff
  replace e_0 := (ff _ ⟨by omega, trivial⟩).trans e_0
  replace e_1 := (ff _ ⟨by omega, trivial⟩).trans e_1
  replace fr := rx_frt fr ff (fun a ha => ⟨by have := ha.1; dsimp only at this ⊢; omega, trivial⟩)
  clear e_2
  refine rx_qastP2 C dX1_init_37 e_1 b_2.1 (rx_vin (by decide)) (fun h21 e9 ff => ?_)
  replace e_1 := e9
  replace e_0 := (ff _ ⟨by omega, trivial⟩).trans e_0
  replace b_2 := b_2.keep ff ⟨by omega, trivial⟩
  replace b_12 := b_12.keep ff ⟨by omega, trivial⟩
  replace b_15 := b_15.keep ff ⟨by omega, trivial⟩
  replace fr := rx_frt fr ff (fun a ha => ⟨by have := ha.1; dsimp only at this ⊢; omega, trivial⟩)
  refine rx_iinc C dX1_init_38 0 rfl (1 : Int32) (by decide) (by decide) [(2, .int (1 : Int32)), (0, .ref q), (1, .ref g)] rfl ?_
  refine rx_goto C dX1_init_41 15 (by decide) ?_
  refine rx_iload_n C dX1_init_15 0 rfl ?_
  refine rx_aload_n C dX1_init_16 1 rfl ?_
  refine rx_getf C f_X1_11 dX1_init_17 e_0 rfl ?_
  refine rx_alen C 2 rfl dX1_init_20 e_1 ?_
  refine rx_icmp_ge C dX1_init_21 44 (by decide) (fun c9 => absurd c9 (show ¬ (8 : Int32) ≤ 1 by decide)) (fun c9 => ?_)
  refine rx_aload_n C dX1_init_24 1 rfl ?_
  refine rx_getf C f_X1_11 dX1_init_25 e_0 rfl ?_
  refine rx_iload_n C dX1_init_28 0 rfl ?_
  refine rx_new2 C N_X1_9 dX1_init_29 (Nat.le_of_ble_eq_true rfl) (Nat.le_of_ble_eq_true rfl) (fun h32 e_18 ff => ?_)
  replace e_0 := (ff _ ⟨by omega, trivial⟩).trans e_0
  replace e_1 := (ff _ ⟨by omega, trivial⟩).trans e_1
  replace b_2 := b_2.keep ff ⟨by omega, trivial⟩
  replace b_12 := b_12.keep ff ⟨by omega, trivial⟩
  replace b_15 := b_15.keep ff ⟨by omega, trivial⟩
  replace fr := rx_frt fr ff (fun a ha => ⟨by have := ha.1; dsimp only at this ⊢; omega, trivial⟩)
  refine rx_dup C dX1_init_32 rfl ?_
  refine rx_aload_n C dX1_init_33 2 rfl ?_
  refine rx_cv (rx_rIN C (w_X2_init (q := q + 18) (g := g) e_18) Y_X2_init I_X2_init rfl m_X1_17 ⟨⟨rfl, rfl⟩, ⟨(Nat.le_of_ble_eq_true rfl), (Nat.le_of_ble_eq_true rfl)⟩, ⟨(Nat.le_of_ble_eq_true rfl), (Nat.le_of_ble_eq_true rfl)⟩⟩ rfl rfl (Nat.le_of_ble_eq_true rfl) dX1_init_34) (fun h35 n1 hpp => ?_)
  obtain ⟨hn, b_18, b_28, b_31, ff⟩ := hpp
  replace hn : q + 34 = n1 := Eq.symm hn
  subst hn
  replace ff : rx_fr [(q + 18, 16)] _ h35 := ff
  replace e_0 := (ff _ ⟨by omega, trivial⟩).trans e_0
  replace e_1 := (ff _ ⟨by omega, trivial⟩).trans e_1
  replace b_2 := b_2.keep ff ⟨by omega, trivial⟩
  replace b_12 := b_12.keep ff ⟨by omega, trivial⟩
  replace b_15 := b_15.keep ff ⟨by omega, trivial⟩
  replace fr := rx_frt fr ff (fun a ha => ⟨by have := ha.1; dsimp only at this ⊢; omega, trivial⟩)
  clear e_18
  refine rx_qastP2 C dX1_init_37 e_1 b_18.1 (rx_vin (by decide)) (fun h36 e9 ff => ?_)
  replace e_1 := e9
  replace e_0 := (ff _ ⟨by omega, trivial⟩).trans e_0
  replace b_2 := b_2.keep ff ⟨by omega, trivial⟩
  replace b_12 := b_12.keep ff ⟨by omega, trivial⟩
  replace b_15 := b_15.keep ff ⟨by omega, trivial⟩
  replace b_18 := b_18.keep ff ⟨by omega, trivial⟩
  replace b_28 := b_28.keep ff ⟨by omega, trivial⟩
  replace b_31 := b_31.keep ff ⟨by omega, trivial⟩
  replace fr := rx_frt fr ff (fun a ha => ⟨by have := ha.1; dsimp only at this ⊢; omega, trivial⟩)
  refine rx_iinc C dX1_init_38 0 rfl (2 : Int32) (by decide) (by decide) [(2, .int (2 : Int32)), (0, .ref q), (1, .ref g)] rfl ?_
  refine rx_goto C dX1_init_41 15 (by decide) ?_
  refine rx_iload_n C dX1_init_15 0 rfl ?_
  refine rx_aload_n C dX1_init_16 1 rfl ?_
  refine rx_getf C f_X1_11 dX1_init_17 e_0 rfl ?_
  refine rx_alen C 2 rfl dX1_init_20 e_1 ?_
  refine rx_icmp_ge C dX1_init_21 44 (by decide) (fun c9 => absurd c9 (show ¬ (8 : Int32) ≤ 2 by decide)) (fun c9 => ?_)
  refine rx_aload_n C dX1_init_24 1 rfl ?_
  refine rx_getf C f_X1_11 dX1_init_25 e_0 rfl ?_
  refine rx_iload_n C dX1_init_28 0 rfl ?_
  refine rx_new2 C N_X1_9 dX1_init_29 (Nat.le_of_ble_eq_true rfl) (Nat.le_of_ble_eq_true rfl) (fun h47 e_34 ff => ?_)
  replace e_0 := (ff _ ⟨by omega, trivial⟩).trans e_0
  replace e_1 := (ff _ ⟨by omega, trivial⟩).trans e_1
  replace b_2 := b_2.keep ff ⟨by omega, trivial⟩
  replace b_12 := b_12.keep ff ⟨by omega, trivial⟩
  replace b_15 := b_15.keep ff ⟨by omega, trivial⟩
  replace b_18 := b_18.keep ff ⟨by omega, trivial⟩
  replace b_28 := b_28.keep ff ⟨by omega, trivial⟩
  replace b_31 := b_31.keep ff ⟨by omega, trivial⟩
  replace fr := rx_frt fr ff (fun a ha => ⟨by have := ha.1; dsimp only at this ⊢; omega, trivial⟩)
  refine rx_dup C dX1_init_32 rfl ?_
  refine rx_aload_n C dX1_init_33 2 rfl ?_
  refine rx_cv (rx_rIN C (w_X2_init (q := q + 34) (g := g) e_34) Y_X2_init I_X2_init rfl m_X1_17 ⟨⟨rfl, rfl⟩, ⟨(Nat.le_of_ble_eq_true rfl), (Nat.le_of_ble_eq_true rfl)⟩, ⟨(Nat.le_of_ble_eq_true rfl), (Nat.le_of_ble_eq_true rfl)⟩⟩ rfl rfl (Nat.le_of_ble_eq_true rfl) dX1_init_34) (fun h50 n1 hpp => ?_)
  obtain ⟨hn, b_34, b_44, b_47, ff⟩ := hpp
  replace hn : q + 50 = n1 := Eq.symm hn
  subst hn
  replace ff : rx_fr [(q + 34, 16)] _ h50 := ff
  replace e_0 := (ff _ ⟨by omega, trivial⟩).trans e_0
  replace e_1 := (ff _ ⟨by omega, trivial⟩).trans e_1
  replace b_2 := b_2.keep ff ⟨by omega, trivial⟩
  replace b_12 := b_12.keep ff ⟨by omega, trivial⟩
  replace b_15 := b_15.keep ff ⟨by omega, trivial⟩
  replace b_18 := b_18.keep ff ⟨by omega, trivial⟩
  replace b_28 := b_28.keep ff ⟨by omega, trivial⟩
  replace b_31 := b_31.keep ff ⟨by omega, trivial⟩
  replace fr := rx_frt fr ff (fun a ha => ⟨by have := ha.1; dsimp only at this ⊢; omega, trivial⟩)
  clear e_34
  refine rx_qastP2 C dX1_init_37 e_1 b_34.1 (rx_vin (by decide)) (fun h51 e9 ff => ?_)
  replace e_1 := e9
  replace e_0 := (ff _ ⟨by omega, trivial⟩).trans e_0
  replace b_2 := b_2.keep ff ⟨by omega, trivial⟩
  replace b_12 := b_12.keep ff ⟨by omega, trivial⟩
  replace b_15 := b_15.keep ff ⟨by omega, trivial⟩
  replace b_18 := b_18.keep ff ⟨by omega, trivial⟩
  replace b_28 := b_28.keep ff ⟨by omega, trivial⟩
  replace b_31 := b_31.keep ff ⟨by omega, trivial⟩
  replace b_34 := b_34.keep ff ⟨by omega, trivial⟩
  replace b_44 := b_44.keep ff ⟨by omega, trivial⟩
  replace b_47 := b_47.keep ff ⟨by omega, trivial⟩
  replace fr := rx_frt fr ff (fun a ha => ⟨by have := ha.1; dsimp only at this ⊢; omega, trivial⟩)
  refine rx_iinc C dX1_init_38 0 rfl (3 : Int32) (by decide) (by decide) [(2, .int (3 : Int32)), (0, .ref q), (1, .ref g)] rfl ?_
  refine rx_goto C dX1_init_41 15 (by decide) ?_
  refine rx_iload_n C dX1_init_15 0 rfl ?_
  refine rx_aload_n C dX1_init_16 1 rfl ?_
  refine rx_getf C f_X1_11 dX1_init_17 e_0 rfl ?_
  refine rx_alen C 2 rfl dX1_init_20 e_1 ?_
  refine rx_icmp_ge C dX1_init_21 44 (by decide) (fun c9 => absurd c9 (show ¬ (8 : Int32) ≤ 3 by decide)) (fun c9 => ?_)
  refine rx_aload_n C dX1_init_24 1 rfl ?_
  refine rx_getf C f_X1_11 dX1_init_25 e_0 rfl ?_
  refine rx_iload_n C dX1_init_28 0 rfl ?_
  refine rx_new2 C N_X1_9 dX1_init_29 (Nat.le_of_ble_eq_true rfl) (Nat.le_of_ble_eq_true rfl) (fun h62 e_50 ff => ?_)
  replace e_0 := (ff _ ⟨by omega, trivial⟩).trans e_0
  replace e_1 := (ff _ ⟨by omega, trivial⟩).trans e_1
  replace b_2 := b_2.keep ff ⟨by omega, trivial⟩
  replace b_12 := b_12.keep ff ⟨by omega, trivial⟩
  replace b_15 := b_15.keep ff ⟨by omega, trivial⟩
  replace b_18 := b_18.keep ff ⟨by omega, trivial⟩
  replace b_28 := b_28.keep ff ⟨by omega, trivial⟩
  replace b_31 := b_31.keep ff ⟨by omega, trivial⟩
  replace b_34 := b_34.keep ff ⟨by omega, trivial⟩
  replace b_44 := b_44.keep ff ⟨by omega, trivial⟩
  replace b_47 := b_47.keep ff ⟨by omega, trivial⟩
  replace fr := rx_frt fr ff (fun a ha => ⟨by have := ha.1; dsimp only at this ⊢; omega, trivial⟩)
  refine rx_dup C dX1_init_32 rfl ?_
  refine rx_aload_n C dX1_init_33 2 rfl ?_
  refine rx_cv (rx_rIN C (w_X2_init (q := q + 50) (g := g) e_50) Y_X2_init I_X2_init rfl m_X1_17 ⟨⟨rfl, rfl⟩, ⟨(Nat.le_of_ble_eq_true rfl), (Nat.le_of_ble_eq_true rfl)⟩, ⟨(Nat.le_of_ble_eq_true rfl), (Nat.le_of_ble_eq_true rfl)⟩⟩ rfl rfl (Nat.le_of_ble_eq_true rfl) dX1_init_34) (fun h65 n1 hpp => ?_)
  obtain ⟨hn, b_50, b_60, b_63, ff⟩ := hpp
  replace hn : q + 66 = n1 := Eq.symm hn
  subst hn
  replace ff : rx_fr [(q + 50, 16)] _ h65 := ff
  replace e_0 := (ff _ ⟨by omega, trivial⟩).trans e_0
  replace e_1 := (ff _ ⟨by omega, trivial⟩).trans e_1
  replace b_2 := b_2.keep ff ⟨by omega, trivial⟩
  replace b_12 := b_12.keep ff ⟨by omega, trivial⟩
  replace b_15 := b_15.keep ff ⟨by omega, trivial⟩
  replace b_18 := b_18.keep ff ⟨by omega, trivial⟩
  replace b_28 := b_28.keep ff ⟨by omega, trivial⟩
  replace b_31 := b_31.keep ff ⟨by omega, trivial⟩
  replace b_34 := b_34.keep ff ⟨by omega, trivial⟩
  replace b_44 := b_44.keep ff ⟨by omega, trivial⟩
  replace b_47 := b_47.keep ff ⟨by omega, trivial⟩
  replace fr := rx_frt fr ff (fun a ha => ⟨by have := ha.1; dsimp only at this ⊢; omega, trivial⟩)
  clear e_50
  refine rx_qastP2 C dX1_init_37 e_1 b_50.1 (rx_vin (by decide)) (fun h66 e9 ff => ?_)
  replace e_1 := e9
  replace e_0 := (ff _ ⟨by omega, trivial⟩).trans e_0
  replace b_2 := b_2.keep ff ⟨by omega, trivial⟩
  replace b_12 := b_12.keep ff ⟨by omega, trivial⟩
  replace b_15 := b_15.keep ff ⟨by omega, trivial⟩
  replace b_18 := b_18.keep ff ⟨by omega, trivial⟩
  replace b_28 := b_28.keep ff ⟨by omega, trivial⟩
  replace b_31 := b_31.keep ff ⟨by omega, trivial⟩
  replace b_34 := b_34.keep ff ⟨by omega, trivial⟩
  replace b_44 := b_44.keep ff ⟨by omega, trivial⟩
  replace b_47 := b_47.keep ff ⟨by omega, trivial⟩
  replace b_50 := b_50.keep ff ⟨by omega, trivial⟩
  replace b_60 := b_60.keep ff ⟨by omega, trivial⟩
  replace b_63 := b_63.keep ff ⟨by omega, trivial⟩
  replace fr := rx_frt fr ff (fun a ha => ⟨by have := ha.1; dsimp only at this ⊢; omega, trivial⟩)
  refine rx_iinc C dX1_init_38 0 rfl (4 : Int32) (by decide) (by decide) [(2, .int (4 : Int32)), (0, .ref q), (1, .ref g)] rfl ?_
  refine rx_goto C dX1_init_41 15 (by decide) ?_
  refine rx_iload_n C dX1_init_15 0 rfl ?_
  refine rx_aload_n C dX1_init_16 1 rfl ?_
  refine rx_getf C f_X1_11 dX1_init_17 e_0 rfl ?_
  refine rx_alen C 2 rfl dX1_init_20 e_1 ?_
  refine rx_icmp_ge C dX1_init_21 44 (by decide) (fun c9 => absurd c9 (show ¬ (8 : Int32) ≤ 4 by decide)) (fun c9 => ?_)
  refine rx_aload_n C dX1_init_24 1 rfl ?_
  refine rx_getf C f_X1_11 dX1_init_25 e_0 rfl ?_
  refine rx_iload_n C dX1_init_28 0 rfl ?_
  refine rx_new2 C N_X1_9 dX1_init_29 (Nat.le_of_ble_eq_true rfl) (Nat.le_of_ble_eq_true rfl) (fun h77 e_66 ff => ?_)
  replace e_0 := (ff _ ⟨by omega, trivial⟩).trans e_0
  replace e_1 := (ff _ ⟨by omega, trivial⟩).trans e_1
  replace b_2 := b_2.keep ff ⟨by omega, trivial⟩
  replace b_12 := b_12.keep ff ⟨by omega, trivial⟩
  replace b_15 := b_15.keep ff ⟨by omega, trivial⟩
  replace b_18 := b_18.keep ff ⟨by omega, trivial⟩
  replace b_28 := b_28.keep ff ⟨by omega, trivial⟩
  replace b_31 := b_31.keep ff ⟨by omega, trivial⟩
  replace b_34 := b_34.keep ff ⟨by omega, trivial⟩
  replace b_44 := b_44.keep ff ⟨by omega, trivial⟩
  replace b_47 := b_47.keep ff ⟨by omega, trivial⟩
  replace b_50 := b_50.keep ff ⟨by omega, trivial⟩
  replace b_60 := b_60.keep ff ⟨by omega, trivial⟩
  replace b_63 := b_63.keep ff ⟨by omega, trivial⟩
  replace fr := rx_frt fr ff (fun a ha => ⟨by have := ha.1; dsimp only at this ⊢; omega, trivial⟩)
  refine rx_dup C dX1_init_32 rfl ?_
  refine rx_aload_n C dX1_init_33 2 rfl ?_
  refine rx_cv (rx_rIN C (w_X2_init (q := q + 66) (g := g) e_66) Y_X2_init I_X2_init rfl m_X1_17 ⟨⟨rfl, rfl⟩, ⟨(Nat.le_of_ble_eq_true rfl), (Nat.le_of_ble_eq_true rfl)⟩, ⟨(Nat.le_of_ble_eq_true rfl), (Nat.le_of_ble_eq_true rfl)⟩⟩ rfl rfl (Nat.le_of_ble_eq_true rfl) dX1_init_34) (fun h80 n1 hpp => ?_)
  obtain ⟨hn, b_66, b_76, b_79, ff⟩ := hpp
  replace hn : q + 82 = n1 := Eq.symm hn
  subst hn
  replace ff : rx_fr [(q + 66, 16)] _ h80 := ff
  replace e_0 := (ff _ ⟨by omega, trivial⟩).trans e_0
  replace e_1 := (ff _ ⟨by omega, trivial⟩).trans e_1
  replace b_2 := b_2.keep ff ⟨by omega, trivial⟩
  replace b_12 := b_12.keep ff ⟨by omega, trivial⟩
  replace b_15 := b_15.keep ff ⟨by omega, trivial⟩
  replace b_18 := b_18.keep ff ⟨by omega, trivial⟩
  replace b_28 := b_28.keep ff ⟨by omega, trivial⟩
  replace b_31 := b_31.keep ff ⟨by omega, trivial⟩
  replace b_34 := b_34.keep ff ⟨by omega, trivial⟩
  replace b_44 := b_44.keep ff ⟨by omega, trivial⟩
  replace b_47 := b_47.keep ff ⟨by omega, trivial⟩
  replace b_50 := b_50.keep ff ⟨by omega, trivial⟩
  replace b_60 := b_60.keep ff ⟨by omega, trivial⟩
  replace b_63 := b_63.keep ff ⟨by omega, trivial⟩
  replace fr := rx_frt fr ff (fun a ha => ⟨by have := ha.1; dsimp only at this ⊢; omega, trivial⟩)
  clear e_66
  refine rx_qastP2 C dX1_init_37 e_1 b_66.1 (rx_vin (by decide)) (fun h81 e9 ff => ?_)
  replace e_1 := e9
  replace e_0 := (ff _ ⟨by omega, trivial⟩).trans e_0
  replace b_2 := b_2.keep ff ⟨by omega, trivial⟩
  replace b_12 := b_12.keep ff ⟨by omega, trivial⟩
  replace b_15 := b_15.keep ff ⟨by omega, trivial⟩
  replace b_18 := b_18.keep ff ⟨by omega, trivial⟩
  replace b_28 := b_28.keep ff ⟨by omega, trivial⟩
  replace b_31 := b_31.keep ff ⟨by omega, trivial⟩
  replace b_34 := b_34.keep ff ⟨by omega, trivial⟩
  replace b_44 := b_44.keep ff ⟨by omega, trivial⟩
  replace b_47 := b_47.keep ff ⟨by omega, trivial⟩
  replace b_50 := b_50.keep ff ⟨by omega, trivial⟩
  replace b_60 := b_60.keep ff ⟨by omega, trivial⟩
  replace b_63 := b_63.keep ff ⟨by omega, trivial⟩
  replace b_66 := b_66.keep ff ⟨by omega, trivial⟩
  replace b_76 := b_76.keep ff ⟨by omega, trivial⟩
  replace b_79 := b_79.keep ff ⟨by omega, trivial⟩
  replace fr := rx_frt fr ff (fun a ha => ⟨by have := ha.1; dsimp only at this ⊢; omega, trivial⟩)
  refine rx_iinc C dX1_init_38 0 rfl (5 : Int32) (by decide) (by decide) [(2, .int (5 : Int32)), (0, .ref q), (1, .ref g)] rfl ?_
  refine rx_goto C dX1_init_41 15 (by decide) ?_
  refine rx_iload_n C dX1_init_15 0 rfl ?_
  refine rx_aload_n C dX1_init_16 1 rfl ?_
  refine rx_getf C f_X1_11 dX1_init_17 e_0 rfl ?_
  refine rx_alen C 2 rfl dX1_init_20 e_1 ?_
  refine rx_icmp_ge C dX1_init_21 44 (by decide) (fun c9 => absurd c9 (show ¬ (8 : Int32) ≤ 5 by decide)) (fun c9 => ?_)
  refine rx_aload_n C dX1_init_24 1 rfl ?_
  refine rx_getf C f_X1_11 dX1_init_25 e_0 rfl ?_
  refine rx_iload_n C dX1_init_28 0 rfl ?_
  refine rx_new2 C N_X1_9 dX1_init_29 (Nat.le_of_ble_eq_true rfl) (Nat.le_of_ble_eq_true rfl) (fun h92 e_82 ff => ?_)
  replace e_0 := (ff _ ⟨by omega, trivial⟩).trans e_0
  replace e_1 := (ff _ ⟨by omega, trivial⟩).trans e_1
  replace b_2 := b_2.keep ff ⟨by omega, trivial⟩
  replace b_12 := b_12.keep ff ⟨by omega, trivial⟩
  replace b_15 := b_15.keep ff ⟨by omega, trivial⟩
  replace b_18 := b_18.keep ff ⟨by omega, trivial⟩
  replace b_28 := b_28.keep ff ⟨by omega, trivial⟩
  replace b_31 := b_31.keep ff ⟨by omega, trivial⟩
  replace b_34 := b_34.keep ff ⟨by omega, trivial⟩
  replace b_44 := b_44.keep ff ⟨by omega, trivial⟩
  replace b_47 := b_47.keep ff ⟨by omega, trivial⟩
  replace b_50 := b_50.keep ff ⟨by omega, trivial⟩
  replace b_60 := b_60.keep ff ⟨by omega, trivial⟩
  replace b_63 := b_63.keep ff ⟨by omega, trivial⟩
  replace b_66 := b_66.keep ff ⟨by omega, trivial⟩
  replace b_76 := b_76.keep ff ⟨by omega, trivial⟩
  replace b_79 := b_79.keep ff ⟨by omega, trivial⟩
  replace fr := rx_frt fr ff (fun a ha => ⟨by have := ha.1; dsimp only at this ⊢; omega, trivial⟩)
  refine rx_dup C dX1_init_32 rfl ?_
  refine rx_aload_n C dX1_init_33 2 rfl ?_
  refine rx_cv (rx_rIN C (w_X2_init (q := q + 82) (g := g) e_82) Y_X2_init I_X2_init rfl m_X1_17 ⟨⟨rfl, rfl⟩, ⟨(Nat.le_of_ble_eq_true rfl), (Nat.le_of_ble_eq_true rfl)⟩, ⟨(Nat.le_of_ble_eq_true rfl), (Nat.le_of_ble_eq_true rfl)⟩⟩ rfl rfl (Nat.le_of_ble_eq_true rfl) dX1_init_34) (fun h95 n1 hpp => ?_)
  obtain ⟨hn, b_82, b_92, b_95, ff⟩ := hpp
  replace hn : q + 98 = n1 := Eq.symm hn
  subst hn
  replace ff : rx_fr [(q + 82, 16)] _ h95 := ff
  replace e_0 := (ff _ ⟨by omega, trivial⟩).trans e_0
  replace e_1 := (ff _ ⟨by omega, trivial⟩).trans e_1
  replace b_2 := b_2.keep ff ⟨by omega, trivial⟩
  replace b_12 := b_12.keep ff ⟨by omega, trivial⟩
  replace b_15 := b_15.keep ff ⟨by omega, trivial⟩
  replace b_18 := b_18.keep ff ⟨by omega, trivial⟩
  replace b_28 := b_28.keep ff ⟨by omega, trivial⟩
  replace b_31 := b_31.keep ff ⟨by omega, trivial⟩
  replace b_34 := b_34.keep ff ⟨by omega, trivial⟩
  replace b_44 := b_44.keep ff ⟨by omega, trivial⟩
  replace b_47 := b_47.keep ff ⟨by omega, trivial⟩
  replace b_50 := b_50.keep ff ⟨by omega, trivial⟩
  replace b_60 := b_60.keep ff ⟨by omega, trivial⟩
  replace b_63 := b_63.keep ff ⟨by omega, trivial⟩
  replace b_66 := b_66.keep ff ⟨by omega, trivial⟩
  replace b_76 := b_76.keep ff ⟨by omega, trivial⟩
  replace b_79 := b_79.keep ff ⟨by omega, trivial⟩
  replace fr := rx_frt fr ff (fun a ha => ⟨by have := ha.1; dsimp only at this ⊢; omega, trivial⟩)
  clear e_82
  refine rx_qastP2 C dX1_init_37 e_1 b_82.1 (rx_vin (by decide)) (fun h96 e9 ff => ?_)
  replace e_1 := e9
  replace e_0 := (ff _ ⟨by omega, trivial⟩).trans e_0
  replace b_2 := b_2.keep ff ⟨by omega, trivial⟩
  replace b_12 := b_12.keep ff ⟨by omega, trivial⟩
  replace b_15 := b_15.keep ff ⟨by omega, trivial⟩
  replace b_18 := b_18.keep ff ⟨by omega, trivial⟩
  replace b_28 := b_28.keep ff ⟨by omega, trivial⟩
  replace b_31 := b_31.keep ff ⟨by omega, trivial⟩
  replace b_34 := b_34.keep ff ⟨by omega, trivial⟩
  replace b_44 := b_44.keep ff ⟨by omega, trivial⟩
  replace b_47 := b_47.keep ff ⟨by omega, trivial⟩
  replace b_50 := b_50.keep ff ⟨by omega, trivial⟩
  replace b_60 := b_60.keep ff ⟨by omega, trivial⟩
  replace b_63 := b_63.keep ff ⟨by omega, trivial⟩
  replace b_66 := b_66.keep ff ⟨by omega, trivial⟩
  replace b_76 := b_76.keep ff ⟨by omega, trivial⟩
  replace b_79 := b_79.keep ff ⟨by omega, trivial⟩
  replace b_82 := b_82.keep ff ⟨by omega, trivial⟩
  replace b_92 := b_92.keep ff ⟨by omega, trivial⟩
  replace b_95 := b_95.keep ff ⟨by omega, trivial⟩
  replace fr := rx_frt fr ff (fun a ha => ⟨by have := ha.1; dsimp only at this ⊢; omega, trivial⟩)
  refine rx_iinc C dX1_init_38 0 rfl (6 : Int32) (by decide) (by decide) [(2, .int (6 : Int32)), (0, .ref q), (1, .ref g)] rfl ?_
  refine rx_goto C dX1_init_41 15 (by decide) ?_
  refine rx_iload_n C dX1_init_15 0 rfl ?_
  refine rx_aload_n C dX1_init_16 1 rfl ?_
  refine rx_getf C f_X1_11 dX1_init_17 e_0 rfl ?_
  refine rx_alen C 2 rfl dX1_init_20 e_1 ?_
  refine rx_icmp_ge C dX1_init_21 44 (by decide) (fun c9 => absurd c9 (show ¬ (8 : Int32) ≤ 6 by decide)) (fun c9 => ?_)
  refine rx_aload_n C dX1_init_24 1 rfl ?_
  refine rx_getf C f_X1_11 dX1_init_25 e_0 rfl ?_
  refine rx_iload_n C dX1_init_28 0 rfl ?_
  refine rx_new2 C N_X1_9 dX1_init_29 (Nat.le_of_ble_eq_true rfl) (Nat.le_of_ble_eq_true rfl) (fun h107 e_98 ff => ?_)
  replace e_0 := (ff _ ⟨by omega, trivial⟩).trans e_0
  replace e_1 := (ff _ ⟨by omega, trivial⟩).trans e_1
  replace b_2 := b_2.keep ff ⟨by omega, trivial⟩
  replace b_12 := b_12.keep ff ⟨by omega, trivial⟩
  replace b_15 := b_15.keep ff ⟨by omega, trivial⟩
  replace b_18 := b_18.keep ff ⟨by omega, trivial⟩
  replace b_28 := b_28.keep ff ⟨by omega, trivial⟩
  replace b_31 := b_31.keep ff ⟨by omega, trivial⟩
  replace b_34 := b_34.keep ff ⟨by omega, trivial⟩
  replace b_44 := b_44.keep ff ⟨by omega, trivial⟩
  replace b_47 := b_47.keep ff ⟨by omega, trivial⟩
  replace b_50 := b_50.keep ff ⟨by omega, trivial⟩
  replace b_60 := b_60.keep ff ⟨by omega, trivial⟩
  replace b_63 := b_63.keep ff ⟨by omega, trivial⟩
  replace b_66 := b_66.keep ff ⟨by omega, trivial⟩
  replace b_76 := b_76.keep ff ⟨by omega, trivial⟩
  replace b_79 := b_79.keep ff ⟨by omega, trivial⟩
  replace b_82 := b_82.keep ff ⟨by omega, trivial⟩
  replace b_92 := b_92.keep ff ⟨by omega, trivial⟩
  replace b_95 := b_95.keep ff ⟨by omega, trivial⟩
  replace fr := rx_frt fr ff (fun a ha => ⟨by have := ha.1; dsimp only at this ⊢; omega, trivial⟩)
  refine rx_dup C dX1_init_32 rfl ?_
  refine rx_aload_n C dX1_init_33 2 rfl ?_
  refine rx_cv (rx_rIN C (w_X2_init (q := q + 98) (g := g) e_98) Y_X2_init I_X2_init rfl m_X1_17 ⟨⟨rfl, rfl⟩, ⟨(Nat.le_of_ble_eq_true rfl), (Nat.le_of_ble_eq_true rfl)⟩, ⟨(Nat.le_of_ble_eq_true rfl), (Nat.le_of_ble_eq_true rfl)⟩⟩ rfl rfl (Nat.le_of_ble_eq_true rfl) dX1_init_34) (fun h110 n1 hpp => ?_)
  obtain ⟨hn, b_98, b_108, b_111, ff⟩ := hpp
  replace hn : q + 114 = n1 := Eq.symm hn
  subst hn
  replace ff : rx_fr [(q + 98, 16)] _ h110 := ff
  replace e_0 := (ff _ ⟨by omega, trivial⟩).trans e_0
  replace e_1 := (ff _ ⟨by omega, trivial⟩).trans e_1
  replace b_2 := b_2.keep ff ⟨by omega, trivial⟩
  replace b_12 := b_12.keep ff ⟨by omega, trivial⟩
  replace b_15 := b_15.keep ff ⟨by omega, trivial⟩
  replace b_18 := b_18.keep ff ⟨by omega, trivial⟩
  replace b_28 := b_28.keep ff ⟨by omega, trivial⟩
  replace b_31 := b_31.keep ff ⟨by omega, trivial⟩
  replace b_34 := b_34.keep ff ⟨by omega, trivial⟩
  replace b_44 := b_44.keep ff ⟨by omega, trivial⟩
  replace b_47 := b_47.keep ff ⟨by omega, trivial⟩
  replace b_50 := b_50.keep ff ⟨by omega, trivial⟩
  replace b_60 := b_60.keep ff ⟨by omega, trivial⟩
  replace b_63 := b_63.keep ff ⟨by omega, trivial⟩
  replace b_66 := b_66.keep ff ⟨by omega, trivial⟩
  replace b_76 := b_76.keep ff ⟨by omega, trivial⟩
  replace b_79 := b_79.keep ff ⟨by omega, trivial⟩
  replace b_82 := b_82.keep ff ⟨by omega, trivial⟩
  replace b_92 := b_92.keep ff ⟨by omega, trivial⟩
  replace b_95 := b_95.keep ff ⟨by omega, trivial⟩
  replace fr := rx_frt fr ff (fun a ha => ⟨by have := ha.1; dsimp only at this ⊢; omega, trivial⟩)
  clear e_98
  refine rx_qastP2 C dX1_init_37 e_1 b_98.1 (rx_vin (by decide)) (fun h111 e9 ff => ?_)
  replace e_1 := e9
  replace e_0 := (ff _ ⟨by omega, trivial⟩).trans e_0
  replace b_2 := b_2.keep ff ⟨by omega, trivial⟩
  replace b_12 := b_12.keep ff ⟨by omega, trivial⟩
  replace b_15 := b_15.keep ff ⟨by omega, trivial⟩
  replace b_18 := b_18.keep ff ⟨by omega, trivial⟩
  replace b_28 := b_28.keep ff ⟨by omega, trivial⟩
  replace b_31 := b_31.keep ff ⟨by omega, trivial⟩
  replace b_34 := b_34.keep ff ⟨by omega, trivial⟩
  replace b_44 := b_44.keep ff ⟨by omega, trivial⟩
  replace b_47 := b_47.keep ff ⟨by omega, trivial⟩
  replace b_50 := b_50.keep ff ⟨by omega, trivial⟩
  replace b_60 := b_60.keep ff ⟨by omega, trivial⟩
  replace b_63 := b_63.keep ff ⟨by omega, trivial⟩
  replace b_66 := b_66.keep ff ⟨by omega, trivial⟩
  replace b_76 := b_76.keep ff ⟨by omega, trivial⟩
  replace b_79 := b_79.keep ff ⟨by omega, trivial⟩
  replace b_82 := b_82.keep ff ⟨by omega, trivial⟩
  replace b_92 := b_92.keep ff ⟨by omega, trivial⟩
  replace b_95 := b_95.keep ff ⟨by omega, trivial⟩
  replace b_98 := b_98.keep ff ⟨by omega, trivial⟩
  replace b_108 := b_108.keep ff ⟨by omega, trivial⟩
  replace b_111 := b_111.keep ff ⟨by omega, trivial⟩
  replace fr := rx_frt fr ff (fun a ha => ⟨by have := ha.1; dsimp only at this ⊢; omega, trivial⟩)
  refine rx_iinc C dX1_init_38 0 rfl (7 : Int32) (by decide) (by decide) [(2, .int (7 : Int32)), (0, .ref q), (1, .ref g)] rfl ?_
  refine rx_goto C dX1_init_41 15 (by decide) ?_
  refine rx_iload_n C dX1_init_15 0 rfl ?_
  refine rx_aload_n C dX1_init_16 1 rfl ?_
  refine rx_getf C f_X1_11 dX1_init_17 e_0 rfl ?_
  refine rx_alen C 2 rfl dX1_init_20 e_1 ?_
  refine rx_icmp_ge C dX1_init_21 44 (by decide) (fun c9 => absurd c9 (show ¬ (8 : Int32) ≤ 7 by decide)) (fun c9 => ?_)
  refine rx_aload_n C dX1_init_24 1 rfl ?_
  refine rx_getf C f_X1_11 dX1_init_25 e_0 rfl ?_
  refine rx_iload_n C dX1_init_28 0 rfl ?_
  refine rx_new2 C N_X1_9 dX1_init_29 (Nat.le_of_ble_eq_true rfl) (Nat.le_of_ble_eq_true rfl) (fun h122 e_114 ff => ?_)
  replace e_0 := (ff _ ⟨by omega, trivial⟩).trans e_0
  replace e_1 := (ff _ ⟨by omega, trivial⟩).trans e_1
  replace b_2 := b_2.keep ff ⟨by omega, trivial⟩
  replace b_12 := b_12.keep ff ⟨by omega, trivial⟩
  replace b_15 := b_15.keep ff ⟨by omega, trivial⟩
  replace b_18 := b_18.keep ff ⟨by omega, trivial⟩
  replace b_28 := b_28.keep ff ⟨by omega, trivial⟩
  replace b_31 := b_31.keep ff ⟨by omega, trivial⟩
  replace b_34 := b_34.keep ff ⟨by omega, trivial⟩
  replace b_44 := b_44.keep ff ⟨by omega, trivial⟩
  replace b_47 := b_47.keep ff ⟨by omega, trivial⟩
  replace b_50 := b_50.keep ff ⟨by omega, trivial⟩
  replace b_60 := b_60.keep ff ⟨by omega, trivial⟩
  replace b_63 := b_63.keep ff ⟨by omega, trivial⟩
  replace b_66 := b_66.keep ff ⟨by omega, trivial⟩
  replace b_76 := b_76.keep ff ⟨by omega, trivial⟩
  replace b_79 := b_79.keep ff ⟨by omega, trivial⟩
  replace b_82 := b_82.keep ff ⟨by omega, trivial⟩
  replace b_92 := b_92.keep ff ⟨by omega, trivial⟩
  replace b_95 := b_95.keep ff ⟨by omega, trivial⟩
  replace b_98 := b_98.keep ff ⟨by omega, trivial⟩
  replace b_108 := b_108.keep ff ⟨by omega, trivial⟩
  replace b_111 := b_111.keep ff ⟨by omega, trivial⟩
  replace fr := rx_frt fr ff (fun a ha => ⟨by have := ha.1; dsimp only at this ⊢; omega, trivial⟩)
  refine rx_dup C dX1_init_32 rfl ?_
  refine rx_aload_n C dX1_init_33 2 rfl ?_
  refine rx_cv (rx_rIN C (w_X2_init (q := q + 114) (g := g) e_114) Y_X2_init I_X2_init rfl m_X1_17 ⟨⟨rfl, rfl⟩, ⟨(Nat.le_of_ble_eq_true rfl), (Nat.le_of_ble_eq_true rfl)⟩, ⟨(Nat.le_of_ble_eq_true rfl), (Nat.le_of_ble_eq_true rfl)⟩⟩ rfl rfl (Nat.le_of_ble_eq_true rfl) dX1_init_34) (fun h125 n1 hpp => ?_)
  obtain ⟨hn, b_114, b_124, b_127, ff⟩ := hpp
  replace hn : q + 130 = n1 := Eq.symm hn
  subst hn
  replace ff : rx_fr [(q + 114, 16)] _ h125 := ff
  replace e_0 := (ff _ ⟨by omega, trivial⟩).trans e_0
  replace e_1 := (ff _ ⟨by omega, trivial⟩).trans e_1
  replace b_2 := b_2.keep ff ⟨by omega, trivial⟩
  replace b_12 := b_12.keep ff ⟨by omega, trivial⟩
  replace b_15 := b_15.keep ff ⟨by omega, trivial⟩
  replace b_18 := b_18.keep ff ⟨by omega, trivial⟩
  replace b_28 := b_28.keep ff ⟨by omega, trivial⟩
  replace b_31 := b_31.keep ff ⟨by omega, trivial⟩
  replace b_34 := b_34.keep ff ⟨by omega, trivial⟩
  replace b_44 := b_44.keep ff ⟨by omega, trivial⟩
  replace b_47 := b_47.keep ff ⟨by omega, trivial⟩
  replace b_50 := b_50.keep ff ⟨by omega, trivial⟩
  replace b_60 := b_60.keep ff ⟨by omega, trivial⟩
  replace b_63 := b_63.keep ff ⟨by omega, trivial⟩
  replace b_66 := b_66.keep ff ⟨by omega, trivial⟩
  replace b_76 := b_76.keep ff ⟨by omega, trivial⟩
  replace b_79 := b_79.keep ff ⟨by omega, trivial⟩
  replace b_82 := b_82.keep ff ⟨by omega, trivial⟩
  replace b_92 := b_92.keep ff ⟨by omega, trivial⟩
  replace b_95 := b_95.keep ff ⟨by omega, trivial⟩
  replace b_98 := b_98.keep ff ⟨by omega, trivial⟩
  replace b_108 := b_108.keep ff ⟨by omega, trivial⟩
  replace b_111 := b_111.keep ff ⟨by omega, trivial⟩
  replace fr := rx_frt fr ff (fun a ha => ⟨by have := ha.1; dsimp only at this ⊢; omega, trivial⟩)
  clear e_114
  refine rx_qastP2 C dX1_init_37 e_1 b_114.1 (rx_vin (by decide)) (fun h126 e9 ff => ?_)
  replace e_1 := e9
  replace e_0 := (ff _ ⟨by omega, trivial⟩).trans e_0
  replace b_2 := b_2.keep ff ⟨by omega, trivial⟩
  replace b_12 := b_12.keep ff ⟨by omega, trivial⟩
  replace b_15 := b_15.keep ff ⟨by omega, trivial⟩
  replace b_18 := b_18.keep ff ⟨by omega, trivial⟩
  replace b_28 := b_28.keep ff ⟨by omega, trivial⟩
  replace b_31 := b_31.keep ff ⟨by omega, trivial⟩
  replace b_34 := b_34.keep ff ⟨by omega, trivial⟩
  replace b_44 := b_44.keep ff ⟨by omega, trivial⟩
  replace b_47 := b_47.keep ff ⟨by omega, trivial⟩
  replace b_50 := b_50.keep ff ⟨by omega, trivial⟩
  replace b_60 := b_60.keep ff ⟨by omega, trivial⟩
  replace b_63 := b_63.keep ff ⟨by omega, trivial⟩
  replace b_66 := b_66.keep ff ⟨by omega, trivial⟩
  replace b_76 := b_76.keep ff ⟨by omega, trivial⟩
  replace b_79 := b_79.keep ff ⟨by omega, trivial⟩
  replace b_82 := b_82.keep ff ⟨by omega, trivial⟩
  replace b_92 := b_92.keep ff ⟨by omega, trivial⟩
  replace b_95 := b_95.keep ff ⟨by omega, trivial⟩
  replace b_98 := b_98.keep ff ⟨by omega, trivial⟩
  replace b_108 := b_108.keep ff ⟨by omega, trivial⟩
  replace b_111 := b_111.keep ff ⟨by omega, trivial⟩
  replace b_114 := b_114.keep ff ⟨by omega, trivial⟩
  replace b_124 := b_124.keep ff ⟨by omega, trivial⟩
  replace b_127 := b_127.keep ff ⟨by omega, trivial⟩
  replace fr := rx_frt fr ff (fun a ha => ⟨by have := ha.1; dsimp only at this ⊢; omega, trivial⟩)
  refine rx_iinc C dX1_init_38 0 rfl (8 : Int32) (by decide) (by decide) [(2, .int (8 : Int32)), (0, .ref q), (1, .ref g)] rfl ?_
  refine rx_goto C dX1_init_41 15 (by decide) ?_
  refine rx_iload_n C dX1_init_15 0 rfl ?_
  refine rx_aload_n C dX1_init_16 1 rfl ?_
  refine rx_getf C f_X1_11 dX1_init_17 e_0 rfl ?_
  refine rx_alen C 2 rfl dX1_init_20 e_1 ?_
  refine rx_icmp_ge C dX1_init_21 44 (by decide) (fun c9 => ?_) (fun c9 => absurd (show (8 : Int32) ≤ 8 by decide) c9)
  exact rx_vret C dX1_init_44 (Nat.le_of_ble_eq_true rfl) (Nat.le_of_ble_eq_true rfl) ⟨rfl, ⟨⟨e_0, e_1.trans (by congr 5; funext j; rcases j with _ | _ | _ | _ | _ | _ | _ | _ | j <;> rfl)⟩, fun j hj => by
    rcases j with _ | _ | _ | _ | _ | _ | _ | _ | j
    · exact ⟨b_2, b_12, b_15⟩
    · exact ⟨b_18, b_28, b_31⟩
    · exact ⟨b_34, b_44, b_47⟩
    · exact ⟨b_50, b_60, b_63⟩
    · exact ⟨b_66, b_76, b_79⟩
    · exact ⟨b_82, b_92, b_95⟩
    · exact ⟨b_98, b_108, b_111⟩
    · exact ⟨b_114, b_124, b_127⟩
    · omega⟩, fr⟩
set_option maxRecDepth 100000 in
set_option maxHeartbeats 4000000 in
theorem w_L_init {q : Nat} (e_0 : h q = some (.inr (8, [.null, .null, .int 0, .int 0, .int 0]))) : Met l yL_init (rx_ws yL_init cL_init 1 none) (rx_rmX 1 16 2 505) (va_Pc [.ref q] (rx_G G k h (q + 1))) (va_Qv (fun u => u.2 = q + 3 ∧ bM k q ob0 u.1 ∧ rx_fr [(q, 3)] h u.1) (rx_B G k) (rx_A k)) 2 505 (rx_A k) := by
  refine rx_start [(0, .ref q)] rfl (Nat.le_of_ble_eq_true rfl) (by decide) rfl (fun P9 E9 S9 M9 A9 B9 me9 c9 C hname => ?_)
  replace hname : me9.name = "<init>" := hname
  have fr : rx_fr [(q, 3)] h h := rx_fr0
  refine rx_aload_n C dL_init_0 0 rfl ?_
  refine rx_objI C mo_L dL_init_1 (Nat.le_of_ble_eq_true rfl) (Nat.le_of_ble_eq_true rfl) ?_
  refine rx_aload_n C dL_init_4 0 rfl ?_
  refine rx_sipush C dL_init_5 (500 : Int32) (by decide) ?_
  refine rx_newi2 C 500 dL_init_8 (by decide) (by decide) (by decide) (Nat.le_of_ble_eq_true rfl) (Nat.le_of_ble_eq_true rfl) (fun h5 e_1 ff => ?_)
  replace e_0 := (ff _ ⟨by omega, trivial⟩).trans e_0
  replace fr := rx_frt fr ff (fun a ha => ⟨by have := ha.1; dsimp only at this ⊢; omega, trivial⟩)
  refine rx_putfF2 C f_L_7 t_L_0 ⟨_, _, rfl⟩ hname dL_init_10 e_0 (Nat.le_of_ble_eq_true rfl) rfl rfl (fs2 := [.ref (q + 1), .null, .int 0, .int 0, .int 0]) rfl (fun h6 e9 ff => ?_)
  replace e_0 := e9
  replace e_1 := (ff _ ⟨by omega, trivial⟩).trans e_1
  replace fr := rx_frt fr ff (fun a ha => ⟨by have := ha.1; dsimp only at this ⊢; omega, trivial⟩)
  refine rx_aload_n C dL_init_13 0 rfl ?_
  refine rx_iconst C dL_init_14 (5 : Int32) (by decide) ?_
  refine rx_newi2 C 5 dL_init_15 (by decide) (by decide) (by decide) (Nat.le_of_ble_eq_true rfl) (Nat.le_of_ble_eq_true rfl) (fun h9 e_2 ff => ?_)
  replace e_0 := (ff _ ⟨by omega, trivial⟩).trans e_0
  replace e_1 := (ff _ ⟨by omega, trivial⟩).trans e_1
  replace fr := rx_frt fr ff (fun a ha => ⟨by have := ha.1; dsimp only at this ⊢; omega, trivial⟩)
  refine rx_putfF2 C f_L_13 t_L_1 ⟨_, _, rfl⟩ hname dL_init_17 e_0 (Nat.le_of_ble_eq_true rfl) rfl rfl (fs2 := [.ref (q + 1), .ref (q + 2), .int 0, .int 0, .int 0]) rfl (fun h10 e9 ff => ?_)
  replace e_0 := e9
  replace e_1 := (ff _ ⟨by omega, trivial⟩).trans e_1
  replace e_2 := (ff _ ⟨by omega, trivial⟩).trans e_2
  replace fr := rx_frt fr ff (fun a ha => ⟨by have := ha.1; dsimp only at this ⊢; omega, trivial⟩)
  exact rx_vret C dL_init_20 (Nat.le_of_ble_eq_true rfl) (Nat.le_of_ble_eq_true rfl) ⟨rfl, ⟨e_0, e_1, e_2⟩, fr⟩
end RXI
