/-! The law's own rows: its script, its row of one long, its helpers, which catch. -/
abbrev rx_E1 : String := "java/lang/IndexOutOfBoundsException"
abbrev rx_E2 : String := "java/lang/IllegalArgumentException"
abbrev rx_E3 : String := "java/lang/IllegalStateException"
def rx_NC (U : State) : Prop := va_Nc rx_E1 rx_E2 U ∧ va_Nc rx_E1 rx_E3 U ∧ va_Nc rx_E2 rx_E1 U ∧ va_Nc rx_E2 rx_E3 U ∧ va_Nc rx_E3 rx_E1 U ∧ va_Nc rx_E3 rx_E2 U
theorem rx_NC.moved {u U : State} (hvm : u.vm.Alike U.vm) (h : rx_NC u) : rx_NC U := ⟨va_Nc.moved hvm h.1, va_Nc.moved hvm h.2.1, va_Nc.moved hvm h.2.2.1, va_Nc.moved hvm h.2.2.2.1, va_Nc.moved hvm h.2.2.2.2.1, va_Nc.moved hvm h.2.2.2.2.2⟩
def rx_GN (G : va_G) (k : Nat → Nat) (h : hp) (n : Nat) (U : State) : Prop := rx_G G k h n U ∧ rx_NC U
abbrev rx_wsH (y : MethodName) (cc : ByteArray) (maxL : Nat) (ret : Option FieldType) (hh : List (Nat × Nat × Nat × Nat)) : List Cond := Cond.codeWith y cc maxL ret hh :: rx_good
def rx_YH (y : MethodName) (bytes : ByteArray) (maxL : Nat) (rt : Option FieldType) (hh : List (Nat × Nat × Nat × Nat)) (np : Nat) : Prop := Cond.codeWith y bytes maxL rt hh ∈ rx_good ∧ Cond.initialized y.cls ∈ rx_good ∧ (y.cls ≠ "java/lang/invoke/MethodHandle" ∧ y.cls ≠ "java/lang/invoke/VarHandle" ∧ (parseMethodDescriptor y.desc).map (fun d => d.parameters.length) = some np)
def bL (k : Nat → Nat) (q : Nat) (f : Nat → Int64) (h : hp) : Prop := h q = some (rx_la k 1 f)
theorem bL.keep {k : Nat → Nat} {q : Nat} {f : Nat → Int64} {h h1 : hp} {M : List (Nat × Nat)} (hb : bL k q f h) (hf : rx_fr M h h1) (hd : rx_dis q 1 M) : bL k q f h1 := (hf q (rx_dis_out hd (Nat.le_refl _) (Nat.lt_succ_self _))).trans hb
def rx_f2v (x : UInt32) : Option UInt64 := if FP.f2d x &&& 0x7fffffffffffffff ≤ 0x7ff0000000000000 then some (FP.f2d x) else none
theorem rx_f2vE {x : UInt32} {z : UInt64} (h : rx_f2v x = some z) : vf_n64 (FP.f2d x) ∧ FP.f2d x = z := by
  unfold rx_f2v at h
  split at h
  · rename_i c; exact ⟨c, Option.some.inj h⟩
  · cases h
theorem rx_blindN {G : va_G} {k : Nat → Nat} {h : hp} {n : Nat} {av : List Value} : FrameBlind (va_Pc av (rx_GN G k h n)) := fun a U g mk q => by
  obtain ⟨q0, qG, qN⟩ := q
  exact ⟨q0, (rx_blind (av := av) a U g mk ⟨q0, qG⟩).2, rx_NC.moved (u := U) (U := U.calling g mk a) (Vm.Alike.refl U.vm) qN⟩
section RXL
variable {p : Program} {l : Launch} {e : Env} {R : Room} {s : State} {m : MethodId} {args : Array Value} {below : List Frame} {meth : Method} {c : Code} {Q : State → Prop} {G : va_G} {k : Nat → Nat} {cc : ByteArray} {own : String} {nL : Nat} {ret : Option FieldType} {cells slots : Nat} {h : hp} {n pc : Nat} {L : List (Nat × Value)} {st : List Value}
variable {y : MethodName} {bytes : ByteArray} {maxL mc ms index b np : Nat} {rt : Option FieldType} {rm : Room} {Qc : Array Value → State → Outcome → State → Prop} {XC : String → State → State → Prop} {As rest : List Value}
theorem rx_preN (C : rx_C G k p m c cc own nL ret s args meth) (hN : rx_NC s) {H : Heap} {locs : List Loc} (hP : rx_P G (k 0) h n H) (hS : va_S (fun q => k 0 ≤ q) s.heap H locs) (av : List Value) : ∀ U : State, U.heap = H → s.WarmedH U.vm → va_Pc av (rx_GN G k h n) av.toArray U := fun U hU hW =>
  ⟨rfl, (rx_pre C hP hS av U hU hW).2, rx_NC.moved hW.alike hN⟩
theorem rx_rSX (C : rx_C G k p m c cc own nL ret s args meth) (hN : rx_NC s) {hh : List (Nat × Nat × Nat × Nat)} (hM : vx_Met l y (rx_wsH y bytes maxL rt hh) rm (va_Pc As (rx_GN G k h n)) Qc XC mc ms (rx_A k)) (hY : rx_YH y bytes maxL rt hh np) (hSt : Cond.static y ∈ rx_good) (hlk : Cond.methodLink own index y ∈ rx_good) (hR : rx_R rm R mc ms maxL cells slots) (hn : As.length = np) (hst : st = As.reverse ++ rest) (hcat : (rest.map fun v => v.category).sum ≤ 8) (hdg : decode cc pc = .ok (.invokestatic index, 3)) :
    rx_RunX p l e R s m args below meth c G k nL cells slots mc ms h n pc L st rest (Qc As.toArray) XC := fun H locs ls hP hS hl => by
  refine vx_runSX (rx_fix C) hM (vx_cwSW np C.2.2.2.1 (rx_goodIn fun w hw => ?_) rfl hR.1.1 hR.1.2 hY.2.2 hR.2.1) ⟨rx_blindN, rx_preN C hN hP hS _⟩ rfl hn hl.1 hst (lv_room hcat) hdg hR.2.2
  simp only [va_wsS, rx_wsH, List.mem_append, List.mem_cons, List.not_mem_nil, or_false] at hw
  rcases hw with (rfl | rfl | rfl) | rfl | hw
  · exact hlk
  · exact hSt
  · exact hY.2.1
  · exact hY.1
  · exact hw
theorem rx_startH {hh : List (Nat × Nat × Nat × Nat)} {av : List Value} (L0 : List (Nat × Value)) (hL : lv_args 0 av = L0) (hlen : (lg_sl av).length ≤ maxL) (hpl : plainName y.cls = true)
    (body : ∀ (p : Program) (e : Env) (s : State) (m : MethodId) (args : Array Value) (below : List Frame) (meth : Method) (c : Code), rx_C G k p m c bytes y.cls maxL rt s args meth → c.exceptionTable.toList = tableOf hh → rx_NC s → rx_W p l e rm s m args below meth c (vx_MQ below Qc XC args s mc ms (rx_A k)) G k maxL 0 0 h n 0 L0 []) :
    vx_Met l y (rx_wsH y bytes maxL rt hh) rm (va_Pc av (rx_GN G k h n)) Qc XC mc ms (rx_A k) := by
  refine vx_ofWH (cc := bytes) (maxL := maxL) (ret := rt) (hh := hh) hpl rfl ?_
  intro p e s m args below meth c s₁ B hml hv
  obtain ⟨rfl, ⟨hP, hV, hT, hS0⟩, hN⟩ := hv
  have hts := atoms_spec (ws := rx_wsH y bytes maxL rt hh) B.pre
  have hl := lv_entry av (n := maxL) hlen
  have htab := vx_table (x := y) B (hts _ List.mem_cons_self)
  rw [lg_entry_eq]
  rw [hL] at hl
  exact body p e s m av.toArray below meth c ⟨B.exec, B.bytes, findClass_of_methodNamed B.named, fun w hw => hts w (List.mem_cons_of_mem _ hw), hml, B.returns, B.notSynchronized, hV, hT, hS0⟩ htab hN s.heap [] _ hP va_S.rf hl
theorem rx_catch (C : rx_C G k p m c cc own nL ret s args meth) {E : String} {hh : List (Nat × Nat × Nat × Nat)} (htab : c.exceptionTable.toList = tableOf hh) (pre : List (Nat × Nat × Nat × Nat)) (a1 a2 a3 a4 : Nat) (suf : List (Nat × Nat × Nat × Nat)) (hsp : hh = pre ++ (a1, a2, a3, a4) :: suf)
    (hpass : ∀ z ∈ pre, z.2.2.2 ≠ 0 ∧ ∃ nm : String, Cond.classLink own z.2.2.2 nm ∈ rx_good ∧ va_Nc E nm s) (hx : covers ⟨a1, a2, a3, a4⟩ pc = true) (h0 : a4 ≠ 0) (hlink : Cond.classLink own a4 E ∈ rx_good) (hcast : Cond.castable E E ∈ rx_nest)
    (K : ∀ q9 : Nat, rx_W p l e R s m args below meth c Q G k nL cells slots h n a3 L [.ref q9]) : rx_WX p l e R s m args below meth c Q G k nL cells slots h n pc L E := fun H locs ls rest ce q9 hP hS hl g1 g2 g3 =>
  vx_catch C.2.2.1 (tableOf pre) ⟨a1, a2, a3, a4⟩ (tableOf suf) (by rw [htab, hsp]; simp [tableOf]) (fun z hz => by
    obtain ⟨w, hw, rfl⟩ := List.mem_map.mp hz
    obtain ⟨h1, nm, h2, h3⟩ := hpass w hw
    exact Or.inr ⟨h1, nm, C.2.2.2.1 _ h2, h3⟩) hx h0 (C.2.2.2.1 _ hlink) (va_Nw.use rfl (C.2.2.2.2.2.2.2.1.2.1 _ hcast)) g1 g2 g3 (K q9 H locs ls hP hS hl)
theorem rx_aL (C : rx_C G k p m c cc own nL ret s args meth) {q : Nat} {f f1 : Nat → Int64} {x : Int64} (hdg : decode cc pc = .ok (.lastore, 1)) (hb : bL k q f h) (ho : vp_updL f 0 x = f1) (K : ∀ h1 : hp, bL k q f1 h1 → rx_fr [(q, 1)] h h1 → rx_W p l e R s m args below meth c Q G k nL cells slots h1 n (pc + 1) L st) : rx_W p l e R s m args below meth c Q G k nL cells slots h n pc L (.long x :: .int (0 : Int32) :: .ref q :: st) := by
  subst ho
  exact rx_last C hdg hb (rx_vin (by decide)) (K _ (va_up_self _ _ _) (rx_fr1 (Nat.le_refl _) (Nat.lt_succ_self _)))
theorem rx_ldL (C : rx_C G k p m c cc own nL ret s args meth) {q : Nat} {f : Nat → Int64} (hdg : decode cc pc = .ok (.laload, 1)) (hb : bL k q f h) (K : rx_W p l e R s m args below meth c Q G k nL cells slots h n (pc + 1) L (.long (f 0) :: st)) : rx_W p l e R s m args below meth c Q G k nL cells slots h n pc L (.int (0 : Int32) :: .ref q :: st) :=
  rx_lald C hdg hb (rx_vin (by decide)) K
theorem rx_f2dF (C : rx_C G k p m c cc own nL ret s args meth) {x : UInt32} {z : UInt64} (hdg : decode cc pc = .ok (.f2d, 1)) (hx : rx_f2v x = some z) (K : rx_W p l e R s m args below meth c Q G k nL cells slots h n (pc + 1) L (.double z :: st)) : rx_W p l e R s m args below meth c Q G k nL cells slots h n pc L (.float x :: st) := by
  obtain ⟨hn, rfl⟩ := rx_f2vE hx
  exact rx_f2d C hdg hn K
theorem rx_sld (C : rx_C G k p m c cc own nL ret s args meth) {b len : Nat} {xs : Nat → Int32} (hX : va_X b len xs s s.heap) (hbl : b < s.heap.size) (hbA : ¬ k 0 ≤ b) {i v : Int32} (hin : vp_in i len ∧ xs i.toNatClampNeg = v) (hdg : decode cc pc = .ok (.iaload, 1))
    (K : rx_W p l e R s m args below meth c Q G k nL cells slots h n (pc + 1) L (.int v :: st)) : rx_W p l e R s m args below meth c Q G k nL cells slots h n pc L (.int i :: .ref b :: st) := fun H locs ls hP hS hl => by
  obtain ⟨h1, rfl⟩ := hin
  exact va_sld C.1 C.2.1 hX hbl hbA hS h1 hdg (K H locs ls hP hS hl)
theorem rx_slen (C : rx_C G k p m c cc own nL ret s args meth) {b len : Nat} {xs : Nat → Int32} (hX : va_X b len xs s s.heap) (hbl : b < s.heap.size) (hbA : ¬ k 0 ≤ b) (hdg : decode cc pc = .ok (.arraylength, 1))
    (K : rx_W p l e R s m args below meth c Q G k nL cells slots h n (pc + 1) L (.int (Int32.ofNat len) :: st)) : rx_W p l e R s m args below meth c Q G k nL cells slots h n pc L (.ref b :: st) := fun H locs ls hP hS hl => 
  va_slen C.1 C.2.1 hX hbl hbA hS hdg (K H locs ls hP hS hl)
theorem rx_wide (mc ms : Nat) (h1 : cells ≤ mc) (h2 : slots ≤ ms) (K : rx_W p l e R s m args below meth c Q G k nL mc ms h n pc L st) : rx_W p l e R s m args below meth c Q G k nL cells slots h n pc L st := fun H locs ls hP hS hl => W.widen h1 h2 (K H locs ls hP hS hl)
end RXL
set_option maxRecDepth 100000 in
theorem Y_L_loadGame : rx_YH yL_loadGame cL_loadGame 4 (some .int) [(0, 9, 12, 13)] 3 := ⟨(rx_g3 50 rfl rfl), (rx_g1 0 rfl rfl), by decide +kernel, by decide +kernel, by decide +kernel⟩
set_option maxRecDepth 100000 in
theorem S_L_loadGame : Cond.static yL_loadGame ∈ rx_good := (rx_g3 49 rfl rfl)
set_option maxRecDepth 100000 in
theorem Y_L_isKing : rx_YH yL_isKing cL_isKing 4 (some .int) [(0, 16, 19, 19)] 3 := ⟨(rx_g4 32 rfl rfl), (rx_g1 0 rfl rfl), by decide +kernel, by decide +kernel, by decide +kernel⟩
set_option maxRecDepth 100000 in
theorem S_L_isKing : Cond.static yL_isKing ∈ rx_good := (rx_g4 31 rfl rfl)
set_option maxRecDepth 100000 in
theorem Y_L_isEast : rx_YH yL_isEast cL_isEast 4 (some .int) [(0, 16, 19, 19)] 3 := ⟨(rx_g4 62 rfl rfl), (rx_g1 0 rfl rfl), by decide +kernel, by decide +kernel, by decide +kernel⟩
set_option maxRecDepth 100000 in
theorem S_L_isEast : Cond.static yL_isEast ∈ rx_good := (rx_g4 61 rfl rfl)
set_option maxRecDepth 100000 in
theorem Y_L_coins : rx_YH yL_coins cL_coins 4 (some .int) [(0, 9, 12, 19)] 3 := ⟨(rx_g4 69 rfl rfl), (rx_g1 0 rfl rfl), by decide +kernel, by decide +kernel, by decide +kernel⟩
set_option maxRecDepth 100000 in
theorem S_L_coins : Cond.static yL_coins ∈ rx_good := (rx_g4 68 rfl rfl)
set_option maxRecDepth 100000 in
theorem Y_L_pride : rx_YH yL_pride cL_pride 4 (some .int) [(0, 9, 12, 19)] 3 := ⟨(rx_g4 76 rfl rfl), (rx_g1 0 rfl rfl), by decide +kernel, by decide +kernel, by decide +kernel⟩
set_option maxRecDepth 100000 in
theorem S_L_pride : Cond.static yL_pride ∈ rx_good := (rx_g4 75 rfl rfl)
set_option maxRecDepth 100000 in
theorem Y_L_rags : rx_YH yL_rags cL_rags 4 (some .int) [(0, 9, 12, 19)] 3 := ⟨(rx_g4 83 rfl rfl), (rx_g1 0 rfl rfl), by decide +kernel, by decide +kernel, by decide +kernel⟩
set_option maxRecDepth 100000 in
theorem S_L_rags : Cond.static yL_rags ∈ rx_good := (rx_g4 82 rfl rfl)
set_option maxRecDepth 100000 in
theorem Y_L_rank : rx_YH yL_rank cL_rank 4 (some .int) [(0, 9, 12, 19)] 3 := ⟨(rx_g4 90 rfl rfl), (rx_g1 0 rfl rfl), by decide +kernel, by decide +kernel, by decide +kernel⟩
set_option maxRecDepth 100000 in
theorem S_L_rank : Cond.static yL_rank ∈ rx_good := (rx_g4 89 rfl rfl)
set_option maxRecDepth 100000 in
theorem Y_L_wearer : rx_YH yL_wearer cL_wearer 4 (some .int) [(0, 9, 12, 19)] 3 := ⟨(rx_g4 97 rfl rfl), (rx_g1 0 rfl rfl), by decide +kernel, by decide +kernel, by decide +kernel⟩
set_option maxRecDepth 100000 in
theorem S_L_wearer : Cond.static yL_wearer ∈ rx_good := (rx_g4 96 rfl rfl)
set_option maxRecDepth 100000 in
theorem Y_L_crossings : rx_YH yL_crossings cL_crossings 4 (some .int) [(0, 9, 12, 19)] 3 := ⟨(rx_g4 108 rfl rfl), (rx_g1 0 rfl rfl), by decide +kernel, by decide +kernel, by decide +kernel⟩
set_option maxRecDepth 100000 in
theorem S_L_crossings : Cond.static yL_crossings ∈ rx_good := (rx_g4 107 rfl rfl)
set_option maxRecDepth 100000 in
theorem Y_L_bowTo : rx_YH yL_bowTo cL_bowTo 5 (some .int) [(0, 10, 13, 19), (0, 10, 17, 13)] 4 := ⟨(rx_g4 115 rfl rfl), (rx_g1 0 rfl rfl), by decide +kernel, by decide +kernel, by decide +kernel⟩
set_option maxRecDepth 100000 in
theorem S_L_bowTo : Cond.static yL_bowTo ∈ rx_good := (rx_g4 114 rfl rfl)
set_option maxRecDepth 100000 in
theorem Y_L_bowToKeeper : rx_YH yL_bowToKeeper cL_bowToKeeper 4 (some .int) [(0, 9, 12, 19)] 3 := ⟨(rx_g4 127 rfl rfl), (rx_g1 0 rfl rfl), by decide +kernel, by decide +kernel, by decide +kernel⟩
set_option maxRecDepth 100000 in
theorem S_L_bowToKeeper : Cond.static yL_bowToKeeper ∈ rx_good := (rx_g4 126 rfl rfl)
set_option maxRecDepth 100000 in
theorem Y_L_isTakenForKing : rx_YH yL_isTakenForKing cL_isTakenForKing 4 (some .int) [(0, 16, 19, 19)] 3 := ⟨(rx_g4 135 rfl rfl), (rx_g1 0 rfl rfl), by decide +kernel, by decide +kernel, by decide +kernel⟩
set_option maxRecDepth 100000 in
theorem S_L_isTakenForKing : Cond.static yL_isTakenForKing ∈ rx_good := (rx_g4 134 rfl rfl)
set_option maxRecDepth 100000 in
theorem Y_L_tollOf : rx_YH yL_tollOf cL_tollOf 4 (some .int) [(0, 9, 12, 19)] 3 := ⟨(rx_g4 142 rfl rfl), (rx_g1 0 rfl rfl), by decide +kernel, by decide +kernel, by decide +kernel⟩
set_option maxRecDepth 100000 in
theorem S_L_tollOf : Cond.static yL_tollOf ∈ rx_good := (rx_g4 141 rfl rfl)
set_option maxRecDepth 100000 in
theorem Y_L_cheapestRags : rx_YH yL_cheapestRags cL_cheapestRags 4 (some .int) [(0, 9, 12, 19)] 3 := ⟨(rx_g4 161 rfl rfl), (rx_g1 0 rfl rfl), by decide +kernel, by decide +kernel, by decide +kernel⟩
set_option maxRecDepth 100000 in
theorem S_L_cheapestRags : Cond.static yL_cheapestRags ∈ rx_good := (rx_g4 160 rfl rfl)
set_option maxRecDepth 100000 in
theorem Y_L_royalHolder : rx_YH yL_royalHolder cL_royalHolder 4 (some .int) [(0, 9, 12, 19), (0, 9, 15, 13)] 3 := ⟨(rx_g4 172 rfl rfl), (rx_g1 0 rfl rfl), by decide +kernel, by decide +kernel, by decide +kernel⟩
set_option maxRecDepth 100000 in
theorem S_L_royalHolder : Cond.static yL_royalHolder ∈ rx_good := (rx_g4 171 rfl rfl)
set_option maxRecDepth 100000 in
theorem Y_L_isRoyalCoinEast : rx_YH yL_isRoyalCoinEast cL_isRoyalCoinEast 4 (some .int) [(0, 16, 19, 19), (0, 16, 22, 13)] 3 := ⟨(rx_g4 184 rfl rfl), (rx_g1 0 rfl rfl), by decide +kernel, by decide +kernel, by decide +kernel⟩
set_option maxRecDepth 100000 in
theorem S_L_isRoyalCoinEast : Cond.static yL_isRoyalCoinEast ∈ rx_good := (rx_g4 183 rfl rfl)
set_option maxRecDepth 100000 in
theorem Y_L_isCounted : rx_YH yL_isCounted cL_isCounted 4 (some .int) [(0, 16, 19, 19), (0, 16, 22, 13)] 3 := ⟨(rx_g4 195 rfl rfl), (rx_g1 0 rfl rfl), by decide +kernel, by decide +kernel, by decide +kernel⟩
set_option maxRecDepth 100000 in
theorem S_L_isCounted : Cond.static yL_isCounted ∈ rx_good := (rx_g4 194 rfl rfl)
set_option maxRecDepth 100000 in
theorem Y_L_royalCoins : rx_YH yL_royalCoins cL_royalCoins 4 (some .int) [(0, 9, 12, 19)] 3 := ⟨(rx_g4 202 rfl rfl), (rx_g1 0 rfl rfl), by decide +kernel, by decide +kernel, by decide +kernel⟩
set_option maxRecDepth 100000 in
theorem S_L_royalCoins : Cond.static yL_royalCoins ∈ rx_good := (rx_g4 201 rfl rfl)
set_option maxRecDepth 100000 in
theorem Y_L_offer : rx_YH yL_offer cL_offer 4 (some .int) [(0, 9, 12, 19)] 3 := ⟨(rx_g4 213 rfl rfl), (rx_g1 0 rfl rfl), by decide +kernel, by decide +kernel, by decide +kernel⟩
set_option maxRecDepth 100000 in
theorem S_L_offer : Cond.static yL_offer ∈ rx_good := (rx_g4 212 rfl rfl)
set_option maxRecDepth 100000 in
theorem Y_L_isOpen : rx_YH yL_isOpen cL_isOpen 4 (some .int) [(0, 16, 19, 19)] 3 := ⟨(rx_g4 230 rfl rfl), (rx_g1 0 rfl rfl), by decide +kernel, by decide +kernel, by decide +kernel⟩
set_option maxRecDepth 100000 in
theorem S_L_isOpen : Cond.static yL_isOpen ∈ rx_good := (rx_g4 229 rfl rfl)
set_option maxRecDepth 100000 in
theorem Y_L_firstPlaceOffer : rx_YH yL_firstPlaceOffer cL_firstPlaceOffer 4 (some .int) [(0, 9, 12, 19)] 3 := ⟨(rx_g4 239 rfl rfl), (rx_g1 0 rfl rfl), by decide +kernel, by decide +kernel, by decide +kernel⟩
set_option maxRecDepth 100000 in
theorem S_L_firstPlaceOffer : Cond.static yL_firstPlaceOffer ∈ rx_good := (rx_g4 238 rfl rfl)
set_option maxRecDepth 100000 in
theorem Y_L_turnsUntilCrossing : rx_YH yL_turnsUntilCrossing cL_turnsUntilCrossing 4 (some .int) [(0, 9, 12, 19)] 3 := ⟨(rx_g5 12 rfl rfl), (rx_g1 0 rfl rfl), by decide +kernel, by decide +kernel, by decide +kernel⟩
set_option maxRecDepth 100000 in
theorem S_L_turnsUntilCrossing : Cond.static yL_turnsUntilCrossing ∈ rx_good := (rx_g5 11 rfl rfl)
set_option maxRecDepth 100000 in
theorem Y_L_tollBoxAfter : rx_YH yL_tollBoxAfter cL_tollBoxAfter 4 (some .int) [(0, 9, 12, 13)] 3 := ⟨(rx_g5 53 rfl rfl), (rx_g1 0 rfl rfl), by decide +kernel, by decide +kernel, by decide +kernel⟩
set_option maxRecDepth 100000 in
theorem S_L_tollBoxAfter : Cond.static yL_tollBoxAfter ∈ rx_good := (rx_g5 52 rfl rfl)
set_option maxRecDepth 100000 in
theorem Y_L_limitAngleAfter : rx_YH yL_limitAngleAfter cL_limitAngleAfter 4 (some .int) [(0, 9, 12, 13)] 3 := ⟨(rx_g5 70 rfl rfl), (rx_g1 0 rfl rfl), by decide +kernel, by decide +kernel, by decide +kernel⟩
set_option maxRecDepth 100000 in
theorem S_L_limitAngleAfter : Cond.static yL_limitAngleAfter ∈ rx_good := (rx_g5 69 rfl rfl)
set_option maxRecDepth 100000 in
theorem Y_L_crossingObstacle : rx_YH yL_crossingObstacle cL_crossingObstacle 4 (some .int) [(0, 9, 12, 19)] 3 := ⟨(rx_g5 77 rfl rfl), (rx_g1 0 rfl rfl), by decide +kernel, by decide +kernel, by decide +kernel⟩
set_option maxRecDepth 100000 in
theorem S_L_crossingObstacle : Cond.static yL_crossingObstacle ∈ rx_good := (rx_g5 76 rfl rfl)
set_option maxRecDepth 100000 in
theorem Y_L_dropCoins : rx_YH yL_dropCoins cL_dropCoins 5 (some .int) [(0, 10, 13, 19), (0, 10, 17, 13), (0, 10, 21, 94)] 4 := ⟨(rx_g5 86 rfl rfl), (rx_g1 0 rfl rfl), by decide +kernel, by decide +kernel, by decide +kernel⟩
set_option maxRecDepth 100000 in
theorem S_L_dropCoins : Cond.static yL_dropCoins ∈ rx_good := (rx_g5 85 rfl rfl)
set_option maxRecDepth 100000 in
theorem Y_L_pickCoins : rx_YH yL_pickCoins cL_pickCoins 5 (some .int) [(0, 10, 13, 19), (0, 10, 17, 13), (0, 10, 21, 94)] 4 := ⟨(rx_g5 154 rfl rfl), (rx_g1 0 rfl rfl), by decide +kernel, by decide +kernel, by decide +kernel⟩
set_option maxRecDepth 100000 in
theorem S_L_pickCoins : Cond.static yL_pickCoins ∈ rx_good := (rx_g5 153 rfl rfl)
set_option maxRecDepth 100000 in
theorem Y_L_layRoyalCoin : rx_YH yL_layRoyalCoin cL_layRoyalCoin 5 (some .int) [(0, 10, 13, 19), (0, 10, 17, 13), (0, 10, 21, 94)] 4 := ⟨(rx_g5 167 rfl rfl), (rx_g1 0 rfl rfl), by decide +kernel, by decide +kernel, by decide +kernel⟩
set_option maxRecDepth 100000 in
theorem S_L_layRoyalCoin : Cond.static yL_layRoyalCoin ∈ rx_good := (rx_g5 166 rfl rfl)
set_option maxRecDepth 100000 in
theorem Y_L_liftRoyalCoin : rx_YH yL_liftRoyalCoin cL_liftRoyalCoin 5 (some .int) [(0, 10, 13, 19), (0, 10, 17, 13), (0, 10, 21, 94)] 4 := ⟨(rx_g5 181 rfl rfl), (rx_g1 0 rfl rfl), by decide +kernel, by decide +kernel, by decide +kernel⟩
set_option maxRecDepth 100000 in
theorem S_L_liftRoyalCoin : Cond.static yL_liftRoyalCoin ∈ rx_good := (rx_g5 180 rfl rfl)
set_option maxRecDepth 100000 in
theorem Y_L_swapRags : rx_YH yL_swapRags cL_swapRags 5 (some .int) [(0, 10, 13, 19), (0, 10, 17, 13), (0, 10, 21, 94)] 4 := ⟨(rx_g5 194 rfl rfl), (rx_g1 0 rfl rfl), by decide +kernel, by decide +kernel, by decide +kernel⟩
set_option maxRecDepth 100000 in
theorem S_L_swapRags : Cond.static yL_swapRags ∈ rx_good := (rx_g5 193 rfl rfl)
set_option maxRecDepth 100000 in
theorem Y_L_joinQueue : rx_YH yL_joinQueue cL_joinQueue 5 (some .int) [(0, 10, 13, 19), (0, 10, 17, 13), (0, 10, 21, 94)] 4 := ⟨(rx_g5 207 rfl rfl), (rx_g1 0 rfl rfl), by decide +kernel, by decide +kernel, by decide +kernel⟩
set_option maxRecDepth 100000 in
theorem S_L_joinQueue : Cond.static yL_joinQueue ∈ rx_good := (rx_g5 206 rfl rfl)
set_option maxRecDepth 100000 in
theorem Y_L_quitQueue : rx_YH yL_quitQueue cL_quitQueue 4 (some .int) [(0, 9, 12, 19), (0, 9, 15, 94)] 3 := ⟨(rx_g5 224 rfl rfl), (rx_g1 0 rfl rfl), by decide +kernel, by decide +kernel, by decide +kernel⟩
set_option maxRecDepth 100000 in
theorem S_L_quitQueue : Cond.static yL_quitQueue ∈ rx_good := (rx_g5 223 rfl rfl)
set_option maxRecDepth 100000 in
theorem Y_L_setPride : rx_YH yL_setPride cL_setPride 5 (some .int) [(0, 10, 13, 19), (0, 10, 17, 13)] 4 := ⟨(rx_g5 237 rfl rfl), (rx_g1 0 rfl rfl), by decide +kernel, by decide +kernel, by decide +kernel⟩
set_option maxRecDepth 100000 in
theorem S_L_setPride : Cond.static yL_setPride ∈ rx_good := (rx_g5 236 rfl rfl)
set_option maxRecDepth 100000 in
theorem Y_L_passTurns : rx_YH yL_passTurns cL_passTurns 4 (some .int) [(0, 9, 12, 13), (0, 9, 15, 94)] 3 := ⟨(rx_g6 10 rfl rfl), (rx_g1 0 rfl rfl), by decide +kernel, by decide +kernel, by decide +kernel⟩
set_option maxRecDepth 100000 in
theorem S_L_passTurns : Cond.static yL_passTurns ∈ rx_good := (rx_g6 9 rfl rfl)
set_option maxRecDepth 100000 in
theorem Y_L_runScript : rx_YH yL_runScript cL_runScript 4 (some .int) [(0, 9, 12, 13)] 3 := ⟨(rx_g6 19 rfl rfl), (rx_g1 0 rfl rfl), by decide +kernel, by decide +kernel, by decide +kernel⟩
set_option maxRecDepth 100000 in
theorem S_L_runScript : Cond.static yL_runScript ∈ rx_good := (rx_g6 18 rfl rfl)
set_option maxRecDepth 100000 in
theorem Y_L_outputByte : rx_YH yL_outputByte cL_outputByte 4 (some .int) [(0, 9, 12, 19)] 3 := ⟨(rx_g6 74 rfl rfl), (rx_g1 0 rfl rfl), by decide +kernel, by decide +kernel, by decide +kernel⟩
set_option maxRecDepth 100000 in
theorem S_L_outputByte : Cond.static yL_outputByte ∈ rx_good := (rx_g6 73 rfl rfl)
set_option maxRecDepth 100000 in
theorem Y_L_undo : rx_YH yL_undo cL_undo 3 (some .int) [(0, 8, 11, 94)] 2 := ⟨(rx_g6 82 rfl rfl), (rx_g1 0 rfl rfl), by decide +kernel, by decide +kernel, by decide +kernel⟩
set_option maxRecDepth 100000 in
theorem S_L_undo : Cond.static yL_undo ∈ rx_good := (rx_g6 81 rfl rfl)
set_option maxRecDepth 100000 in
theorem Y_L_restoreSnapshot : rx_YH yL_restoreSnapshot cL_restoreSnapshot 3 (some .int) [(0, 8, 11, 94)] 2 := ⟨(rx_g6 94 rfl rfl), (rx_g1 0 rfl rfl), by decide +kernel, by decide +kernel, by decide +kernel⟩
set_option maxRecDepth 100000 in
theorem S_L_restoreSnapshot : Cond.static yL_restoreSnapshot ∈ rx_good := (rx_g6 93 rfl rfl)
set_option maxRecDepth 100000 in
theorem xl_13 : Cond.classLink RL 13 "java/lang/IllegalArgumentException" ∈ rx_good := (rx_g3 51 rfl rfl)
set_option maxRecDepth 100000 in
theorem xl_19 : Cond.classLink RL 19 "java/lang/IndexOutOfBoundsException" ∈ rx_good := (rx_g4 33 rfl rfl)
set_option maxRecDepth 100000 in
theorem xl_94 : Cond.classLink RL 94 "java/lang/IllegalStateException" ∈ rx_good := (rx_g5 87 rfl rfl)
set_option maxRecDepth 100000 in
theorem xc_1 : Cond.castable "java/lang/IndexOutOfBoundsException" "java/lang/IndexOutOfBoundsException" ∈ rx_nest := (rx_n4 45 rfl rfl)
set_option maxRecDepth 100000 in
theorem xc_2 : Cond.castable "java/lang/IllegalArgumentException" "java/lang/IllegalArgumentException" ∈ rx_nest := (rx_n3 62 rfl rfl)
set_option maxRecDepth 100000 in
theorem xc_3 : Cond.castable "java/lang/IllegalStateException" "java/lang/IllegalStateException" ∈ rx_nest := (rx_n5 128 rfl rfl)
