/-! Calls, starts and ends over the picture. -/
theorem rx_blind {G : va_G} {k : Nat → Nat} {h : hp} {n : Nat} {av : List Value} : FrameBlind (va_Pc av (rx_G G k h n)) := fun a U g mk q => by
  obtain ⟨q0, qP, qV, qT, qS⟩ := q
  exact ⟨q0, qP, rx_V.same (u := U) (U := U.calling g mk a) rfl qV, rx_T.same (u := U) (U := U.calling g mk a) rfl qT, rx_S.moved (u := U) (U := U.calling g mk a) (Vm.Alike.refl U.vm) qS⟩
abbrev rx_A (k : Nat → Nat) : Nat → Prop := fun q => k 0 ≤ q
abbrev rx_B (G : va_G) (k : Nat → Nat) : hp × Nat → State → Prop := fun u t => rx_P G (k 0) u.1 u.2 t.heap
section RXC
variable {p : Program} {l : Launch} {e : Env} {R : Room} {s : State} {m : MethodId} {args : Array Value} {below : List Frame} {meth : Method} {c : Code} {Q : State → Prop} {G : va_G} {k : Nat → Nat} {cc : ByteArray} {own : String} {nL : Nat} {ret : Option FieldType} {cells slots : Nat} {h : hp} {n pc : Nat} {L : List (Nat × Value)} {st : List Value}
def rx_Run (p : Program) (l : Launch) (e : Env) (R : Room) (s : State) (m : MethodId) (args : Array Value) (below : List Frame) (meth : Method) (c : Code) (G : va_G) (k : Nat → Nat) (nL cells slots mc ms : Nat) (h : hp) (n pc : Nat) (L : List (Nat × Value)) (st rest : List Value) (Qa : State → Outcome → State → Prop) : Prop :=
  ∀ (H : Heap) (locs : List Loc) (ls : Array Slot), rx_P G (k 0) h n H → va_S (fun q => k 0 ≤ q) s.heap H locs → lv_has ls nL L → va_Run p l e R s m args below meth c H locs cells slots mc ms (F0 m pc ls st) rest Qa (rx_A k)
theorem rx_fix (C : rx_C G k p m c cc own nL ret s args meth) : CallFix p m c cc nL s args rx_good own := ⟨C.1, C.2.1, C.2.2.2.2.1, C.2.2.1, C.2.2.2.1⟩
theorem rx_pre (C : rx_C G k p m c cc own nL ret s args meth) {H : Heap} {locs : List Loc} (hP : rx_P G (k 0) h n H) (hS : va_S (fun q => k 0 ≤ q) s.heap H locs) (av : List Value) : ∀ U : State, U.heap = H → s.WarmedH U.vm → va_Pc av (rx_G G k h n) av.toArray U := fun U hU hW =>
  ⟨rfl, by rw [hU]; exact hP, rx_V.warm hW C.2.2.2.2.2.2.2.1, rx_T.warm hW C.2.2.2.2.2.2.2.2.1, by rw [hU]; exact rx_S.moved hW.alike (C.2.2.2.2.2.2.2.2.2.kept hS.2.1)⟩
theorem rx_recv (C : rx_C G k p m c cc own nL ret s args meth) {H : Heap} (hP : rx_P G (k 0) h n H) {b ci : Nat} {fs : List Value} (hb : h b = some (.inr (ci, fs))) {Cn : String} {T : u_T} {N : Nat} (hc : vwCl[ci]? = some (Cn, T, N)) : ∃ cellB : Cell, H[b]? = some cellB ∧ cellB.vm.isStatics = false ∧ s.vm.findClass Cn = some cellB.cls :=
  va_recv C.2.2.2.2.2.2.2.1.1 (hP.one hb) (q0 := 0) hc rfl
/-- an object that lies below -/
theorem rx_recvO (C : rx_C G k p m c cc own nL ret s args meth) {H : Heap} {locs : List Loc} (hS : va_S (fun q => k 0 ≤ q) s.heap H locs) {q : Nat} {E : String} (hO : va_O E q (fun q => k 0 ≤ q) s s.heap) : ∃ cellB : Cell, H[q]? = some cellB ∧ cellB.vm.isStatics = false ∧ s.vm.findClass E = some cellB.cls := by
  obtain ⟨cell, h1, h2, h3, -⟩ := hO.kept hS.2.1
  exact ⟨cell, h1, h2, h3⟩
/-- the room that a call wants -/
abbrev rx_R (rm R : Room) (mc ms maxL cells slots : Nat) : Prop := (rm.cells = mc ∧ rm.slots = ms) ∧ (rm.frames + 1 ≤ R.frames ∧ 8 + (maxL + 11) + rm.locals ≤ R.locals) ∧ (cells + mc ≤ R.cells ∧ slots + ms ≤ R.slots)
variable {y : MethodName} {bytes : ByteArray} {maxL mc ms index b np : Nat} {rt : Option FieldType} {rm : Room} {Qc : Array Value → State → Outcome → State → Prop} {As rest : List Value}
/-- the receiver: of the picture, or below it -/
def rx_Rc (k : Nat → Nat) (s : State) (h : hp) (b : Nat) (cls : String) : Prop := (∃ (ci : Nat) (fs : List Value) (T : u_T) (N : Nat), h b = some (.inr (ci, fs)) ∧ vwCl[ci]? = some (cls, T, N)) ∨ va_O cls b (fun q => k 0 ≤ q) s s.heap
theorem rx_Rc.use (C : rx_C G k p m c cc own nL ret s args meth) {H : Heap} {locs : List Loc} (hP : rx_P G (k 0) h n H) (hS : va_S (fun q => k 0 ≤ q) s.heap H locs) {cls : String} (hr : rx_Rc k s h b cls) : ∃ cellB : Cell, H[b]? = some cellB ∧ cellB.vm.isStatics = false ∧ s.vm.findClass cls = some cellB.cls := by
  rcases hr with ⟨ci, fs, T, N, h1, h2⟩ | hO
  · exact rx_recv C hP h1 h2
  · exact rx_recvO C hS hO
theorem rx_rV (C : rx_C G k p m c cc own nL ret s args meth) (hM : Met l y (rx_ws y bytes maxL rt) rm (va_Pc (.ref b :: As) (rx_G G k h n)) Qc mc ms (rx_A k)) (hY : rx_Y y bytes maxL rt np) (hV : rx_YV y) (hlk : Cond.methodLink own index y ∈ rx_good) (hb : rx_Rc k s h b y.cls) (hR : rx_R rm R mc ms maxL cells slots) (hn : As.length = np) (hst : st = As.reverse ++ .ref b :: rest) (hcat : (rest.map fun v => v.category).sum ≤ 8) (hdg : decode cc pc = .ok (.invokevirtual index, 3)) :
    rx_Run p l e R s m args below meth c G k nL cells slots mc ms h n pc L st rest (Qc (Value.ref b :: As).toArray) := fun H locs ls hP hS hl => by
  refine va_runV (rx_fix C) hM (C := y.cls) (cwV np C.2.2.2.1 (rx_goodIn fun w hw => ?_) rfl hR.1.1 hR.1.2 ⟨rfl, hY.2.2⟩ hR.2.1) ⟨rx_blind, rx_Rc.use C hP hS hb, rx_pre C hP hS _⟩ rfl hn hl.1 hst (lv_room hcat) hdg hR.2.2
  simp only [wsV, rx_ws, List.mem_append, List.mem_cons, List.not_mem_nil, or_false] at hw
  rcases hw with (rfl | rfl | rfl | rfl) | rfl | hw
  · exact hlk
  · exact hV.1
  · exact hV.2
  · exact hY.2.1
  · exact hY.1
  · exact hw
theorem rx_rVN (C : rx_C G k p m c cc own nL ret s args meth) (hM : Met l y (rx_ws y bytes maxL rt) rm (va_Pc (.ref b :: As) (rx_G G k h n)) Qc mc ms (rx_A k)) (hY : rx_Y y bytes maxL rt np) (hV : rx_YV y) {host : String} (hlk : Cond.methodLinkNest own index y host ∈ rx_nest) (hb : rx_Rc k s h b y.cls) (hR : rx_R rm R mc ms maxL cells slots) (hn : As.length = np) (hst : st = As.reverse ++ .ref b :: rest) (hcat : (rest.map fun v => v.category).sum ≤ 8) (hdg : decode cc pc = .ok (.invokevirtual index, 3)) :
    rx_Run p l e R s m args below meth c G k nL cells slots mc ms h n pc L st rest (Qc (Value.ref b :: As).toArray) := fun H locs ls hP hS hl =>
  va_runVN (rx_fix C) hM ⟨va_cnB np C.2.2.2.1 (rx_goodWs hY.1) rfl hR.1.1 hR.1.2 (C.2.2.2.2.2.2.2.1.2.1 _ hlk) (C.2.2.2.1 _ hY.2.1) hY.2.2 hR.2.1, C.2.2.2.1 _ hV.1, C.2.2.2.1 _ hV.2⟩ ⟨rx_blind, rx_Rc.use C hP hS hb, rx_pre C hP hS _⟩ rfl hn hl.1 hst (lv_room hcat) hdg hR.2.2
theorem rx_rS (C : rx_C G k p m c cc own nL ret s args meth) (hM : Met l y (rx_ws y bytes maxL rt) rm (va_Pc As (rx_G G k h n)) Qc mc ms (rx_A k)) (hY : rx_Y y bytes maxL rt np) (hSt : Cond.static y ∈ rx_good) (hlk : Cond.methodLink own index y ∈ rx_good) (hR : rx_R rm R mc ms maxL cells slots) (hn : As.length = np) (hst : st = As.reverse ++ rest) (hcat : (rest.map fun v => v.category).sum ≤ 8) (hdg : decode cc pc = .ok (.invokestatic index, 3)) :
    rx_Run p l e R s m args below meth c G k nL cells slots mc ms h n pc L st rest (Qc As.toArray) := fun H locs ls hP hS hl =>
  va_runS (rx_fix C) hM ⟨callB_of np C.2.2.2.1 (rx_goodWs hY.1) rfl hR.1.1 hR.1.2 (C.2.2.2.1 _ hY.2.1) (C.2.2.2.1 _ hlk) hY.2.2 hR.2.1, C.2.2.2.1 _ hSt⟩ ⟨rx_blind, rx_pre C hP hS _⟩ rfl hn hl.1 hst (lv_room hcat) hdg hR.2.2
theorem rx_rSN (C : rx_C G k p m c cc own nL ret s args meth) (hM : Met l y (rx_ws y bytes maxL rt) rm (va_Pc As (rx_G G k h n)) Qc mc ms (rx_A k)) (hY : rx_Y y bytes maxL rt np) (hSt : Cond.static y ∈ rx_good) {host : String} (hlk : Cond.methodLinkNest own index y host ∈ rx_nest) (hR : rx_R rm R mc ms maxL cells slots) (hn : As.length = np) (hst : st = As.reverse ++ rest) (hcat : (rest.map fun v => v.category).sum ≤ 8) (hdg : decode cc pc = .ok (.invokestatic index, 3)) :
    rx_Run p l e R s m args below meth c G k nL cells slots mc ms h n pc L st rest (Qc As.toArray) := fun H locs ls hP hS hl =>
  va_runSN (rx_fix C) hM ⟨va_cnB np C.2.2.2.1 (rx_goodWs hY.1) rfl hR.1.1 hR.1.2 (C.2.2.2.2.2.2.2.1.2.1 _ hlk) (C.2.2.2.1 _ hY.2.1) hY.2.2 hR.2.1, C.2.2.2.1 _ hSt, trivial⟩ ⟨rx_blind, rx_pre C hP hS _⟩ rfl hn hl.1 hst (lv_room hcat) hdg hR.2.2
theorem rx_rI (C : rx_C G k p m c cc own nL ret s args meth) (hM : Met l y (rx_ws y bytes maxL none) rm (va_Pc (.ref b :: As) (rx_G G k h n)) Qc mc ms (rx_A k)) (hY : rx_Y y bytes maxL none np) (hI : Cond.instanceMethod y ∈ rx_good) (hy1 : y.name = "<init>") (hlk : Cond.methodLink own index y ∈ rx_good) (hR : rx_R rm R mc ms maxL cells slots) (hn : As.length = np) (hst : st = As.reverse ++ .ref b :: rest) (hcat : (rest.map fun v => v.category).sum ≤ 8) (hdg : decode cc pc = .ok (.invokespecial index, 3)) :
    rx_Run p l e R s m args below meth c G k nL cells slots mc ms h n pc L st rest (Qc (Value.ref b :: As).toArray) := fun H locs ls hP hS hl =>
  va_runI (rx_fix C) hM (cwI np C.2.2.2.1 (rx_goodWs hY.1) rfl hR.1.1 hR.1.2 (C.2.2.2.1 _ hY.2.1) (C.2.2.2.1 _ hlk) (C.2.2.2.1 _ hI) hy1 hY.2.2 hR.2.1) ⟨rx_blind, rx_pre C hP hS _⟩ rfl hn hl.1 hst (lv_room hcat) hdg hR.2.2
theorem rx_rIN (C : rx_C G k p m c cc own nL ret s args meth) (hM : Met l y (rx_ws y bytes maxL none) rm (va_Pc (.ref b :: As) (rx_G G k h n)) Qc mc ms (rx_A k)) (hY : rx_Y y bytes maxL none np) (hI : Cond.instanceMethod y ∈ rx_good) (hy1 : y.name = "<init>") {host : String} (hlk : Cond.methodLinkNest own index y host ∈ rx_nest) (hR : rx_R rm R mc ms maxL cells slots) (hn : As.length = np) (hst : st = As.reverse ++ .ref b :: rest) (hcat : (rest.map fun v => v.category).sum ≤ 8) (hdg : decode cc pc = .ok (.invokespecial index, 3)) :
    rx_Run p l e R s m args below meth c G k nL cells slots mc ms h n pc L st rest (Qc (Value.ref b :: As).toArray) := fun H locs ls hP hS hl =>
  va_runIN (rx_fix C) hM ⟨va_cnB np C.2.2.2.1 (rx_goodWs hY.1) rfl hR.1.1 hR.1.2 (C.2.2.2.2.2.2.2.1.2.1 _ hlk) (C.2.2.2.1 _ hY.2.1) hY.2.2 hR.2.1, hy1, C.2.2.2.1 _ hI⟩ ⟨rx_blind, rx_pre C hP hS _⟩ rfl hn hl.1 hst (lv_room hcat) hdg hR.2.2
/-- behind a call -/
theorem rx_ci {a : Array Value} {post : Int32 → hp × Nat → Prop} (hr : rx_Run p l e R s m args below meth c G k nL cells slots mc ms h n pc L st rest (va_Qi post (rx_B G k) (rx_A k) a))
    (K : ∀ (r : Int32) (h1 : hp) (n1 : Nat), post r (h1, n1) → rx_W p l e R s m args below meth c Q G k nL (cells + mc) (slots + ms) h1 n1 (pc + 3) L (.int r :: rest)) : rx_W p l e R s m args below meth c Q G k nL cells slots h n pc L st := fun H locs ls hP hS hl =>
  va_calli (hr H locs ls hP hS hl) hS (fun _ _ h => h) (fun _ h => h) (fun r u t H1 locs1 ht hvm hw hB hz1 hk1 hS1 => K r u.1 u.2 hw H1 locs1 ls (by rw [← ht]; exact hB) hS1 hl)
theorem rx_cv {a : Array Value} {post : hp × Nat → Prop} (hr : rx_Run p l e R s m args below meth c G k nL cells slots mc ms h n pc L st rest (va_Qv post (rx_B G k) (rx_A k) a))
    (K : ∀ (h1 : hp) (n1 : Nat), post (h1, n1) → rx_W p l e R s m args below meth c Q G k nL (cells + mc) (slots + ms) h1 n1 (pc + 3) L rest) : rx_W p l e R s m args below meth c Q G k nL cells slots h n pc L st := fun H locs ls hP hS hl =>
  va_callv (hr H locs ls hP hS hl) hS (fun _ _ h => h) (fun _ h => h) (fun u t H1 locs1 ht hvm hw hB hz1 hk1 hS1 => K u.1 u.2 hw H1 locs1 ls (by rw [← ht]; exact hB) hS1 hl)
theorem rx_cq {a : Array Value} {post : Option Nat → hp × Nat → Prop} (hr : rx_Run p l e R s m args below meth c G k nL cells slots mc ms h n pc L st rest (va_Qq post (rx_B G k) (rx_A k) a))
    (K : ∀ (r : Option Nat) (h1 : hp) (n1 : Nat), post r (h1, n1) → rx_W p l e R s m args below meth c Q G k nL (cells + mc) (slots + ms) h1 n1 (pc + 3) L (va_rf r :: rest)) : rx_W p l e R s m args below meth c Q G k nL cells slots h n pc L st := fun H locs ls hP hS hl =>
  va_callq (hr H locs ls hP hS hl) hS (fun _ _ h => h) (fun _ h => h) (fun r u t H1 locs1 ht hvm hw hB hz1 hk1 hS1 => K r u.1 u.2 hw H1 locs1 ls (by rw [← ht]; exact hB) hS1 hl)
theorem rx_cd {a : Array Value} {post : UInt64 → hp × Nat → Prop} (hr : rx_Run p l e R s m args below meth c G k nL cells slots mc ms h n pc L st rest (va_Qd post (rx_B G k) (rx_A k) a))
    (K : ∀ (r : UInt64) (h1 : hp) (n1 : Nat), post r (h1, n1) → rx_W p l e R s m args below meth c Q G k nL (cells + mc) (slots + ms) h1 n1 (pc + 3) L (.double r :: rest)) : rx_W p l e R s m args below meth c Q G k nL cells slots h n pc L st := fun H locs ls hP hS hl =>
  va_calld (hr H locs ls hP hS hl) hS (fun _ _ h => h) (fun _ h => h) (fun r u t H1 locs1 ht hvm hw hB hz1 hk1 hS1 => K r u.1 u.2 hw H1 locs1 ls (by rw [← ht]; exact hB) hS1 hl)
theorem rx_cf {a : Array Value} {post : UInt32 → hp × Nat → Prop} (hr : rx_Run p l e R s m args below meth c G k nL cells slots mc ms h n pc L st rest (va_Qf post (rx_B G k) (rx_A k) a))
    (K : ∀ (r : UInt32) (h1 : hp) (n1 : Nat), post r (h1, n1) → rx_W p l e R s m args below meth c Q G k nL (cells + mc) (slots + ms) h1 n1 (pc + 3) L (.float r :: rest)) : rx_W p l e R s m args below meth c Q G k nL cells slots h n pc L st := fun H locs ls hP hS hl =>
  va_callf (hr H locs ls hP hS hl) hS (fun _ _ h => h) (fun _ h => h) (fun r u t H1 locs1 ht hvm hw hB hz1 hk1 hS1 => K r u.1 u.2 hw H1 locs1 ls (by rw [← ht]; exact hB) hS1 hl)
/-- a method's ends -/
theorem rx_iret (C : rx_C G k p m c cc own nL (some .int) s args meth) {post : Int32 → hp × Nat → Prop} {v : Int32} (hdg : decode cc pc = .ok (.ireturn, 1)) (h1 : cells ≤ mc) (h2 : slots ≤ ms) (hp : post v (h, n)) : rx_W p l e R s m args below meth c (MQ below (va_Qi post (rx_B G k) (rx_A k)) args s mc ms (rx_A k)) G k nL cells slots h n pc L [.int v] := fun H locs ls hP hS hl =>
  W.widen h1 h2 (W.iret (v := v) C.1 C.2.1 C.2.2.2.2.2.1 (fun t ht hW => ⟨⟨v, (h, n), rfl, hp, by show rx_P G (k 0) h n t.heap; rw [ht]; exact hP⟩, hS.F ht⟩) hS.2.2 hdg C.2.2.2.2.2.2.1)
theorem rx_zret {ty : FieldType} (C : rx_C G k p m c cc own nL (some ty) s args meth) {post : Int32 → hp × Nat → Prop} {v : Int32} (hn : narrow ty (.int v) = .int v) (hdg : decode cc pc = .ok (.ireturn, 1)) (h1 : cells ≤ mc) (h2 : slots ≤ ms) (hp : post v (h, n)) : rx_W p l e R s m args below meth c (MQ below (va_Qi post (rx_B G k) (rx_A k)) args s mc ms (rx_A k)) G k nL cells slots h n pc L [.int v] := fun H locs ls hP hS hl =>
  W.widen h1 h2 (W.zret (v := v) C.1 C.2.1 C.2.2.2.2.2.1 hn (fun t ht hW => ⟨⟨v, (h, n), rfl, hp, by show rx_P G (k 0) h n t.heap; rw [ht]; exact hP⟩, hS.F ht⟩) hS.2.2 hdg C.2.2.2.2.2.2.1)
theorem rx_vret (C : rx_C G k p m c cc own nL none s args meth) {post : hp × Nat → Prop} (hdg : decode cc pc = .ok (.return_, 1)) (h1 : cells ≤ mc) (h2 : slots ≤ ms) (hp : post (h, n)) : rx_W p l e R s m args below meth c (MQ below (va_Qv post (rx_B G k) (rx_A k)) args s mc ms (rx_A k)) G k nL cells slots h n pc L [] := fun H locs ls hP hS hl =>
  W.widen h1 h2 (W.vret C.1 C.2.1 C.2.2.2.2.2.1 (fun t ht hW => ⟨⟨(h, n), rfl, hp, by show rx_P G (k 0) h n t.heap; rw [ht]; exact hP⟩, hS.F ht⟩) hS.2.2 hdg C.2.2.2.2.2.2.1)
theorem rx_qret {C9 : String} (C : rx_C G k p m c cc own nL (some (.object C9)) s args meth) {post : Option Nat → hp × Nat → Prop} {v : Option Nat} (hdg : decode cc pc = .ok (.areturn, 1)) (h1 : cells ≤ mc) (h2 : slots ≤ ms) (hp : post v (h, n)) : rx_W p l e R s m args below meth c (MQ below (va_Qq post (rx_B G k) (rx_A k)) args s mc ms (rx_A k)) G k nL cells slots h n pc L [va_rf v] := fun H locs ls hP hS hl =>
  W.widen h1 h2 (W.aret (v := va_rf v) C.1 C.2.1 C.2.2.2.2.2.1 (Or.inl ⟨_, rfl⟩) (by cases v with | none => exact Or.inl rfl | some a => exact Or.inr ⟨a, rfl⟩) (fun t ht hW => ⟨⟨v, (h, n), rfl, hp, by show rx_P G (k 0) h n t.heap; rw [ht]; exact hP⟩, hS.F ht⟩) hS.2.2 hdg C.2.2.2.2.2.2.1)
theorem rx_dret (C : rx_C G k p m c cc own nL (some .double) s args meth) {post : UInt64 → hp × Nat → Prop} {v : UInt64} (hdg : decode cc pc = .ok (.dreturn, 1)) (h1 : cells ≤ mc) (h2 : slots ≤ ms) (hp : post v (h, n)) : rx_W p l e R s m args below meth c (MQ below (va_Qd post (rx_B G k) (rx_A k)) args s mc ms (rx_A k)) G k nL cells slots h n pc L [.double v] := fun H locs ls hP hS hl =>
  W.widen h1 h2 (W.dret (v := v) C.1 C.2.1 C.2.2.2.2.2.1 (fun t ht hW => ⟨⟨v, (h, n), rfl, hp, by show rx_P G (k 0) h n t.heap; rw [ht]; exact hP⟩, hS.F ht⟩) hS.2.2 hdg C.2.2.2.2.2.2.1)
theorem rx_fret (C : rx_C G k p m c cc own nL (some .float) s args meth) {post : UInt32 → hp × Nat → Prop} {v : UInt32} (hdg : decode cc pc = .ok (.freturn, 1)) (h1 : cells ≤ mc) (h2 : slots ≤ ms) (hp : post v (h, n)) : rx_W p l e R s m args below meth c (MQ below (va_Qf post (rx_B G k) (rx_A k)) args s mc ms (rx_A k)) G k nL cells slots h n pc L [.float v] := fun H locs ls hP hS hl =>
  W.widen h1 h2 (W.fret (v := v) C.1 C.2.1 C.2.2.2.2.2.1 (fun t ht hW => ⟨⟨v, (h, n), rfl, hp, by show rx_P G (k 0) h n t.heap; rw [ht]; exact hP⟩, hS.F ht⟩) hS.2.2 hdg C.2.2.2.2.2.2.1)
/-- a method's start -/
theorem rx_start {av : List Value} (L0 : List (Nat × Value)) (hL : lv_args 0 av = L0) (hlen : (lg_sl av).length ≤ maxL) (hpl : plainName y.cls = true) (hr9 : rt = rt)
    (body : ∀ (p : Program) (e : Env) (s : State) (m : MethodId) (args : Array Value) (below : List Frame) (meth : Method) (c : Code), rx_C G k p m c bytes y.cls maxL rt s args meth → meth.name = y.name → rx_W p l e rm s m args below meth c (MQ below Qc args s mc ms (rx_A k)) G k maxL 0 0 h n 0 L0 []) :
    Met l y (rx_ws y bytes maxL rt) rm (va_Pc av (rx_G G k h n)) Qc mc ms (rx_A k) := by
  refine Met.ofW (cc := bytes) (maxL := maxL) (ret := rt) hpl rfl ?_
  intro p e s m args below meth c s₁ B hml hv
  obtain ⟨rfl, hP, hV, hT, hS0⟩ := hv
  have hts := atoms_spec (ws := rx_ws y bytes maxL rt) B.pre
  have hl := lv_entry av (n := maxL) hlen
  rw [lg_entry_eq]
  rw [hL] at hl
  exact body p e s m av.toArray below meth c ⟨B.exec, B.bytes, findClass_of_methodNamed B.named, fun w hw => hts w (List.mem_cons_of_mem _ hw), hml, B.returns, B.notSynchronized, hV, hT, hS0⟩ (name_of_methodNamed B.named B.method).1 s.heap [] _ hP va_S.rf hl
end RXC
