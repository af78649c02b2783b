/-! Methods that throw: the exception's class by a number. -/
abbrev rx_nm : List String := ["java/lang/RuntimeException", "java/lang/Exception"]
def rx_ex (c : Int32) : String := if c = 1 then "java/lang/IndexOutOfBoundsException" else if c = 2 then "java/lang/IllegalArgumentException" else "java/lang/IllegalStateException"
theorem rx_cases {ws : List Cond} (h : ws.all (fun w => decide (w ∈ lw_tbl) && (goodWord w || rx_isNest w)) = true) : ∀ w ∈ ws, w ∈ rx_good ∨ w ∈ rx_nest := fun w hw => by
  have h1 := List.all_eq_true.mp h w hw
  simp only [Bool.and_eq_true, decide_eq_true_eq, Bool.or_eq_true] at h1
  rcases h1.2 with h2 | h2
  · exact Or.inl (List.mem_filter.mpr ⟨h1.1, h2⟩)
  · exact Or.inr (List.mem_filter.mpr ⟨h1.1, h2⟩)
/-- an exception's making: all the words it wants -/
def rx_XW (own : String) (ik ic : Nat) (cls : String) : Prop := Bundle.fit cls = true ∧ (∀ n ∈ rx_nm, Bundle.fit n = true) ∧ Cond.classLink own ik cls ∈ rx_good ∧ Cond.initialized cls ∈ rx_good ∧ (∀ w ∈ vx_atS own ic cls rx_nm, w ∈ rx_good ∨ w ∈ rx_nest) ∧ ∀ w ∈ Cond.classLink own ik cls :: Cond.initialized cls :: vx_atS own ic cls rx_nm, vx_ot w = true
abbrev rx_BX (G : va_G) (k : Nat → Nat) (pX : String → hp × Nat → Prop) : String → hp × Nat → State → Prop := fun E u t => pX E u ∧ rx_P G (k 0) u.1 u.2 t.heap
abbrev rx_XC (G : va_G) (k : Nat → Nat) (pX : String → hp × Nat → Prop) : String → State → State → Prop := vx_X (fun _ : hp × Nat => True) (rx_BX G k pX) (rx_A k)
section RXX
variable {p : Program} {l : Launch} {e : Env} {R : Room} {s : State} {m : MethodId} {args : Array Value} {below : List Frame} {meth : Method} {c : Code} {Q : State → Prop} {G : va_G} {k : Nat → Nat} {cc : ByteArray} {own : String} {nL : Nat} {ret : Option FieldType} {cells slots : Nat} {h : hp} {n pc : Nat} {L : List (Nat × Value)} {st : List Value}
variable {y : MethodName} {bytes : ByteArray} {maxL mc ms index b np : Nat} {rt : Option FieldType} {rm : Room} {Qc : Array Value → State → Outcome → State → Prop} {XC : String → State → State → Prop} {As rest : List Value}
def rx_RunX (p : Program) (l : Launch) (e : Env) (R : Room) (s : State) (m : MethodId) (args : Array Value) (below : List Frame) (meth : Method) (c : Code) (G : va_G) (k : Nat → Nat) (nL cells slots mc ms : Nat) (h : hp) (n pc : Nat) (L : List (Nat × Value)) (st rest : List Value) (Qa : State → Outcome → State → Prop) (XC : String → State → State → Prop) : Prop :=
  ∀ (H : Heap) (locs : List Loc) (ls : Array Slot), rx_P G (k 0) h n H → va_S (fun q => k 0 ≤ q) s.heap H locs → lv_has ls nL L → vx_Run p l e R s m args below meth c H locs cells slots mc ms (F0 m pc ls st) rest Qa XC (rx_A k)
/-- an exception of class E on its way, from the instruction at pc -/
def rx_WX (p : Program) (l : Launch) (e : Env) (R : Room) (s : State) (m : MethodId) (args : Array Value) (below : List Frame) (meth : Method) (c : Code) (Q : State → Prop) (G : va_G) (k : Nat → Nat) (nL cells slots : Nat) (h : hp) (n pc : Nat) (L : List (Nat × Value)) (E : String) : Prop :=
  ∀ (H : Heap) (locs : List Loc) (ls : Array Slot) (rest : List Value) (ce : Cell) (q9 : Addr), rx_P G (k 0) h n H → va_S (fun q => k 0 ≤ q) s.heap H locs → lv_has ls nL L → H[q9]? = some ce → ce.vm = .none → s.vm.findClass E = some ce.cls → vx_W p l e R s m args below meth c H locs cells slots Q (F0 m pc ls rest) q9
theorem rx_rVX (C : rx_C G k p m c cc own nL ret s args meth) (hM : vx_Met l y (rx_ws y bytes maxL rt) rm (va_Pc (.ref b :: As) (rx_G G k h n)) Qc XC mc ms (rx_A k)) (hY : rx_Y y bytes maxL rt np) (hV : rx_YV y) (hlk : Cond.methodLink own index y ∈ rx_good) (hb : rx_Rc k s h b y.cls) (hR : rx_R rm R mc ms maxL cells slots) (hn : As.length = np) (hst : st = As.reverse ++ .ref b :: rest) (hcat : (rest.map fun v => v.category).sum ≤ 8) (hdg : decode cc pc = .ok (.invokevirtual index, 3)) :
    rx_RunX p l e R s m args below meth c G k nL cells slots mc ms h n pc L st rest (Qc (Value.ref b :: As).toArray) XC := fun H locs ls hP hS hl => by
  refine vx_runV (rx_fix C) hM (C := y.cls) (cwV np C.2.2.2.1 (rx_goodIn fun w hw => ?_) rfl hR.1.1 hR.1.2 ⟨rfl, hY.2.2⟩ hR.2.1) ⟨rx_blind, rx_Rc.use C hP hS hb, rx_pre C hP hS _⟩ rfl hn hl.1 hst (lv_room hcat) hdg hR.2.2
  simp only [wsV, rx_ws, List.mem_append, List.mem_cons, List.not_mem_nil, or_false] at hw
  rcases hw with (rfl | rfl | rfl | rfl) | rfl | hw
  · exact hlk
  · exact hV.1
  · exact hV.2
  · exact hY.2.1
  · exact hY.1
  · exact hw
theorem rx_xci {a : Array Value} {post : Int32 → hp × Nat → Prop} {pX : String → hp × Nat → Prop} (hr : rx_RunX p l e R s m args below meth c G k nL cells slots mc ms h n pc L st rest (va_Qi post (rx_B G k) (rx_A k) a) (rx_XC G k pX))
    (KX : ∀ (E : String) (h1 : hp) (n1 : Nat), pX E (h1, n1) → rx_WX p l e R s m args below meth c Q G k nL (cells + mc) (slots + ms) h1 n1 pc L E)
    (K : ∀ (r : Int32) (h1 : hp) (n1 : Nat), post r (h1, n1) → rx_W p l e R s m args below meth c Q G k nL (cells + mc) (slots + ms) h1 n1 (pc + 3) L (.int r :: rest)) : rx_W p l e R s m args below meth c Q G k nL cells slots h n pc L st := fun H locs ls hP hS hl =>
  vx_calli (hr H locs ls hP hS hl) hS (fun _ _ h => h) (fun _ h => h) (fun _ _ h => h) (fun E ce q9 u t H1 locs1 ht hvm _ hB hz1 hk1 hS1 g1 g2 g3 => KX E u.1 u.2 hB.1 H1 locs1 ls rest ce q9 (by rw [← ht]; exact hB.2) hS1 hl g1 g2 g3) (fun r u t H1 locs1 ht hvm hw hB hz1 hk1 hS1 => K r u.1 u.2 hw H1 locs1 ls (by rw [← ht]; exact hB) hS1 hl)
theorem rx_xcv {a : Array Value} {post : hp × Nat → Prop} {pX : String → hp × Nat → Prop} (hr : rx_RunX p l e R s m args below meth c G k nL cells slots mc ms h n pc L st rest (va_Qv post (rx_B G k) (rx_A k) a) (rx_XC G k pX))
    (KX : ∀ (E : String) (h1 : hp) (n1 : Nat), pX E (h1, n1) → rx_WX p l e R s m args below meth c Q G k nL (cells + mc) (slots + ms) h1 n1 pc L E)
    (K : ∀ (h1 : hp) (n1 : Nat), post (h1, n1) → rx_W p l e R s m args below meth c Q G k nL (cells + mc) (slots + ms) h1 n1 (pc + 3) L rest) : rx_W p l e R s m args below meth c Q G k nL cells slots h n pc L st := fun H locs ls hP hS hl =>
  vx_callv (hr H locs ls hP hS hl) hS (fun _ _ h => h) (fun _ h => h) (fun _ _ h => h) (fun E ce q9 u t H1 locs1 ht hvm _ hB hz1 hk1 hS1 g1 g2 g3 => KX E u.1 u.2 hB.1 H1 locs1 ls rest ce q9 (by rw [← ht]; exact hB.2) hS1 hl g1 g2 g3) (fun u t H1 locs1 ht hvm hw hB hz1 hk1 hS1 => K u.1 u.2 hw H1 locs1 ls (by rw [← ht]; exact hB) hS1 hl)
/-- the exception leaves a method without a table -/
theorem rx_xout (C : rx_C G k p m c cc own nL ret s args meth) {E : String} {pX : String → hp × Nat → Prop} (hno : ∀ x ∈ c.exceptionTable.toList, False) (hc : cells ≤ mc) (hs : slots ≤ ms) (hp : pX E (h, n)) : rx_WX p l e R s m args below meth c (vx_MQ below Qc (rx_XC G k pX) args s mc ms (rx_A k)) G k nL cells slots h n pc L E := fun H locs ls rest ce q9 hP hS hl g1 g2 g3 =>
  vx_out (fun x hx => (hno x hx).elim) C.2.2.2.2.2.2.1 g1 g2 g3 (fun t ht hvm => ⟨(h, n), trivial, ⟨hp, by rw [ht]; exact hP⟩, hS.F ht⟩) hS.2.2 hc hs
theorem rx_xret {mc ms : Nat} (K : rx_W p l e R s m args below meth c (MQ below Qc args s mc ms (rx_A k)) G k nL cells slots h n pc L st) : rx_W p l e R s m args below meth c (vx_MQ below Qc XC args s mc ms (rx_A k)) G k nL cells slots h n pc L st := fun H locs ls hP hS hl => vx_ret (K H locs ls hP hS hl)
theorem rx_throwFacts (C : rx_C G k p m c cc own nL ret s args meth) {H : Heap} {locs : List Loc} (hP : rx_P G (k 0) h n H) (hS : va_S (fun q => k 0 ≤ q) s.heap H locs) {pX : String → hp × Nat → Prop} {cls : String} (hp : ∀ n1, n ≤ n1 → pX cls (h, n1)) : ∀ t : State, s.vm.Alike t.vm → H.size ≤ t.heap.size → (∀ q : Nat, q < H.size → t.heap[q]? = H[q]?) → rx_XC G k pX cls s t := fun t hvm hz hq =>
  ⟨(h, t.heap.size), trivial, ⟨hp _ (by rw [← hP.1]; exact hz), ⟨rfl, by have := hP.2.1; have := hP.1; omega, fun a x ha => by
    obtain ⟨g1, g2, g3⟩ := hP.2.2 a x ha
    have hlt : a < H.size := by rw [hP.1]; exact g2
    exact ⟨g1, Nat.lt_of_lt_of_le hlt hz, g3.kept (hq a hlt)⟩⟩⟩, ⟨Nat.le_trans hS.1 hz, fun q h1 h2 => (hq q (Nat.lt_of_lt_of_le h1 hS.1)).trans (hS.2.1 q h1 h2)⟩⟩
theorem rx_hat (C : rx_C G k p m c cc own nL ret s args meth) {ws : List Cond} (h : ∀ w ∈ ws, w ∈ rx_good ∨ w ∈ rx_nest) : ∀ w ∈ ws, w.before args s = true := fun w hw => by
  rcases h w hw with h1 | h1
  · exact C.2.2.2.1 w h1
  · exact va_Nw.use (by
      have h2 := (List.mem_filter.mp h1).2
      cases w <;> first | rfl | (simp [rx_isNest] at h2; done)) (C.2.2.2.2.2.2.2.1.2.1 w h1)
theorem rx_throw (C : rx_C G k p m c cc own nL ret s args meth) (hl : l.stackTraces = false) {ik ic is t : Nat} {cls text : String} {pX : String → hp × Nat → Prop} (hw : rx_XW own ik ic cls) (hm : (own, is, text, t) ∈ rx_sr) (hno : ∀ x ∈ c.exceptionTable.toList, False)
    (d0 : decode cc pc = .ok (.new ik, 3)) (d3 : decode cc (pc + 3) = .ok (.dup, 1)) (d4 : decode cc (pc + 4) = .ok (.ldc is, 2)) (d6 : decode cc (pc + 6) = .ok (.invokespecial ic, 3)) (d9 : decode cc (pc + 9) = .ok (.athrow, 1))
    (hRf : 5 < R.frames) (hRl : (st.map fun v => v.category).sum + 82 ≤ R.locals) (hRc : cells + 1 ≤ R.cells) (hRs : slots + 6 ≤ R.slots) (hc : cells + 1 ≤ mc) (hs : slots + 6 ≤ ms) (hp : ∀ n1, n ≤ n1 → pX cls (h, n1)) :
    rx_W p l e R s m args below meth c (vx_MQ below Qc (rx_XC G k pX) args s mc ms (rx_A k)) G k nL cells slots h n pc L st := fun H locs ls hP hS hl2 =>
  vx_throwS C.1 C.2.1 hl C.2.2.1 hw.1 hw.2.1 (C.2.2.2.1 _ hw.2.2.1) (C.2.2.2.1 _ hw.2.2.2.1) (C.2.2.2.2.2.2.2.2.1 _ hm) (rx_hat C hw.2.2.2.2.1) hw.2.2.2.2.2 C.2.2.2.2.2.2.2.2.2.2.2.2.2.2.2.2.2.1 C.2.2.2.2.2.2.2.2.2.2.2.2.2.2.2.2.2.2 hS (by rw [hl2.1, C.2.2.2.2.1]) d0 d3 d4 d6 d9 (fun x hx => (hno x hx).elim) hRf hRl hRc hRs C.2.2.2.2.2.2.1 (rx_throwFacts C hP hS hp) hS.2.2 hc hs
theorem rx_throwW (C : rx_C G k p m c cc own nL ret s args meth) (hl : l.stackTraces = false) {ik ic is t : Nat} {cls text : String} {pX : String → hp × Nat → Prop} (hw : rx_XW own ik ic cls) (hm : (own, is, text, t) ∈ rx_sr) (hno : ∀ x ∈ c.exceptionTable.toList, False)
    (d0 : decode cc pc = .ok (.new ik, 3)) (d3 : decode cc (pc + 3) = .ok (.dup, 1)) (d4 : decode cc (pc + 4) = .ok (.ldc_w is, 3)) (d7 : decode cc (pc + 7) = .ok (.invokespecial ic, 3)) (d10 : decode cc (pc + 10) = .ok (.athrow, 1))
    (hRf : 5 < R.frames) (hRl : (st.map fun v => v.category).sum + 82 ≤ R.locals) (hRc : cells + 1 ≤ R.cells) (hRs : slots + 6 ≤ R.slots) (hc : cells + 1 ≤ mc) (hs : slots + 6 ≤ ms) (hp : ∀ n1, n ≤ n1 → pX cls (h, n1)) :
    rx_W p l e R s m args below meth c (vx_MQ below Qc (rx_XC G k pX) args s mc ms (rx_A k)) G k nL cells slots h n pc L st := fun H locs ls hP hS hl2 =>
  vx_throwSW C.1 C.2.1 hl C.2.2.1 hw.1 hw.2.1 (C.2.2.2.1 _ hw.2.2.1) (C.2.2.2.1 _ hw.2.2.2.1) (C.2.2.2.2.2.2.2.2.1 _ hm) (rx_hat C hw.2.2.2.2.1) hw.2.2.2.2.2 C.2.2.2.2.2.2.2.2.2.2.2.2.2.2.2.2.2.1 C.2.2.2.2.2.2.2.2.2.2.2.2.2.2.2.2.2.2 hS (by rw [hl2.1, C.2.2.2.2.1]) d0 d3 d4 d7 d10 (fun x hx => (hno x hx).elim) hRf hRl hRc hRs C.2.2.2.2.2.2.1 (rx_throwFacts C hP hS hp) hS.2.2 hc hs
theorem rx_startX {av : List Value} (L0 : List (Nat × Value)) (hL : lv_args 0 av = L0) (hlen : (lg_sl av).length ≤ maxL) (hpl : plainName y.cls = true)
    (body : ∀ (p : Program) (e : Env) (s : State) (m : MethodId) (args : Array Value) (below : List Frame) (meth : Method) (c : Code), rx_C G k p m c bytes y.cls maxL rt s args meth → (∀ x ∈ c.exceptionTable.toList, False) → rx_W p l e rm s m args below meth c (vx_MQ below Qc XC args s mc ms (rx_A k)) G k maxL 0 0 h n 0 L0 []) :
    vx_Met l y (rx_ws y bytes maxL rt) rm (va_Pc av (rx_G G k h n)) Qc XC mc ms (rx_A k) := by
  refine vx_ofW (cc := bytes) (maxL := maxL) (ret := rt) hpl rfl ?_
  intro p e s m args below meth c s₁ B hml hno hv
  obtain ⟨rfl, hP, hV, hT, hS0⟩ := hv
  have hts := atoms_spec (ws := rx_ws y bytes maxL rt) B.pre
  have hl := lv_entry av (n := maxL) hlen
  rw [lg_entry_eq]
  rw [hL] at hl
  exact body p e s m av.toArray below meth c ⟨B.exec, B.bytes, findClass_of_methodNamed B.named, fun w hw => hts w (List.mem_cons_of_mem _ hw), hml, B.returns, B.notSynchronized, hV, hT, hS0⟩ hno s.heap [] _ hP va_S.rf hl
end RXX
