/-! What the throwing methods stand on: room, the making of the three exceptions; divisions that are numbers. -/
abbrev rx_rmX (f lo mc ms : Nat) : Room := { frames := f, cells := mc, slots := ms, locals := lo }
set_option maxRecDepth 100000 in
set_option maxHeartbeats 4000000 in
theorem XW_179_183 : rx_XW RX8 179 183 "java/lang/IllegalArgumentException" := ⟨by decide, by decide, (rx_cases (ws := [Cond.classLink RX8 179 "java/lang/IllegalArgumentException"]) (by decide +kernel) _ List.mem_cons_self).elim id (fun h => absurd (List.mem_filter.mp h).2 (by decide)), (rx_cases (ws := [Cond.initialized "java/lang/IllegalArgumentException"]) (by decide +kernel) _ List.mem_cons_self).elim id (fun h => absurd (List.mem_filter.mp h).2 (by decide)), rx_cases (by decide +kernel), by decide +kernel⟩
set_option maxRecDepth 100000 in
set_option maxHeartbeats 4000000 in
theorem XW_247_251 : rx_XW RX8 247 251 "java/lang/IndexOutOfBoundsException" := ⟨by decide, by decide, (rx_cases (ws := [Cond.classLink RX8 247 "java/lang/IndexOutOfBoundsException"]) (by decide +kernel) _ List.mem_cons_self).elim id (fun h => absurd (List.mem_filter.mp h).2 (by decide)), (rx_cases (ws := [Cond.initialized "java/lang/IndexOutOfBoundsException"]) (by decide +kernel) _ List.mem_cons_self).elim id (fun h => absurd (List.mem_filter.mp h).2 (by decide)), rx_cases (by decide +kernel), by decide +kernel⟩
set_option maxRecDepth 100000 in
set_option maxHeartbeats 4000000 in
theorem XW_375_379 : rx_XW RX8 375 379 "java/lang/IllegalStateException" := ⟨by decide, by decide, (rx_cases (ws := [Cond.classLink RX8 375 "java/lang/IllegalStateException"]) (by decide +kernel) _ List.mem_cons_self).elim id (fun h => absurd (List.mem_filter.mp h).2 (by decide)), (rx_cases (ws := [Cond.initialized "java/lang/IllegalStateException"]) (by decide +kernel) _ List.mem_cons_self).elim id (fun h => absurd (List.mem_filter.mp h).2 (by decide)), rx_cases (by decide +kernel), by decide +kernel⟩
def rx_ddv (x y : UInt64) : Option UInt64 := if FP.ddiv x y &&& 0x7fffffffffffffff ≤ 0x7ff0000000000000 then some (FP.ddiv x y) else none
def rx_fdv (x y : UInt32) : Option UInt32 := if FP.fdiv x y &&& 0x7fffffff ≤ 0x7f800000 then some (FP.fdiv x y) else none
theorem rx_ddvE {x y z : UInt64} (h : rx_ddv x y = some z) : vf_n64 (FP.ddiv x y) ∧ FP.ddiv x y = z := by
  unfold rx_ddv at h
  split at h
  · rename_i c; exact ⟨c, Option.some.inj h⟩
  · cases h
theorem rx_fdvE {x y z : UInt32} (h : rx_fdv x y = some z) : vf_n32 (FP.fdiv x y) ∧ FP.fdiv x y = z := by
  unfold rx_fdv at h
  split at h
  · rename_i c; exact ⟨c, Option.some.inj h⟩
  · cases h
section RXD
variable {p : Program} {l : Launch} {e : Env} {R : Room} {s : State} {m : MethodId} {args : Array Value} {below : List Frame} {meth : Method} {c : Code} {Q : State → Prop} {G : va_G} {k : Nat → Nat} {cc : ByteArray} {own : String} {nL : Nat} {ret : Option FieldType} {cells slots : Nat} {h : hp} {n pc : Nat} {L : List (Nat × Value)} {st : List Value}
theorem rx_ddivF (C : rx_C G k p m c cc own nL ret s args meth) {x y z : UInt64} (hdg : decode cc pc = .ok (.ddiv, 1)) (hx : rx_ddv x y = some z) (K : rx_W p l e R s m args below meth c Q G k nL cells slots h n (pc + 1) L (.double z :: st)) : rx_W p l e R s m args below meth c Q G k nL cells slots h n pc L (.double y :: .double x :: st) := by
  obtain ⟨hn, rfl⟩ := rx_ddvE hx
  exact rx_ddiv C hdg hn K
theorem rx_fdivF (C : rx_C G k p m c cc own nL ret s args meth) {x y z : UInt32} (hdg : decode cc pc = .ok (.fdiv, 1)) (hx : rx_fdv x y = some z) (K : rx_W p l e R s m args below meth c Q G k nL cells slots h n (pc + 1) L (.float z :: st)) : rx_W p l e R s m args below meth c Q G k nL cells slots h n pc L (.float y :: .float x :: st) := by
  obtain ⟨hn, rfl⟩ := rx_fdvE hx
  exact rx_fdiv C hdg hn K
end RXD
