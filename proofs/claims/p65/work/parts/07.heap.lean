/-! Fields, arrays and new cells over the picture. -/
section RXH
variable {p : Program} {l : Launch} {e : Env} {R : Room} {s : State} {m : MethodId} {args : Array Value} {below : List Frame} {meth : Method} {c : Code} {Q : State → Prop} {G : va_G} {k : Nat → Nat} {cc : ByteArray} {own : String} {nL : Nat} {ret : Option FieldType} {cells slots : Nat} {h : hp} {n pc : Nat} {L : List (Nat × Value)} {st : List Value}
theorem rx_getf (C : rx_C G k p m c cc own nL ret s args meth) {index ci j a : Nat} {fs : List Value} {v : Value} (hF : rx_F own index ci j) (hdg : decode cc pc = .ok (.getfield index, 3)) (hh : h a = some (.inr (ci, fs))) (hv : fs[j]? = some v)
    (K : rx_W p l e R s m args below meth c Q G k nL cells slots h n (pc + 3) L (v :: st)) : rx_W p l e R s m args below meth c Q G k nL cells slots h n pc L (.ref a :: st) := fun H locs ls hP hS hl => by
  obtain ⟨Cn, T, N, hc, hin, hj, hlk⟩ := hF
  exact va_get C.1 C.2.1 C.2.2.2.1 hin C.2.2.1 C.2.2.2.2.2.2.2.1.1 (hP.one hh) 0 rfl hc j hj (C.2.2.2.1 _ hlk) (fun _ h9 => h9) hv hdg (K H locs ls hP hS hl)
theorem rx_getfN (C : rx_C G k p m c cc own nL ret s args meth) {index ci j a : Nat} {fs : List Value} {v : Value} (hF : rx_FN own index ci j) (hdg : decode cc pc = .ok (.getfield index, 3)) (hh : h a = some (.inr (ci, fs))) (hv : fs[j]? = some v)
    (K : rx_W p l e R s m args below meth c Q G k nL cells slots h n (pc + 3) L (v :: st)) : rx_W p l e R s m args below meth c Q G k nL cells slots h n pc L (.ref a :: st) := fun H locs ls hP hS hl => by
  obtain ⟨Cn, T, N, host, hc, hin, hj, hlk⟩ := hF
  exact va_getN C.1 C.2.1 C.2.2.2.1 hin C.2.2.1 C.2.2.2.2.2.2.2.1.1 (hP.one hh) 0 rfl hc j hj (va_Nw.use rfl (C.2.2.2.2.2.2.2.1.2.1 _ hlk)) (fun _ h9 => h9) hv hdg (K H locs ls hP hS hl)
/-- an object's field j, with what a store needs of it -/
theorem rx_slot (C : rx_C G k p m c cc own nL ret s args meth) {ci j a : Nat} {fs : List Value} {Cn : String} {T : u_T} {N : Nat} {ty0 : Nat → FieldType} {H : Heap} (hc : vwCl[ci]? = some (Cn, T, N)) (hin : ∀ w ∈ u_ws Cn T N, w ∈ rx_good) (hj : j < N)
    (hty : ∀ i, i < N → parseFieldDescriptor (T i).2.2.1 = some (ty0 i)) (hnm : ∀ a, a < N → ∀ b, b < N → a ≠ b → (T a).2.1 ≠ (T b).2.1) (hat : va_at G vwCl (a, .inr (ci, fs)) H) :
    ∃ (cf : ClassId) (kf : Class) (fi : Nat) (f : Field) (cell : Cell) (kC : Class), s.fieldFound? (T j).1 (T j).2.1 (T j).2.2.1 = some (cf, kf, fi, f) ∧ f.isStatic = false ∧ H[a]? = some cell ∧ cell.vm = .none ∧ f.slot < cell.slots.size ∧ s.vm.findClass Cn = some cell.cls ∧ s.vm.classes[cell.cls]? = some kC ∧ kC.kind = .ordinary ∧
      ∀ (v : Value) (H1 : Heap), j < fs.length → H1[a]? = some (cell.setSlot f.slot v) → va_at G vwCl (a, .inr (ci, fs.set j v)) H1 := by
  have hap := va_apart (own := own) C.2.2.2.1 hin ty0 hty hnm C.2.2.2.2.2.2.2.1.1 hc
  obtain ⟨r, h1, cell, q1, q2, q3, q4⟩ := hat
  obtain rfl : r = (Cn, T, N) := Option.some.inj (h1.symm.trans hc)
  obtain ⟨hsl, hfc, kC, hkC, hkind⟩ := C.2.2.2.2.2.2.2.1.1.1 ci _ hc
  obtain ⟨cf, kf, fi, f, hi, he⟩ := hsl j hj
  have hst := (u_facts hfc hkC (u_lays C.2.2.2.1 hin hj) hi).1
  have q2 : cell.cls = G.1 ci := q2
  refine ⟨cf, kf, fi, f, cell, kC, hi, hst, q1, q3, by rw [he]; exact k2_hasslot (q4 j hj), by rw [q2]; exact hfc, by rw [q2]; exact hkC, hkind, fun v H1 hl e1 => ?_⟩
  rw [he] at e1
  exact ⟨_, hc, t_OB.to (V := updV (vp_V fs) j v) ⟨_, e1, q2, q3, t_set q4 hap hj v⟩ (fun i _ => vp_updV_set hl v i)⟩
theorem rx_putf (C : rx_C G k p m c cc own nL ret s args meth) {index ci j a : Nat} {fs : List Value} {v : Value} {ty : FieldType} (hF : rx_F own index ci j) (hT : rx_FT ci j ty false) (hdg : decode cc pc = .ok (.putfield index, 3)) (hh : h a = some (.inr (ci, fs))) (hl0 : j < fs.length) (hn : narrow ty v = v) (hfit : fits ty v = true)
    (K : rx_W p l e R s m args below meth c Q G k nL cells slots (va_up h a (some (.inr (ci, fs.set j v)))) n (pc + 3) L st) : rx_W p l e R s m args below meth c Q G k nL cells slots h n pc L (v :: .ref a :: st) := fun H locs ls hP hS hl => by
  obtain ⟨Cn, T, N, hc, hin, hj, hlk⟩ := hF
  obtain ⟨Cn', T', N', ty0, hc', hty, hnm, hfin, hd, -⟩ := hT
  cases hc.symm.trans hc'
  obtain ⟨hB, hlt, hat⟩ := hP.2.2 a _ hh
  obtain ⟨cf, kf, fi, f, cell, kC, hi, hst, g1, g2, g3, g4, g5, g6, g7⟩ := rx_slot C hc hin hj hty hnm hat
  have hlay := C.2.2.2.1 _ (hin _ (u_in_lay hj))
  unfold u_lay at hlay
  rw [if_neg (by rw [hfin]; decide)] at hlay
  have h6 := u_store g4 g5 g6 hlay hi hd hn hfit
  exact W.putK C.1 C.2.1 (f := f) ⟨C.2.2.1, C.2.2.2.1 _ hlk, ⟨_, _, _, hi⟩, hst⟩ h6 g1 g2 g3 rfl rfl hdg fun H1 e1 e2 e3 => K H1 _ ls (hP.put hh (g7 v H1 hl0 e1) e2 e3) (hS.put e2 e3 hB) hl
theorem rx_putfN (C : rx_C G k p m c cc own nL ret s args meth) {index ci j a : Nat} {fs : List Value} {v : Value} {ty : FieldType} (hF : rx_FN own index ci j) (hT : rx_FT ci j ty false) (hdg : decode cc pc = .ok (.putfield index, 3)) (hh : h a = some (.inr (ci, fs))) (hl0 : j < fs.length) (hn : narrow ty v = v) (hfit : fits ty v = true)
    (K : rx_W p l e R s m args below meth c Q G k nL cells slots (va_up h a (some (.inr (ci, fs.set j v)))) n (pc + 3) L st) : rx_W p l e R s m args below meth c Q G k nL cells slots h n pc L (v :: .ref a :: st) := fun H locs ls hP hS hl => by
  obtain ⟨Cn, T, N, host, hc, hin, hj, hlk⟩ := hF
  obtain ⟨Cn', T', N', ty0, hc', hty, hnm, hfin, hd, -⟩ := hT
  cases hc.symm.trans hc'
  obtain ⟨hB, hlt, hat⟩ := hP.2.2 a _ hh
  obtain ⟨cf, kf, fi, f, cell, kC, hi, hst, g1, g2, g3, g4, g5, g6, g7⟩ := rx_slot C hc hin hj hty hnm hat
  have hlay := C.2.2.2.1 _ (hin _ (u_in_lay hj))
  unfold u_lay at hlay
  rw [if_neg (by rw [hfin]; decide)] at hlay
  have h6 := u_store g4 g5 g6 hlay hi hd hn hfit
  exact va_WputK C.1 C.2.1 (f := f) C.2.2.1 (va_Nw.use rfl (C.2.2.2.2.2.2.2.1.2.1 _ hlk)) hi hst h6 g1 g2 g3 rfl rfl hdg fun H1 e1 e2 e3 => K H1 _ ls (hP.put hh (g7 v H1 hl0 e1) e2 e3) (hS.put e2 e3 hB) hl
/-- a final field, in a constructor of its class -/
theorem rx_putfF (C : rx_C G k p m c cc own nL ret s args meth) {index ci j a : Nat} {fs : List Value} {v : Value} {ty : FieldType} (hF : rx_F own index ci j) (hT : rx_FT ci j ty true) (hown : ∃ (T : u_T) (N : Nat), vwCl[ci]? = some (own, T, N)) (hin9 : meth.name = "<init>") (hdg : decode cc pc = .ok (.putfield index, 3)) (hh : h a = some (.inr (ci, fs))) (hl0 : j < fs.length) (hn : narrow ty v = v) (hfit : fits ty v = true)
    (K : rx_W p l e R s m args below meth c Q G k nL cells slots (va_up h a (some (.inr (ci, fs.set j v)))) n (pc + 3) L st) : rx_W p l e R s m args below meth c Q G k nL cells slots h n pc L (v :: .ref a :: st) := fun H locs ls hP hS hl => by
  obtain ⟨Cn, T, N, hc, hin, hj, hlk⟩ := hF
  obtain ⟨Cn', T', N', ty0, hc', hty, hnm, hfin, hd, hdecl⟩ := hT
  obtain ⟨T2, N2, hc2⟩ := hown
  cases hc.symm.trans hc'
  cases hc.symm.trans hc2
  obtain ⟨hB, hlt, hat⟩ := hP.2.2 a _ hh
  obtain ⟨cf, kf, fi, f, cell, kC, hi, hst, g1, g2, g3, g4, g5, g6, g7⟩ := rx_slot C hc hin hj hty hnm hat
  have hlay := C.2.2.2.1 _ (hin _ (u_in_lay hj))
  unfold u_lay at hlay
  rw [if_pos hfin] at hlay
  have hcf : m.cls = cf := by
    obtain ⟨_, _, c', _, _, _, -, -, hf', -, -, -, hown2, -⟩ := Cond.laysFinal_spec hlay
    have e1 : c' = cf := by have := hi.symm.trans hf'; simp at this; exact this.1.symm
    rw [hdecl rfl] at hown2
    rw [← e1]
    exact Option.some.inj (C.2.2.1.symm.trans hown2)
  have h6 := u_fits g4 g5 g6 (Or.inr hlay) hi hd hn hfit
  exact W.putFinK C.1 C.2.1 C.2.2.1 (C.2.2.2.1 _ hlk) hi hst hcf hin9 (by rw [← g2] at h6; rw [g2] at h6; exact h6) g1 g2 g3 rfl rfl hdg fun H1 e1 e2 e3 => K H1 _ ls (hP.put hh (g7 v H1 hl0 e1) e2 e3) (hS.put e2 e3 hB) hl
end RXH
