abbrev rx_ia (k : Nat → Nat) (len : Nat) (f : Nat → Int32) : va_E := .inl (k 1, len, .inl f)
abbrev rx_qa (cA : Nat) (len : Nat) (f : Nat → Option Nat) : va_E := .inl (cA, len, .inr (.inr (.inr (.inr f))))
section RXA
variable {p : Program} {l : Launch} {e : Env} {R : Room} {s : State} {m : MethodId} {args : Array Value} {below : List Frame} {meth : Method} {c : Code} {Q : State → Prop} {G : va_G} {k : Nat → Nat} {cc : ByteArray} {own : String} {nL : Nat} {ret : Option FieldType} {cells slots : Nat} {h : hp} {n pc : Nat} {L : List (Nat × Value)} {st : List Value}
theorem rx_iald (C : rx_C G k p m c cc own nL ret s args meth) {a len : Nat} {f : Nat → Int32} {i : Int32} (hdg : decode cc pc = .ok (.iaload, 1)) (hh : h a = some (rx_ia k len f)) (hin : vp_in i len)
    (K : rx_W p l e R s m args below meth c Q G k nL cells slots h n (pc + 1) L (.int (f i.toNatClampNeg) :: st)) : rx_W p l e R s m args below meth c Q G k nL cells slots h n pc L (.int i :: .ref a :: st) := fun H locs ls hP hS hl =>
  va_iald C.1 C.2.1 C.2.2.2.2.2.2.2.1.1 (hP.one hh) 0 0 rfl rfl hin hdg (K H locs ls hP hS hl)
theorem rx_qaldP (C : rx_C G k p m c cc own nL ret s args meth) {a len : Nat} {f : Nat → Option Nat} {i : Int32} (hdg : decode cc pc = .ok (.aaload, 1)) (hh : h a = some (rx_qa (k 3) len f)) (hin : vp_in i len)
    (K : rx_W p l e R s m args below meth c Q G k nL cells slots h n (pc + 1) L (va_rf (f i.toNatClampNeg) :: st)) : rx_W p l e R s m args below meth c Q G k nL cells slots h n pc L (.int i :: .ref a :: st) := fun H locs ls hP hS hl =>
  va_aldq C.1 C.2.1 C.2.2.2.2.2.2.2.1.1 (hP.one hh) 0 2 rfl rfl hin hdg (K H locs ls hP hS hl)
theorem rx_qaldV (C : rx_C G k p m c cc own nL ret s args meth) {a len : Nat} {f : Nat → Option Nat} {i : Int32} (hdg : decode cc pc = .ok (.aaload, 1)) (hh : h a = some (rx_qa (k 4) len f)) (hin : vp_in i len)
    (K : rx_W p l e R s m args below meth c Q G k nL cells slots h n (pc + 1) L (va_rf (f i.toNatClampNeg) :: st)) : rx_W p l e R s m args below meth c Q G k nL cells slots h n pc L (.int i :: .ref a :: st) := fun H locs ls hP hS hl =>
  va_aldq C.1 C.2.1 C.2.2.2.2.2.2.2.1.1 (hP.one hh) 0 3 rfl rfl hin hdg (K H locs ls hP hS hl)
theorem rx_alen (C : rx_C G k p m c cc own nL ret s args meth) {a : Nat} {x : vp_A} (t0 : Nat) {cA : Nat} {ty : FieldType} (ht : (rx_tys k)[t0]? = some (cA, ty)) (hdg : decode cc pc = .ok (.arraylength, 1)) (hh : h a = some (.inl (cA, x)))
    (K : rx_W p l e R s m args below meth c Q G k nL cells slots h n (pc + 1) L (.int (nI x.1) :: st)) : rx_W p l e R s m args below meth c Q G k nL cells slots h n pc L (.ref a :: st) := fun H locs ls hP hS hl =>
  va_alen C.1 C.2.1 C.2.2.2.2.2.2.2.1.1 (hP.one hh) 0 t0 rfl ht rfl hdg (K H locs ls hP hS hl)
theorem rx_iast (C : rx_C G k p m c cc own nL ret s args meth) {a len : Nat} {f : Nat → Int32} {i x : Int32} (hdg : decode cc pc = .ok (.iastore, 1)) (hh : h a = some (rx_ia k len f)) (hin : vp_in i len)
    (K : rx_W p l e R s m args below meth c Q G k nL cells slots (va_up h a (some (rx_ia k len (upd f i.toNatClampNeg x)))) n (pc + 1) L st) : rx_W p l e R s m args below meth c Q G k nL cells slots h n pc L (.int x :: .int i :: .ref a :: st) := fun H locs ls hP hS hl => by
  obtain ⟨hB, hlt, hat⟩ := hP.2.2 a _ hh
  refine W.iast C.1 C.2.1 (show H[a]? = some (vp_cell _ _) from hat) ((C.2.2.2.2.2.2.2.1.1.2 0 _ rfl).1 len (fun j => .int (f j))) (fun q => by cases q) (by show ¬ (i < 0 ∨ (arrV _ _ _).slots.size ≤ _); rw [arrV_size]; exact hin) rfl rfl hdg fun H1 e1 z oq => ?_
  refine K H1 _ ls (hP.put hh ?_ z oq) (hS.put z oq hB) hl
  show H1[a]? = some (vp_cell _ _)
  rw [e1, vp_cell_i, vp_cell_i, arrV_store]
  congr 2
  funext q
  by_cases hq : q = i.toNatClampNeg
  · subst hq
    simp [updV, upd]
  · simp [updV, upd, hq]
/-- a Position into an array of Positions -/
theorem rx_qastP (C : rx_C G k p m c cc own nL ret s args meth) {a v len : Nat} {vs : List Value} {f : Nat → Option Nat} {i : Int32} (hdg : decode cc pc = .ok (.aastore, 1)) (hh : h a = some (rx_qa (k 3) len f)) (hv : h v = some (.inr (1, vs))) (hin : vp_in i len)
    (K : rx_W p l e R s m args below meth c Q G k nL cells slots (va_up h a (some (rx_qa (k 3) len (va_up f i.toNatClampNeg (some v))))) n (pc + 1) L st) : rx_W p l e R s m args below meth c Q G k nL cells slots h n pc L (.ref v :: .int i :: .ref a :: st) := fun H locs ls hP hS hl => by
  have hlt : i.toNatClampNeg < len := Nat.not_le.mp fun q => hin (Or.inr q)
  have h0 : ¬ i < 0 := fun q => hin (Or.inl q)
  obtain ⟨hB, -, hat⟩ := hP.2.2 a _ hh
  obtain ⟨-, -, r', hr', cellV, g1, g2, g3, -⟩ := hP.2.2 v _ hv
  have hcls := (C.2.2.2.2.2.2.2.1.1.1 1 (RX2, TX2, 15) rfl).2
  obtain ⟨kA, comp, k1, k2, k3, -⟩ := (C.2.2.2.2.2.2.2.1.1.2 2 _ rfl).2
  have hcomp : comp = G.1 1 := Option.some.inj (k3.symm.trans hcls.1)
  subst hcomp
  obtain ⟨kC, hkC, -⟩ := hcls.2
  refine W.aast C.1 C.2.1 (show H[a]? = some (vp_cell _ _) from hat) (fun q h => by cases h) (fun h => by cases h) k1 k2 rfl hkC ⟨h0, by show _ < (arrV _ _ _).slots.size; rw [arrV_size]; exact hlt⟩ g1 (fun q h => by rw [g3] at h; cases h) (by rw [g2]; exact hkC) (by rw [g2]; exact va_assign hcls) rfl rfl hdg fun H1 e1 z oq => ?_
  refine K H1 _ ls (hP.put hh ?_ z oq) (hS.put z oq hB) hl
  show H1[a]? = some (vp_cell _ _)
  rw [e1, vp_cell_q, vp_cell_q, arrV_store]
  congr 2
  funext q
  by_cases hq : q = i.toNatClampNeg
  · subst hq
    simp [updV, va_up, va_rf]
  · simp [updV, va_up, hq]
/-- a verb into an array of verbs -/
theorem rx_qastV (C : rx_C G k p m c cc own nL ret s args meth) {a z0 len : Nat} {f : Nat → Option Nat} {i : Int32} (hdg : decode cc pc = .ok (.aastore, 1)) (hh : h a = some (rx_qa (k 4) len f)) (hz : z0 < 9) (hin : vp_in i len) (hcls : ∃ cC, ClassAt s RX7 cC)
    (K : rx_W p l e R s m args below meth c Q G k nL cells slots (va_up h a (some (rx_qa (k 4) len (va_up f i.toNatClampNeg (some (k (10 + z0))))))) n (pc + 1) L st) : rx_W p l e R s m args below meth c Q G k nL cells slots h n pc L (.ref (k (10 + z0)) :: .int i :: .ref a :: st) := fun H locs ls hP hS hl => by
  have hlt : i.toNatClampNeg < len := Nat.not_le.mp fun q => hin (Or.inr q)
  have h0 : ¬ i < 0 := fun q => hin (Or.inl q)
  obtain ⟨hB, -, hat⟩ := hP.2.2 a _ hh
  obtain ⟨cellV, g1, g3, g2, -⟩ := ((C.2.2.2.2.2.2.2.2.2.1 z0 hz).2.1).kept hS.2.1
  obtain ⟨cC, hcC⟩ := hcls
  obtain ⟨kA, comp, k1, k2, k3, -⟩ := (C.2.2.2.2.2.2.2.1.1.2 3 _ rfl).2
  have hcomp : comp = cC := Option.some.inj (k3.symm.trans hcC.1)
  subst hcomp
  have hcv : cellV.cls = comp := Option.some.inj (g2.symm.trans hcC.1)
  obtain ⟨kC, hkC, -⟩ := hcC.2
  refine W.aast C.1 C.2.1 (show H[a]? = some (vp_cell _ _) from hat) (fun q h => by cases h) (fun h => by cases h) k1 k2 rfl hkC ⟨h0, by show _ < (arrV _ _ _).slots.size; rw [arrV_size]; exact hlt⟩ g1 (fun q h => by rw [h] at g3; cases g3) (by rw [hcv]; exact hkC) (by rw [hcv]; exact va_assign hcC) rfl rfl hdg fun H1 e1 z oq => ?_
  refine K H1 _ ls (hP.put hh ?_ z oq) (hS.put z oq hB) hl
  show H1[a]? = some (vp_cell _ _)
  rw [e1, vp_cell_q, vp_cell_q, arrV_store]
  congr 2
  funext q
  by_cases hq : q = i.toNatClampNeg
  · subst hq
    simp [updV, va_up, va_rf]
  · simp [updV, va_up, hq]
end RXA
