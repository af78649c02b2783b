section RXN
variable {p : Program} {l : Launch} {e : Env} {R : Room} {s : State} {m : MethodId} {args : Array Value} {below : List Frame} {meth : Method} {c : Code} {Q : State → Prop} {G : va_G} {k : Nat → Nat} {cc : ByteArray} {own : String} {nL : Nat} {ret : Option FieldType} {cells slots : Nat} {h : hp} {n pc : Nat} {L : List (Nat × Value)} {st : List Value}
theorem rx_grow {A : Nat → Prop} {H0 H H1 : Heap} {locs : List Loc} (hS : va_S A H0 H locs) (z : H1.size = H.size + 1) (o : ∀ q, q < H.size → H1[q]? = H[q]?) : va_S A H0 H1 locs := ⟨Nat.le_trans hS.1 (by omega), fun x h1 h2 => (o x (Nat.lt_of_lt_of_le h1 hS.1)).trans (hS.2.1 x h1 h2), hS.2.2⟩
theorem rx_new (C : rx_C G k p m c cc own nL ret s args meth) {index ci N : Nat} {fs : List Value} (hN : rx_N own index ci N fs) (hdg : decode cc pc = .ok (.new index, 3)) (hcells : cells + 1 ≤ R.cells) (hslots : slots + N ≤ R.slots)
    (K : rx_W p l e R s m args below meth c Q G k nL (cells + 1) (slots + N) (va_up h n (some (.inr (ci, fs)))) (n + 1) (pc + 3) L (.ref n :: st)) : rx_W p l e R s m args below meth c Q G k nL cells slots h n pc L st := fun H locs ls hP hS hl => by
  obtain ⟨Cn, T, ty0, hc, hin, hty, hlk, hins, hini, hfs⟩ := hN
  have hKn := C.2.2.2.2.2.2.2.1.1.1 ci _ hc
  have hz : H.size = n := hP.1
  subst hz
  refine W.newcK C.1 C.2.1 C.2.2.1 (C.2.2.2.1 _ hlk) (C.2.2.2.1 _ hins) (C.2.2.2.1 _ hini) rfl hdg hcells hslots hKn.2.1 rfl fun H1 kC hkC e1 z1 o1 => ?_
  exact K H1 locs ls (hP.new ⟨_, hc, (u_born ty0 C.2.2.2.1 hin hKn hkC e1 hty).to hfs⟩ z1 o1) (rx_grow hS z1 o1) hl
theorem rx_newi (C : rx_C G k p m c cc own nL ret s args meth) {v : Int32} (len : Nat) (harr : Cond.arrayClass .int ∈ rx_good) (hdg : decode cc pc = .ok (.newarray .int, 2)) (hv : ¬ v < 0) (hlen : v.toNatClampNeg = len) (hb : len * 4 ≤ 536870912) (hcells : cells + 1 ≤ R.cells) (hslots : slots + len ≤ R.slots)
    (K : rx_W p l e R s m args below meth c Q G k nL (cells + 1) (slots + len) (va_up h n (some (rx_ia k len (fun _ => 0)))) (n + 1) (pc + 2) L (.ref n :: st)) : rx_W p l e R s m args below meth c Q G k nL cells slots h n pc L (.int v :: st) := fun H locs ls hP hS hl => by
  have hz : H.size = n := hP.1
  subst hz
  refine va_newaK (atype := .int) C.1 C.2.1 (C.2.2.2.1 _ harr) rfl hdg rfl hv hlen hb hcells hslots rfl fun H1 cA e1 z1 o1 hAr hNm => ?_
  have hk1 : s.vm.findClass ("[" ++ (FieldType.int).toString) = some (k 1) := (C.2.2.2.2.2.2.2.1.1.2 0 _ rfl).2
  have hcA : cA = k 1 := Option.some.inj (hNm.symm.trans hk1)
  subst hcA
  refine K H1 locs ls (hP.new ?_ z1 o1) (rx_grow hS z1 o1) hl
  show H1[H.size]? = some (vp_cell _ _)
  rw [vp_cell_i]
  exact e1
/-- an array of references to class Cn, whose array class is k kk -/
theorem rx_newq (C : rx_C G k p m c cc own nL ret s args meth) {index : Nat} {v : Int32} (len kk t0 : Nat) {Cn : String} (ht : (rx_tys k)[t0]? = some (k kk, .object Cn)) (hlk : Cond.classLink own index Cn ∈ rx_good) (hover : va_AO Cn s) (hdg : decode cc pc = .ok (.anewarray index, 3)) (hv : ¬ v < 0) (hlen : v.toNatClampNeg = len) (hb : len * 4 ≤ 536870912) (hcells : cells + 1 ≤ R.cells) (hslots : slots + len ≤ R.slots)
    (K : rx_W p l e R s m args below meth c Q G k nL (cells + 1) (slots + len) (va_up h n (some (rx_qa (k kk) len (fun _ => none)))) (n + 1) (pc + 3) L (.ref n :: st)) : rx_W p l e R s m args below meth c Q G k nL cells slots h n pc L (.int v :: st) := fun H locs ls hP hS hl => by
  have hz : H.size = n := hP.1
  subst hz
  subst hlen
  refine W.anew C.1 C.2.1 C.2.2.1 (C.2.2.2.1 _ hlk) (va_AO.use hover) rfl hdg rfl hv hb hcells hslots fun cA kA comp f1 f2 f3 f4 => ?_
  generalize hH1 : H.push ({ cls := cA, slots := Array.replicate v.toNatClampNeg .null, vm := .none } : Cell) = H1
  have z1 : H1.size = H.size + 1 := by rw [← hH1, Array.size_push]
  have e1 : H1[H.size]? = some (arrV cA v.toNatClampNeg (fun _ => .null)) := by rw [← hH1, Array.getElem?_push_size, ← arrV_new]
  have o1 : ∀ q : Nat, q < H.size → H1[q]? = H[q]? := fun q hq => by rw [← hH1, Array.getElem?_push, if_neg (Nat.ne_of_lt hq)]
  obtain ⟨kA', comp', g1, g2, g3, g4⟩ := (C.2.2.2.2.2.2.2.1.1.2 t0 _ ht).2
  have hcA : cA = k kk := by
    have h4 := f1.symm.trans g4
    exact Option.some.inj h4
  subst hcA
  refine K H1 locs ls (hP.new ?_ z1 o1) (rx_grow hS z1 o1) hl
  show H1[H.size]? = some (vp_cell _ _)
  rw [vp_cell_q]
  exact e1
/-- static fields that stay, and tables that lie below -/
theorem rx_gets (C : rx_C G k p m c cc own nL ret s args meth) {Cn fn d : String} {v : Value} {index : Nat} (hZ : va_Z Cn fn d v (fun q => k 0 ≤ q) s s.heap) (hlk : Cond.fieldLink own index Cn fn d ∈ rx_good) (hdg : decode cc pc = .ok (.getstatic index, 3))
    (K : rx_W p l e R s m args below meth c Q G k nL cells slots h n (pc + 3) L (v :: st)) : rx_W p l e R s m args below meth c Q G k nL cells slots h n pc L st := fun H locs ls hP hS hl =>
  va_gets C.1 C.2.1 hZ hS C.2.2.1 (C.2.2.2.1 _ hlk) (fun _ h9 => h9) hdg (K H locs ls hP hS hl)
theorem rx_getsN (C : rx_C G k p m c cc own nL ret s args meth) {Cn fn d host : String} {v : Value} {index : Nat} (hZ : va_Z Cn fn d v (fun q => k 0 ≤ q) s s.heap) (hlk : Cond.fieldLinkNest own index Cn fn d host ∈ rx_nest) (hdg : decode cc pc = .ok (.getstatic index, 3))
    (K : rx_W p l e R s m args below meth c Q G k nL cells slots h n (pc + 3) L (v :: st)) : rx_W p l e R s m args below meth c Q G k nL cells slots h n pc L st := fun H locs ls hP hS hl =>
  va_getsN C.1 C.2.1 hZ hS C.2.2.1 (va_Nw.use rfl (C.2.2.2.2.2.2.2.1.2.1 _ hlk)) (fun _ h9 => h9) hdg (K H locs ls hP hS hl)
theorem rx_ti (C : rx_C G k p m c cc own nL ret s args meth) {t len : Nat} {f : Nat → Value} (hT : va_T .int t len f (fun q => k 0 ≤ q) s s.heap) {i : Int32} {v : Value} (hdg : decode cc pc = .ok (.iaload, 1)) (hin : vp_in i len) (hv : f i.toNatClampNeg = v)
    (K : rx_W p l e R s m args below meth c Q G k nL cells slots h n (pc + 1) L (v :: st)) : rx_W p l e R s m args below meth c Q G k nL cells slots h n pc L (.int i :: .ref t :: st) := fun H locs ls hP hS hl =>
  va_ti C.1 C.2.1 hT hS hin hv hdg (K H locs ls hP hS hl)
theorem rx_tb (C : rx_C G k p m c cc own nL ret s args meth) {t len : Nat} {f : Nat → Value} (hT : va_T .byte t len f (fun q => k 0 ≤ q) s s.heap) {i : Int32} {v : Value} (hdg : decode cc pc = .ok (.baload, 1)) (hin : vp_in i len) (hv : f i.toNatClampNeg = v)
    (K : rx_W p l e R s m args below meth c Q G k nL cells slots h n (pc + 1) L (v :: st)) : rx_W p l e R s m args below meth c Q G k nL cells slots h n pc L (.int i :: .ref t :: st) := fun H locs ls hP hS hl =>
  va_tb C.1 C.2.1 hT hS hin hv hdg (K H locs ls hP hS hl)
theorem rx_tlen (C : rx_C G k p m c cc own nL ret s args meth) {t len : Nat} {ty : FieldType} {f : Nat → Value} (hT : va_T ty t len f (fun q => k 0 ≤ q) s s.heap) (hdg : decode cc pc = .ok (.arraylength, 1))
    (K : rx_W p l e R s m args below meth c Q G k nL cells slots h n (pc + 1) L (.int (nI len) :: st)) : rx_W p l e R s m args below meth c Q G k nL cells slots h n pc L (.ref t :: st) := fun H locs ls hP hS hl =>
  va_tlen C.1 C.2.1 hT hS rfl hdg (K H locs ls hP hS hl)
/-- a field of an object that lies below -/
theorem rx_getO (C : rx_C G k p m c cc own nL ret s args meth) {o fn d : String} {q index : Nat} {v : Value} (hE : va_OF o fn d v q (fun q => k 0 ≤ q) s s.heap) (hlk : Cond.fieldLink own index o fn d ∈ rx_good) (hdg : decode cc pc = .ok (.getfield index, 3))
    (K : rx_W p l e R s m args below meth c Q G k nL cells slots h n (pc + 3) L (v :: st)) : rx_W p l e R s m args below meth c Q G k nL cells slots h n pc L (.ref q :: st) := fun H locs ls hP hS hl =>
  vk_getf C.1 C.2.1 hE hS C.2.2.1 (C.2.2.2.1 _ hlk) (fun _ h9 => h9) hdg (K H locs ls hP hS hl)
theorem rx_getON (C : rx_C G k p m c cc own nL ret s args meth) {o fn d host : String} {q index : Nat} {v : Value} (hE : va_OF o fn d v q (fun q => k 0 ≤ q) s s.heap) (hlk : Cond.fieldLinkNest own index o fn d host ∈ rx_nest) (hdg : decode cc pc = .ok (.getfield index, 3))
    (K : rx_W p l e R s m args below meth c Q G k nL cells slots h n (pc + 3) L (v :: st)) : rx_W p l e R s m args below meth c Q G k nL cells slots h n pc L (.ref q :: st) := fun H locs ls hP hS hl => by
  obtain ⟨cf, kf, fi, f, cell, h1, h2, h3, h4, h5, h6⟩ := hE.kept hS.2.1
  exact va_Wgetf C.1 C.2.1 C.2.2.1 (va_Nw.use rfl (C.2.2.2.2.2.2.2.1.2.1 _ hlk)) h1 h2 h3 h4 (v := v) h5 rfl rfl hdg (K H locs ls hP hS hl)
theorem rx_ldcS (C : rx_C G k p m c cc own nL ret s args meth) {tx : String} {index t : Nat} (hm : (own, index, tx, t) ∈ rx_sr) (hdg : decode cc pc = .ok (.ldc index, 2))
    (K : rx_W p l e R s m args below meth c Q G k nL cells slots h n (pc + 2) L (.ref (k (100 + t)) :: st)) : rx_W p l e R s m args below meth c Q G k nL cells slots h n pc L st := fun H locs ls hP hS hl =>
  va_ldcS C.1 C.2.1 C.2.2.1 (C.2.2.2.2.2.2.2.2.1 _ hm) hdg (K H locs ls hP hS hl)
theorem rx_ldcw (C : rx_C G k p m c cc own nL ret s args meth) {index : Nat} {v : Int32} (hlk : Cond.constant own index v ∈ rx_good) (hdg : decode cc pc = .ok (.ldc index, 2))
    (K : rx_W p l e R s m args below meth c Q G k nL cells slots h n (pc + 2) L (.int v :: st)) : rx_W p l e R s m args below meth c Q G k nL cells slots h n pc L st := fun H locs ls hP hS hl =>
  lv_ldc C.1 C.2.1 C.2.2.1 (C.2.2.2.1 _ hlk) hdg (K H locs ls hP hS hl)
end RXN
