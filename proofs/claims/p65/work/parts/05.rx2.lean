/-- the texts of the String constants, and where they stand -/
def rx_len : List Nat := [14, 4, 4, 6, 4, 4, 6, 1, 5, 5, 14, 20, 16, 10]
def rx_byt : List (List Int32) := [[110, 111, 32, 115, 117, 99, 104, 32, 108, 101, 110, 103, 116, 104], [103, 97, 109, 101], [107, 105, 110, 103], [98, 101, 103, 103, 97, 114], [119, 101, 115, 116], [101, 97, 115, 116], [98, 114, 105, 100, 103, 101], [59], [32, 101, 97, 115, 116], [32, 119, 101, 115, 116], [110, 111, 32, 115, 117, 99, 104, 32, 112, 101, 114, 115, 111, 110], [97, 114, 103, 117, 109, 101, 110, 116, 32, 110, 111, 116, 32, 97, 108, 108, 111, 119, 101, 100], [110, 111, 116, 32, 112, 111, 115, 115, 105, 98, 108, 101, 32, 110, 111, 119], [110, 111, 116, 32, 97, 32, 107, 105, 110, 103]]
def rx_sr : List (String × Nat × String × Nat) := [("BeggarKingsLaw", 51, "game", 1), ("BeggarKingsLaw", 62, ";", 7), ("BeggarKingsLaw", 64, "king", 2), ("BeggarKingsLaw", 66, "beggar", 3), ("BeggarKingsLaw", 68, " east", 8), ("BeggarKingsLaw", 70, " west", 9), ("BeggarKingsLaw", 72, "bridge", 6), ("BeggarKings", 392, "no such length", 0), ("BeggarKings", 417, "game", 1), ("BeggarKings", 438, "king", 2), ("BeggarKings", 444, "beggar", 3), ("BeggarKings", 450, "west", 4), ("BeggarKings", 452, "east", 5), ("BeggarKings", 454, "bridge", 6), ("BeggarKings", 388, "no such person", 10), ("BeggarKings", 400, "argument not allowed", 11), ("BeggarKings", 402, "not possible now", 12), ("BeggarKings", 390, "not a king", 13)]
abbrev rx_dV : String := "LBeggarKings$Verb;"
def rx_vn : List String := ["DROP", "PICK", "LAY", "LIFT", "SWAP", "QUEUE", "QUIT", "PRIDE", "TURN"]
def rx_vf : List (String × List Int32) := [("people", [1, 1, 2, 2, 2, 1, 1, 1, 0]), ("operands", [2, 2, 2, 2, 2, 2, 1, 2, 1]), ("low", [1, 1, 0, 0, 0, 0, 0, 0, 1]), ("high", [999, 999, 0, 0, 0, 99, 0, 40, 50])]
def rx_sm : List Int32 := [6, 7, 1, 2, 3, 8, 4, 9, 5]
/-- what lies below the law's start and stays: the verbs, their list, the switch's table, the texts, the JDK's statics -/
def rx_S (k : Nat → Nat) (U : State) (H : Heap) : Prop :=
  (∀ i : Nat, i < 9 → va_Z RX7 (rx_vn.getD i "") rx_dV (.ref (k (10 + i))) (fun q => k 0 ≤ q) U H ∧ va_O RX7 (k (10 + i)) (fun q => k 0 ≤ q) U H ∧ va_OF RJx29ce0 "ordinal" "I" (.int (nI i)) (k (10 + i)) (fun q => k 0 ≤ q) U H ∧
    va_T .int (k 7) (k 8) (fun j => .int (nI (k (1000 + j)))) (fun q => k 0 ≤ q) U H ∧ ∀ f ∈ rx_vf, va_OF RX7 f.1 "I" (.int (f.2.getD i 0)) (k (10 + i)) (fun q => k 0 ≤ q) U H) ∧
  True ∧ True ∧
  va_Z RX0 "$SwitchMap$BeggarKings$Verb" "[I" (.ref (k 6)) (fun q => k 0 ≤ q) U H ∧ va_T .int (k 6) 9 (fun j => .int (rx_sm.getD j 0)) (fun q => k 0 ≤ q) U H ∧
  vk_S 14 rx_len rx_byt (fun i => k (100 + i)) (fun i => k (200 + i)) (fun q => k 0 ≤ q) U H ∧
  va_Z RJ0 "COMPACT_STRINGS" "Z" (.int 1) (fun q => k 0 ≤ q) U H ∧ va_Zq RJ3 "SIOOBE_FORMATTER" "Ljava/util/function/BiFunction;" (fun q => k 0 ≤ q) U H ∧
  True
theorem rx_S.moved {k : Nat → Nat} {u U : State} {H : Heap} (hvm : u.vm.Alike U.vm) (h : rx_S k u H) : rx_S k U H := by
  obtain ⟨h1, h2, h3, h4, h5, h6, h7, h8, h9⟩ := h
  exact ⟨fun i hi => ⟨va_Z.moved hvm (h1 i hi).1, va_O.moved hvm (h1 i hi).2.1, va_OF.moved hvm (h1 i hi).2.2.1, va_T.moved hvm (h1 i hi).2.2.2.1, fun f hf => va_OF.moved hvm ((h1 i hi).2.2.2.2 f hf)⟩, h2, h3, va_Z.moved hvm h4, va_T.moved hvm h5, vk_S.moved hvm h6, va_Z.moved hvm h7, va_Zq.moved hvm h8, h9⟩
theorem rx_S.kept {k : Nat → Nat} {U : State} {H H1 : Heap} (h : rx_S k U H) (hq : ∀ a : Nat, a < H.size → ¬ k 0 ≤ a → H1[a]? = H[a]?) : rx_S k U H1 := by
  obtain ⟨h1, h2, h3, h4, h5, h6, h7, h8, h9⟩ := h
  exact ⟨fun i hi => ⟨(h1 i hi).1.kept hq, (h1 i hi).2.1.kept hq, (h1 i hi).2.2.1.kept hq, (h1 i hi).2.2.2.1.kept hq, fun f hf => ((h1 i hi).2.2.2.2 f hf).kept hq⟩, h2, h3, h4.kept hq, h5.kept hq, h6.kept hq, h7.kept hq, h8.kept hq, h9⟩
/-- the references to String constants -/
def rx_T (k : Nat → Nat) (U : State) : Prop := ∀ q ∈ rx_sr, vk_R q.1 q.2.1 q.2.2.1 (k (100 + q.2.2.2)) U
theorem rx_T.warm {k : Nat → Nat} {s U : State} (hW : s.WarmedH U.vm) (h : rx_T k s) : rx_T k U := fun q hq => vk_R.warm hW (h q hq)
theorem rx_T.same {k : Nat → Nat} {u U : State} (hv : U.vm = u.vm) (h : rx_T k u) : rx_T k U := fun q hq => vk_R.same hv (h q hq)
/-- a method's start: the picture, and all that stays -/
def rx_G (G : va_G) (k : Nat → Nat) (h : hp) (n : Nat) (U : State) : Prop := rx_P G (k 0) h n U.heap ∧ rx_V G k U ∧ rx_T k U ∧ rx_S k U U.heap
/-- what a walk stands on -/
def rx_C (G : va_G) (k : Nat → Nat) (p : Program) (m : MethodId) (c : Code) (cc : ByteArray) (own : String) (nL : Nat) (ret : Option FieldType) (s : State) (args : Array Value) (meth : Method) : Prop :=
  p.tables.exec = Jvm.exec ∧ c.code = cc ∧ s.vm.findClass own = some m.cls ∧ (∀ w ∈ rx_good, w.before args s = true) ∧ c.maxLocals = nL ∧ meth.sig.returnType = ret ∧ meth.locks = false ∧ rx_V G k s ∧ rx_T k s ∧ rx_S k s s.heap
/-- the walk at pc: from any heap that the picture fits -/
def rx_W (p : Program) (l : Launch) (e : Env) (R : Room) (s : State) (m : MethodId) (args : Array Value) (below : List Frame) (meth : Method) (c : Code) (Q : State → Prop) (G : va_G) (k : Nat → Nat) (nL cells slots : Nat) (h : hp) (n pc : Nat) (L : List (Nat × Value)) (st : List Value) : Prop :=
  ∀ (H : Heap) (locs : List Loc) (ls : Array Slot), rx_P G (k 0) h n H → va_S (fun q => k 0 ≤ q) s.heap H locs → lv_has ls nL L → W p l e R s m args below meth c H locs cells slots Q (F0 m pc ls st)
