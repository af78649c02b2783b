/-! The frame of this proof. One picture for all methods: h is what lies at the addresses from the law's start on (k 0) up to the heap's size n; a method is walked over h, and its contract says which h it leaves. k: the numbers of the world (k 0 the first address; k 1 .. k 4 the array classes). -/
abbrev ob : Type := (Nat → Int32) × (Nat → Nat → Int32)
abbrev hp : Type := Nat → Option va_E
def rx_good : List Cond := lw_tbl.filter goodWord
theorem rx_g (i : Nat) {w : Cond} (h : lw_tbl[i]? = some w) (hg : goodWord w = true) : w ∈ rx_good := List.mem_filter.mpr ⟨List.mem_of_getElem? h, hg⟩
theorem rx_gall : rx_good.all goodWord = true := List.all_eq_true.mpr fun _ h => (List.mem_filter.mp h).2
def rx_isNest : Cond → Bool
  | .methodLinkNest .. => true
  | .fieldLinkNest .. => true
  | .declares _ => true
  | .castable .. => true
  | _ => false
def rx_nest : List Cond := lw_tbl.filter rx_isNest
theorem rx_n (i : Nat) {w : Cond} (h : lw_tbl[i]? = some w) (hg : rx_isNest w = true) : w ∈ rx_nest := List.mem_filter.mpr ⟨List.mem_of_getElem? h, hg⟩
/-- the words of a method: its own code, then all good ones -/
def rx_ws (y : MethodName) (cc : ByteArray) (maxL : Nat) (ret : Option FieldType) : List Cond := Cond.code y cc maxL ret :: rx_good
theorem rx_goodIn {ws : List Cond} (h : ∀ w ∈ ws, w ∈ rx_good) : GoodIn rx_good ws := fun w hw => ⟨h w hw, good_of_word (List.all_eq_true.mp rx_gall w (h w hw))⟩
theorem rx_goodWs {y : MethodName} {cc : ByteArray} {maxL : Nat} {ret : Option FieldType} (h : Cond.code y cc maxL ret ∈ rx_good) : GoodIn rx_good (rx_ws y cc maxL ret) := rx_goodIn fun w hw => by
  rcases List.mem_cons.mp hw with rfl | hw
  · exact h
  · exact hw
/-- the picture of the heap: what is known lies from B on, below the size -/
def rx_P (G : va_G) (B : Nat) (h : hp) (n : Nat) (H : Heap) : Prop := H.size = n ∧ B ≤ n ∧ ∀ (a : Nat) (x : va_E), h a = some x → B ≤ a ∧ a < n ∧ va_at G vwCl (a, x) H
theorem rx_P.one {G : va_G} {B : Nat} {h : hp} {n : Nat} {H : Heap} (hP : rx_P G B h n H) {a : Nat} {x : va_E} (ha : h a = some x) : va_P G vwCl [(a, x)] H := fun j q hj => by
  cases j with
  | zero => cases hj; exact (hP.2.2 a x ha).2.2
  | succ j => simp at hj
theorem rx_P.two {G : va_G} {B : Nat} {h : hp} {n : Nat} {H : Heap} (hP : rx_P G B h n H) {a b : Nat} {x y : va_E} (ha : h a = some x) (hb : h b = some y) : va_P G vwCl [(a, x), (b, y)] H := fun j q hj => by
  match j with
  | 0 => cases hj; exact (hP.2.2 a x ha).2.2
  | 1 => cases hj; exact (hP.2.2 b y hb).2.2
  | j + 2 => simp at hj
theorem rx_P.put {G : va_G} {B : Nat} {h : hp} {n : Nat} {H H1 : Heap} (hP : rx_P G B h n H) {a : Nat} {x y : va_E} (ha : h a = some x) (hat : va_at G vwCl (a, y) H1) (hz : H1.size = H.size) (hq : ∀ q, q ≠ a → H1[q]? = H[q]?) : rx_P G B (va_up h a (some y)) n H1 := by
  obtain ⟨h1, h2, h3⟩ := hP
  refine ⟨hz.trans h1, h2, fun b z hb => ?_⟩
  by_cases e : b = a
  · subst e
    have hz2 : some y = some z := by rw [← hb]; simp [va_up]
    cases hz2
    exact ⟨(h3 b x ha).1, (h3 b x ha).2.1, hat⟩
  · have hb2 : h b = some z := by rw [← hb]; simp [va_up, e]
    obtain ⟨g1, g2, g3⟩ := h3 b z hb2
    exact ⟨g1, g2, g3.kept (hq b e)⟩
theorem rx_P.new {G : va_G} {B : Nat} {h : hp} {n : Nat} {H H1 : Heap} (hP : rx_P G B h n H) {y : va_E} (hat : va_at G vwCl (n, y) H1) (hz : H1.size = n + 1) (hq : ∀ q, q < n → H1[q]? = H[q]?) : rx_P G B (va_up h n (some y)) (n + 1) H1 := by
  obtain ⟨h1, h2, h3⟩ := hP
  refine ⟨hz, Nat.le_succ_of_le h2, fun b z hb => ?_⟩
  by_cases e : b = n
  · subst e
    have hz2 : some y = some z := by rw [← hb]; simp [va_up]
    cases hz2
    exact ⟨h2, Nat.lt_succ_self _, hat⟩
  · have hb2 : h b = some z := by rw [← hb]; simp [va_up, e]
    obtain ⟨g1, g2, g3⟩ := h3 b z hb2
    exact ⟨g1, Nat.lt_succ_of_lt g2, g3.kept (hq b g2)⟩
theorem rx_P.none {G : va_G} {B : Nat} {h : hp} {n : Nat} {H : Heap} (hP : rx_P G B h n H) {a : Nat} (ha : n ≤ a) : h a = none := by
  cases e : h a with
  | none => rfl
  | some x => have := (hP.2.2 a x e).2.1; omega
/-- the array classes: k 1 of ints, k 2 of bytes, k 3 of Positions, k 4 of Verbs -/
abbrev rx_tys (k : Nat → Nat) : List (ClassId × FieldType) := [(k 1, .int), (k 2, .byte), (k 3, .object RX2), (k 4, .object RX7)]
/-- what the machine's tables say, at a state -/
def rx_V (G : va_G) (k : Nat → Nat) (U : State) : Prop := va_K G vwCl (rx_tys k) U ∧ (∀ w ∈ rx_nest, va_Nw w U) ∧ va_AO RX2 U ∧ va_AO RX7 U
theorem rx_nw {w : Cond} {s U : State} (h : rx_isNest w = true) (hW : s.WarmedH U.vm) (hw : va_Nw w s) : va_Nw w U := by
  cases w <;> first | exact va_Nw.warmF hW hw | exact va_Nw.warmM hW hw | exact va_Nw.warmD hW hw | exact va_Nw.warmC hW hw | (simp [rx_isNest] at h; done)
theorem rx_V.warm {G : va_G} {k : Nat → Nat} {s U : State} (hW : s.WarmedH U.vm) (h : rx_V G k s) : rx_V G k U := ⟨va_K.moved hW.alike h.1, fun w hw => rx_nw (List.mem_filter.mp hw).2 hW (h.2.1 w hw), va_AO.moved hW.alike h.2.2.1, va_AO.moved hW.alike h.2.2.2⟩
theorem rx_nws {w : Cond} {u U : State} (hv : u.vm = U.vm) (h : rx_isNest w = true) (hw : va_Nw w u) : va_Nw w U := va_Nw.same (by cases w <;> first | rfl | (simp [rx_isNest] at h; done)) hv hw
theorem rx_V.same {G : va_G} {k : Nat → Nat} {u U : State} (hv : u.vm = U.vm) (h : rx_V G k u) : rx_V G k U := ⟨va_K.moved (hv ▸ Vm.Alike.refl u.vm) h.1, fun w hw => rx_nws hv (List.mem_filter.mp hw).2 (h.2.1 w hw), va_AO.moved (hv ▸ Vm.Alike.refl u.vm) h.2.2.1, va_AO.moved (hv ▸ Vm.Alike.refl u.vm) h.2.2.2⟩
/-- a link of a class's pool to field j of class ci -/
def rx_F (own : String) (index ci j : Nat) : Prop := ∃ (Cn : String) (T : u_T) (N : Nat), vwCl[ci]? = some (Cn, T, N) ∧ (∀ w ∈ u_ws Cn T N, w ∈ rx_good) ∧ j < N ∧ Cond.fieldLink own index (T j).1 (T j).2.1 (T j).2.2.1 ∈ rx_good
def rx_FN (own : String) (index ci j : Nat) : Prop := ∃ (Cn : String) (T : u_T) (N : Nat) (host : String), vwCl[ci]? = some (Cn, T, N) ∧ (∀ w ∈ u_ws Cn T N, w ∈ rx_good) ∧ j < N ∧ Cond.fieldLinkNest own index (T j).1 (T j).2.1 (T j).2.2.1 host ∈ rx_nest
/-- the fields of class ci have names and types of their own; field j's type is ty, and it is final or not -/
def rx_FT (ci j : Nat) (ty : FieldType) (fin : Bool) : Prop := ∃ (Cn : String) (T : u_T) (N : Nat) (ty0 : Nat → FieldType), vwCl[ci]? = some (Cn, T, N) ∧ (∀ i, i < N → parseFieldDescriptor (T i).2.2.1 = some (ty0 i)) ∧ (∀ a, a < N → ∀ b, b < N → a ≠ b → (T a).2.1 ≠ (T b).2.1) ∧ (T j).2.2.2 = fin ∧ parseFieldDescriptor (T j).2.2.1 = some ty ∧ (fin = true → (T j).1 = Cn)
/-- a method's tables: its code, its class, its parameters -/
def rx_Y (y : MethodName) (bytes : ByteArray) (maxL : Nat) (rt : Option FieldType) (np : Nat) : Prop := Cond.code y bytes maxL rt ∈ rx_good ∧ Cond.initialized y.cls ∈ rx_good ∧ (y.cls ≠ "java/lang/invoke/MethodHandle" ∧ y.cls ≠ "java/lang/invoke/VarHandle" ∧ (parseMethodDescriptor y.desc).map (fun d => d.parameters.length) = some np)
def rx_YV (y : MethodName) : Prop := Cond.instanceMethod y ∈ rx_good ∧ Cond.selects y.cls y y ∈ rx_good
/-- class ci: its name, its table, that it can be made -/
def rx_N (own : String) (index ci N : Nat) (fs : List Value) : Prop := ∃ (Cn : String) (T : u_T) (ty0 : Nat → FieldType), vwCl[ci]? = some (Cn, T, N) ∧ (∀ w ∈ u_ws Cn T N, w ∈ rx_good) ∧ (∀ i, i < N → parseFieldDescriptor (T i).2.2.1 = some (ty0 i)) ∧ Cond.classLink own index Cn ∈ rx_good ∧ Cond.instantiable Cn N ∈ rx_good ∧ Cond.initialized Cn ∈ rx_good ∧ ∀ j, j < N → defaultValue (ty0 j) = vp_V fs j
