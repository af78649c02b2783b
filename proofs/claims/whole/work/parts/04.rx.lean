/-! The frame of this proof. One picture for all methods: h is what lies at the addresses from the law's start on (k 0) up to the heap's size n; a method is walked over h, and its contract says which h it leaves. k: the numbers of the world (k 0 the first address; k 1 .. k 4 the array classes). -/
abbrev ob : Type := (Nat → Int32) × (Nat → Nat → Int32)
abbrev hp : Type := Nat → va_E
def rx_good : List Cond := lw_tbl.filter goodWord
theorem rx_g (i : Nat) {w : Cond} (h : lw_tbl[i]? = some w) (hg : goodWord w = true) : w ∈ rx_good := List.mem_filter.mpr ⟨List.mem_of_getElem? h, hg⟩
theorem rx_gall : rx_good.all goodWord = true := List.all_eq_true.mpr fun _ h => (List.mem_filter.mp h).2
def rx_isNest : Cond → Bool
  | .methodLinkNest .. => true
  | .fieldLinkNest .. => true
  | _ => false
def rx_nest : List Cond := lw_tbl.filter rx_isNest
theorem rx_n (i : Nat) {w : Cond} (h : lw_tbl[i]? = some w) (hg : rx_isNest w = true) : w ∈ rx_nest := List.mem_filter.mpr ⟨List.mem_of_getElem? h, hg⟩
/-- the words of a method: its own code, then all good ones -/
def rx_ws (y : MethodName) (cc : ByteArray) (maxL : Nat) (ret : Option FieldType) : List Cond := Cond.code y cc maxL ret :: rx_good
theorem rx_goodIn {ws : List Cond} (h : ∀ w ∈ ws, w ∈ rx_good) : GoodIn rx_good ws := fun w hw => ⟨h w hw, good_of_word (List.all_eq_true.mp rx_gall w (h w hw))⟩
theorem rx_goodWs {y : MethodName} {cc : ByteArray} {maxL : Nat} {ret : Option FieldType} (h : Cond.code y cc maxL ret ∈ rx_good) : GoodIn rx_good (rx_ws y cc maxL ret) := rx_goodIn fun w hw => by
  rcases List.mem_cons.mp hw with rfl | hw
  · exact h
  · exact hw
def rx_L (B n : Nat) : List Nat := List.range' B (n - B)
theorem rx_mem {B n a : Nat} (h1 : B ≤ a) (h2 : a < n) : a ∈ rx_L B n := by
  unfold rx_L
  rw [List.mem_range'_1]
  omega
theorem rx_in {B n a : Nat} (h : a ∈ rx_L B n) : B ≤ a ∧ a < n := by
  unfold rx_L at h
  rw [List.mem_range'_1] at h
  omega
theorem rx_push {B n : Nat} (h : B ≤ n) : rx_L B n ++ [n] = rx_L B (n + 1) := by
  unfold rx_L
  rw [show n + 1 - B = (n - B) + 1 by omega, List.range'_1_concat]
  congr 2
  omega
theorem rx_D (B n : Nat) (h : hp) : va_D (fun q => B ≤ q) (va_pl (rx_L B n) h) := by
  refine ⟨fun i j p q hi hj he => ?_, fun i q hi => ?_⟩
  · simp only [va_pl, List.getElem?_map, Option.map_eq_some_iff] at hi hj
    obtain ⟨a, ha, rfl⟩ := hi
    obtain ⟨b, hb, rfl⟩ := hj
    unfold rx_L at ha hb
    rw [List.getElem?_eq_some_iff] at ha hb
    obtain ⟨h1, h2⟩ := ha
    obtain ⟨h3, h4⟩ := hb
    rw [List.getElem_range'] at h2 h4
    have he : a = b := he
    omega
  · simp only [va_pl, List.getElem?_map, Option.map_eq_some_iff] at hi
    obtain ⟨a, ha, rfl⟩ := hi
    exact (rx_in (List.mem_of_getElem? ha)).1
/-- the picture of the heap -/
def rx_P (G : va_G) (B : Nat) (h : hp) (n : Nat) (H : Heap) : Prop := H.size = n ∧ B ≤ n ∧ va_P G vwCl (va_pl (rx_L B n) h) H
theorem rx_get0 {L : List Nat} {h : hp} {a : Nat} (hm : a ∈ L) : ∃ j : Nat, (va_pl L h)[j]? = some (a, h a) := by
  have := va_pl_get (X := []) (f := h) hm
  simpa using this
theorem rx_set0 {A : Nat → Prop} {L : List Nat} {h : hp} {a j : Nat} {x : va_E} (hD : va_D A (va_pl L h)) (hm : a ∈ L) (hj : (va_pl L h)[j]? = some (a, h a)) : (va_pl L h).set j (a, x) = va_pl L (va_up h a x) := by
  have := va_pl_set (X := []) (f := h) (e := x) (by simpa using hD) hm (by simpa using hj)
  simpa using this
/-- the array classes: k 1 of ints, k 2 of longs, k 3 of Positions, k 4 of Verbs -/
abbrev rx_tys (k : Nat → Nat) : List (ClassId × FieldType) := [(k 1, .int), (k 2, .long), (k 3, .object RX2), (k 4, .object RX7)]
/-- what the machine's tables say, at a state -/
def rx_V (G : va_G) (k : Nat → Nat) (U : State) : Prop := va_K G vwCl (rx_tys k) U ∧ ∀ w ∈ rx_nest, va_Nw w U
theorem rx_nw {w : Cond} {s U : State} (h : rx_isNest w = true) (hW : s.WarmedH U.vm) (hw : va_Nw w s) : va_Nw w U := by
  cases w <;> first | exact va_Nw.warmF hW hw | exact va_Nw.warmM hW hw | (simp [rx_isNest] at h; done)
theorem rx_V.warm {G : va_G} {k : Nat → Nat} {s U : State} (hW : s.WarmedH U.vm) (h : rx_V G k s) : rx_V G k U := ⟨va_K.moved hW.alike h.1, fun w hw => rx_nw (List.mem_filter.mp hw).2 hW (h.2 w hw)⟩
theorem rx_nws {w : Cond} {u U : State} (hv : u.vm = U.vm) (h : rx_isNest w = true) (hw : va_Nw w u) : va_Nw w U := va_Nw.same (by cases w <;> first | rfl | (simp [rx_isNest] at h; done)) hv hw
theorem rx_V.same {G : va_G} {k : Nat → Nat} {u U : State} (hv : u.vm = U.vm) (h : rx_V G k u) : rx_V G k U := ⟨va_K.moved (hv ▸ Vm.Alike.refl u.vm) h.1, fun w hw => rx_nws hv (List.mem_filter.mp hw).2 (h.2 w hw)⟩
