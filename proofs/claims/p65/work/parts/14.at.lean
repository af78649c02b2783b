/-! The four readers and writers of rows, by hand. -/
abbrev rx_rm (f lo : Nat) : Room := { frames := f, cells := 0, slots := 0, locals := lo }
set_option maxRecDepth 100000 in
theorem mc_min : Cond.code Lib.Math.min.name Lib.Math.min.code 2 (some .int) ∈ rx_good := (rx_g2 34 rfl rfl)
set_option maxRecDepth 100000 in
theorem ms_min : Cond.static Lib.Math.min.name ∈ rx_good := (rx_g2 33 rfl rfl)
set_option maxRecDepth 100000 in
theorem mc_max : Cond.code Lib.Math.max.name Lib.Math.max.code 2 (some .int) ∈ rx_good := (rx_g4 224 rfl rfl)
set_option maxRecDepth 100000 in
theorem ms_max : Cond.static Lib.Math.max.name ∈ rx_good := (rx_g4 223 rfl rfl)
set_option maxRecDepth 100000 in
theorem mc_abs : Cond.code Lib.Math.abs.name Lib.Math.abs.code 1 (some .int) ∈ rx_good := (rx_g2 105 rfl rfl)
set_option maxRecDepth 100000 in
theorem ms_abs : Cond.static Lib.Math.abs.name ∈ rx_good := (rx_g2 104 rfl rfl)
set_option maxRecDepth 100000 in
theorem mi_math : Cond.initialized "java/lang/Math" ∈ rx_good := (rx_g1 8 rfl rfl)
set_option maxRecDepth 100000 in
theorem ac_link : Cond.methodLink RX8 411 arraycopyName ∈ rx_good := (rx_g2 35 rfl rfl)
set_option maxRecDepth 100000 in
theorem ac_nat : Cond.native arraycopyName ∈ rx_good := (rx_g2 37 rfl rfl)
set_option maxRecDepth 100000 in
theorem ac_stat : Cond.static arraycopyName ∈ rx_good := (rx_g2 36 rfl rfl)
set_option maxRecDepth 100000 in
theorem ac_ini : Cond.initialized "java/lang/System" ∈ rx_good := (rx_g1 9 rfl rfl)
section RCP
variable {p : Program} {l : Launch} {e : Env} {R : Room} {s : State} {m : MethodId} {args : Array Value} {below : List Frame} {meth : Method} {c : Code} {Q : State → Prop} {G : va_G} {k : Nat → Nat} {cc : ByteArray} {own : String} {nL : Nat} {ret : Option FieldType} {cells slots : Nat} {h : hp} {n pc : Nat} {L : List (Nat × Value)} {st : List Value}
/-- System.arraycopy of a whole beginning, between two int rows -/
theorem rx_copy (C : rx_C G k p m c cc own nL ret s args meth) {index : Nat} (hlink : Cond.methodLink own index arraycopyName ∈ rx_good) (hnat : Cond.native arraycopyName ∈ rx_good) (hstat : Cond.static arraycopyName ∈ rx_good) (hini : Cond.initialized "java/lang/System" ∈ rx_good)
    {a b n0 n1 w : Nat} {f g : Nat → Int32} (ha : h a = some (rx_ia k n0 f)) (hb : h b = some (rx_ia k n1 g)) (hw0 : w ≤ n0) (hw1 : w ≤ n1) (hw : w < 2 ^ 31) (hframes : 1 ≤ R.frames) (hlocals : (st.map fun v => v.category).sum + (nativeFrameWords "java/lang/System" "arraycopy" 5 + 11) ≤ R.locals) (hdg : decode cc pc = .ok (.invokestatic index, 3))
    (K : rx_W p l e R s m args below meth c Q G k nL cells slots (va_up h b (some (rx_ia k n1 (va_cpy f g 0 0 w)))) n (pc + 3) L st) : rx_W p l e R s m args below meth c Q G k nL cells slots h n pc L (.int (nI w) :: .int 0 :: .ref b :: .int 0 :: .ref a :: st) := fun H locs ls hP hS hl => by
  intro T hT X
  obtain ⟨-, -, hc0⟩ := hP.2.2 a _ ha
  obtain ⟨hB, hlt, hc1⟩ := hP.2.2 b _ hb
  have hc0 : H[a]? = some (vp_cell (k 1) (n0, .inl f)) := hc0
  have hc1 : H[b]? = some (vp_cell (k 1) (n1, .inl g)) := hc1
  have hK0 := (C.2.2.2.2.2.2.2.1.1.2 0 _ rfl).1
  obtain ⟨-, k0, hk0, cm0, hkk0⟩ := hK0 n0 (fun j => .int (f j))
  obtain ⟨-, k1, hk1, cm1, hkk1⟩ := hK0 n1 (fun j => .int (g j))
  have hcl : (nI w).toNatClampNeg = w := nI_clamp hw
  have hti : (nI w).toInt = (w : Int) := nI_toInt hw
  obtain ⟨vm', X', step⟩ := X.arraycopy C.1 C.2.2.1 (C.2.2.2.1 _ hlink) (C.2.2.2.1 _ hnat) (C.2.2.2.1 _ hstat) (C.2.2.2.1 _ hini) (src := a) (dst := b) (cs := vp_cell (k 1) (n0, .inl f)) (cd := vp_cell (k 1) (n1, .inl g)) (srcPos := 0) (destPos := 0) (n := nI w) (by rw [hT]; exact hc0) (by rw [hT]; exact hc1)
    (fun _ h => by cases h) (fun _ h => by cases h) (fun h => by cases h) (fun h => by cases h) hk0 hk1 hkk0 hkk1 (by simp [refKind]) (by decide) (by decide) (nI_pos hw)
    (by rw [hti]; show ¬ _ > ((arrV (k 1) n0 (fun j => .int (f j))).slots.size : Int); rw [arrV_size]; have : (0 : Int32).toInt = 0 := rfl; omega)
    (by rw [hti]; show ¬ _ > ((arrV (k 1) n1 (fun j => .int (g j))).slots.size : Int); rw [arrV_size]; have : (0 : Int32).toInt = 0 := rfl; omega)
    (fun vm₁ _ i hi => by
      have hz : (0 : Int32).toNatClampNeg = 0 := rfl
      rw [hcl] at hi
      have e : (vp_cell (k 1) (n0, .inl f)).slots.getD ((0 : Int32).toNatClampNeg + i) .null = .int (f i) := by
        show (arrV (k 1) n0 (fun j => .int (f j))).slots.getD _ _ = _
        rw [hz, Nat.zero_add, Array.getD_eq_getD_getElem?, arrV_read _ _ (by omega)]
        rfl
      exact ⟨by rw [e]; rfl, by rw [e]; exact trivial⟩)
    (g := F0 m pc ls (.int (nI w) :: .int 0 :: .ref b :: .int 0 :: .ref a :: st)) rfl (by rw [C.2.2.2.2.1]; exact hl.1) (rest := st) rfl (by rw [C.2.1]; exact hdg) hframes (by show 2 * 0 + _ + _ ≤ _; omega)
  have e1 : copied (vp_cell (k 1) (n0, .inl f)) (vp_cell (k 1) (n1, .inl g)) 0 0 (nI w) = vp_cell (k 1) (n1, .inl (va_cpy f g 0 0 w)) := by
    show (arrV (k 1) n1 (fun j => .int (g j))).storeRun (0 : Int32).toNatClampNeg ((arrV (k 1) n0 (fun j => .int (f j))).stretch (0 : Int32).toNatClampNeg (nI w).toNatClampNeg) = arrV (k 1) n1 (fun j => .int (va_cpy f g 0 0 w j))
    rw [hcl]
    exact va_copied (fun z => .int z) (k 1) (k 1) (n0 := n0) (n1 := n1) (sp := 0) (dp := 0) (n := w) f g (by omega)
  rw [e1] at X' step
  obtain ⟨t, a1, b1⟩ := K (H.setIfInBounds b (vp_cell (k 1) (n1, .inl (va_cpy f g 0 0 w)))) _ ls (hP.put hb (show (H.setIfInBounds b _)[b]? = some _ by
      have hl2 : b < H.size := by rw [hP.1]; exact hlt
      simp [Array.getElem?_setIfInBounds, hl2]) (by simp) (fun q hq => by simp [Array.getElem?_setIfInBounds, Ne.symm hq])) ⟨by simp; exact hS.1, fun q g1 g2 => by
      have hne : q ≠ b := fun z => g2 (by rw [z]; exact hB)
      rw [show (H.setIfInBounds b (vp_cell (k 1) (n1, .inl (va_cpy f g 0 0 w))))[q]? = H[q]? by simp [Array.getElem?_setIfInBounds, Ne.symm hne]]
      exact hS.2.1 q g1 g2, fun q hq => by
      rcases List.mem_append.mp hq with h | h
      · exact hS.2.2 q h
      · obtain ⟨z, -, hz⟩ := List.mem_map.mp h
        rw [← hz]
        exact hB⟩ hl _ (by rw [← hT]; rfl) X'
  exact ⟨t, step t a1, b1⟩
theorem rx_mmin (C : rx_C G k p m c cc own nL ret s args meth) {index : Nat} (hlink : Cond.methodLink own index Lib.Math.min.name ∈ rx_good) (hframes : 1 ≤ R.frames) (hlocals : (st.map fun v => v.category).sum + 13 ≤ R.locals) (hc : cells ≤ R.cells) (hs : slots ≤ R.slots) {x y : Int32} (hdg : decode cc pc = .ok (.invokestatic index, 3))
    (K : rx_W p l e R s m args below meth c Q G k nL cells slots h n (pc + 3) L (.int (if y < x then y else x) :: st)) : rx_W p l e R s m args below meth c Q G k nL cells slots h n pc L (.int y :: .int x :: st) := fun H locs ls hP hS hl =>
  va_mmin C.1 C.2.1 (by rw [C.2.2.2.2.1]; exact hl.1.symm) C.2.2.1 (C.2.2.2.1 _ hlink) (C.2.2.2.1 _ ms_min) (C.2.2.2.1 _ mi_math) (C.2.2.2.1 _ mc_min) hframes hlocals hc hs hdg (K H locs ls hP hS hl)
theorem rx_mmax (C : rx_C G k p m c cc own nL ret s args meth) {index : Nat} (hlink : Cond.methodLink own index Lib.Math.max.name ∈ rx_good) (hframes : 1 ≤ R.frames) (hlocals : (st.map fun v => v.category).sum + 13 ≤ R.locals) (hc : cells ≤ R.cells) (hs : slots ≤ R.slots) {x y : Int32} (hdg : decode cc pc = .ok (.invokestatic index, 3))
    (K : rx_W p l e R s m args below meth c Q G k nL cells slots h n (pc + 3) L (.int (if x < y then y else x) :: st)) : rx_W p l e R s m args below meth c Q G k nL cells slots h n pc L (.int y :: .int x :: st) := fun H locs ls hP hS hl =>
  va_mmax C.1 C.2.1 (by rw [C.2.2.2.2.1]; exact hl.1.symm) C.2.2.1 (C.2.2.2.1 _ hlink) (C.2.2.2.1 _ ms_max) (C.2.2.2.1 _ mi_math) (C.2.2.2.1 _ mc_max) hframes hlocals hc hs hdg (K H locs ls hP hS hl)
theorem rx_mabs (C : rx_C G k p m c cc own nL ret s args meth) {index : Nat} (hlink : Cond.methodLink own index Lib.Math.abs.name ∈ rx_good) (hframes : 1 ≤ R.frames) (hlocals : (st.map fun v => v.category).sum + 13 ≤ R.locals) (hc : cells ≤ R.cells) (hs : slots ≤ R.slots) {x : Int32} (hdg : decode cc pc = .ok (.invokestatic index, 3))
    (K : rx_W p l e R s m args below meth c Q G k nL cells slots h n (pc + 3) L (.int (if 0 ≤ x then x else 0 - x) :: st)) : rx_W p l e R s m args below meth c Q G k nL cells slots h n pc L (.int x :: st) := fun H locs ls hP hS hl =>
  va_mabs C.1 C.2.1 (by rw [C.2.2.2.2.1]; exact hl.1.symm) C.2.2.1 (C.2.2.2.1 _ hlink) (C.2.2.2.1 _ ms_abs) (C.2.2.2.1 _ mi_math) (C.2.2.2.1 _ mc_abs) hframes hlocals hc hs hdg (K H locs ls hP hS hl)
end RCP
section RAT
variable {l : Launch} {G : va_G} {k : Nat → Nat} {h : hp} {n : Nat}
theorem w_at {a len : Nat} {f : Nat → Int32} {i : Int32} (ha : h a = some (rx_ia k len f)) (hlen : len < 2 ^ 31) : Met l yX8_at (rx_ws yX8_at cX8_at 2 (some .int)) (rx_rm 0 0) (va_Pc [.ref a, .int i] (rx_G G k h n)) (va_Qi (fun r u => r = rx_at len f i ∧ u = (h, n)) (rx_B G k) (rx_A k)) 0 0 (rx_A k) := by
  refine rx_start [(0, .ref a), (1, .int i)] rfl (Nat.le_of_ble_eq_true rfl) (by decide) rfl (fun p e s m args below meth c C hname => ?_)
  refine rx_iload_n C dX8_at_0 1 rfl ?_
  refine rx_if_lt C dX8_at_1 16 (by decide) (fun c1 => ?_) (fun c1 => ?_)
  · refine rx_iconst C dX8_at_16 0 (by decide) ?_
    exact rx_iret C dX8_at_17 (Nat.le_refl _) (Nat.le_refl _) ⟨by unfold rx_at; rw [if_pos c1], rfl⟩
  · refine rx_iload_n C dX8_at_4 1 rfl ?_
    refine rx_aload_n C dX8_at_5 0 rfl ?_
    refine rx_alen C 0 rfl dX8_at_6 ha ?_
    refine rx_icmp_ge C dX8_at_7 16 (by decide) (fun c2 => ?_) (fun c2 => ?_)
    · refine rx_iconst C dX8_at_16 0 (by decide) ?_
      exact rx_iret C dX8_at_17 (Nat.le_refl _) (Nat.le_refl _) ⟨by unfold rx_at; rw [if_neg c1, if_pos c2], rfl⟩
    · refine rx_aload_n C dX8_at_10 0 rfl ?_
      refine rx_iload_n C dX8_at_11 1 rfl ?_
      have hin : vp_in i len := by
        intro q
        rcases q with q | q
        · exact c1 q
        · apply c2
          rw [Int32.le_iff_toInt_le, nI_toInt hlen]
          have h0 : ¬ i.toInt < 0 := fun z => c1 (by rw [Int32.lt_iff_toInt_lt]; exact z)
          have h1 : i.toNatClampNeg = i.toInt.toNat := rfl
          omega
      refine rx_iald C dX8_at_12 ha hin ?_
      refine rx_goto C dX8_at_13 17 (by decide) ?_
      exact rx_iret C dX8_at_17 (Nat.le_refl _) (Nat.le_refl _) ⟨by unfold rx_at; rw [if_neg c1, if_neg c2], rfl⟩
theorem w_put {a len : Nat} {f : Nat → Int32} {i v : Int32} (ha : h a = some (rx_ia k len f)) (hlen : len < 2 ^ 31) : Met l yX8_put (rx_ws yX8_put cX8_put 3 none) (rx_rm 0 0) (va_Pc [.ref a, .int i, .int v] (rx_G G k h n)) (va_Qv (fun u => u = (va_up h a (some (rx_ia k len (rx_put len f i v))), n)) (rx_B G k) (rx_A k)) 0 0 (rx_A k) := by
  refine rx_start [(0, .ref a), (1, .int i), (2, .int v)] rfl (Nat.le_of_ble_eq_true rfl) (by decide) rfl (fun p e s m args below meth c C hname => ?_)
  have hsame : va_up h a (some (rx_ia k len f)) = h := by
    funext b
    by_cases e : b = a
    · subst e; rw [va_up_self, ha]
    · rw [va_up_ne _ _ e]
  refine rx_iload_n C dX8_put_0 1 rfl ?_
  refine rx_if_lt C dX8_put_1 14 (by decide) (fun c1 => ?_) (fun c1 => ?_)
  · exact rx_vret C dX8_put_14 (Nat.le_refl _) (Nat.le_refl _) (by unfold rx_put; rw [if_pos c1, hsame])
  · refine rx_iload_n C dX8_put_4 1 rfl ?_
    refine rx_aload_n C dX8_put_5 0 rfl ?_
    refine rx_alen C 0 rfl dX8_put_6 ha ?_
    refine rx_icmp_ge C dX8_put_7 14 (by decide) (fun c2 => ?_) (fun c2 => ?_)
    · exact rx_vret C dX8_put_14 (Nat.le_refl _) (Nat.le_refl _) (by unfold rx_put; rw [if_neg c1, if_pos c2, hsame])
    · refine rx_aload_n C dX8_put_10 0 rfl ?_
      refine rx_iload_n C dX8_put_11 1 rfl ?_
      refine rx_iload_n C dX8_put_12 2 rfl ?_
      have hin : vp_in i len := by
        intro q
        rcases q with q | q
        · exact c1 q
        · apply c2
          rw [Int32.le_iff_toInt_le, nI_toInt hlen]
          have h0 : ¬ i.toInt < 0 := fun z => c1 (by rw [Int32.lt_iff_toInt_lt]; exact z)
          have h1 : i.toNatClampNeg = i.toInt.toNat := rfl
          omega
      refine rx_iast C dX8_put_13 ha hin ?_
      exact rx_vret C dX8_put_14 (Nat.le_refl _) (Nat.le_refl _) (by unfold rx_put; rw [if_neg c1, if_neg c2])
theorem w_add {a len : Nat} {f : Nat → Int32} {i v : Int32} (ha : h a = some (rx_ia k len f)) (hlen : len < 2 ^ 31) : Met l yX8_add (rx_ws yX8_add cX8_add 3 none) (rx_rm 1 22) (va_Pc [.ref a, .int i, .int v] (rx_G G k h n)) (va_Qv (fun u => u = (va_up h a (some (rx_ia k len (rx_put len f i (rx_at len f i + v)))), n)) (rx_B G k) (rx_A k)) 0 0 (rx_A k) := by
  refine rx_start [(0, .ref a), (1, .int i), (2, .int v)] rfl (Nat.le_of_ble_eq_true rfl) (by decide) rfl (fun p e s m args below meth c C hname => ?_)
  refine rx_aload_n C dX8_add_0 0 rfl ?_
  refine rx_iload_n C dX8_add_1 1 rfl ?_
  refine rx_aload_n C dX8_add_2 0 rfl ?_
  refine rx_iload_n C dX8_add_3 1 rfl ?_
  refine rx_ci (rx_rS C (w_at ha hlen) Y_X8_at S_X8_at m_X8_136 ⟨⟨rfl, rfl⟩, ⟨Nat.le_of_ble_eq_true rfl, Nat.le_of_ble_eq_true rfl⟩, ⟨Nat.le_of_ble_eq_true rfl, Nat.le_of_ble_eq_true rfl⟩⟩ rfl rfl (Nat.le_of_ble_eq_true rfl) dX8_add_4) (fun r h1 n1 hp => ?_)
  obtain ⟨rfl, hu⟩ := hp
  cases hu
  refine rx_iload_n C dX8_add_7 2 rfl ?_
  refine rx_iadd C dX8_add_8 ?_
  refine rx_cv (rx_rS C (w_put ha hlen) Y_X8_put S_X8_put m_X8_404 ⟨⟨rfl, rfl⟩, ⟨Nat.le_of_ble_eq_true rfl, Nat.le_of_ble_eq_true rfl⟩, ⟨Nat.le_of_ble_eq_true rfl, Nat.le_of_ble_eq_true rfl⟩⟩ rfl rfl (Nat.le_of_ble_eq_true rfl) dX8_add_9) (fun h1 n1 hp => ?_)
  cases hp
  exact rx_vret C dX8_add_12 (Nat.le_refl _) (Nat.le_refl _) rfl
theorem w_copyRow {a b n0 n1 : Nat} {f g : Nat → Int32} (ha : h a = some (rx_ia k n0 f)) (hb : h b = some (rx_ia k n1 g)) (h0 : n0 < 2 ^ 31) (h1 : n1 < 2 ^ 31) : Met l yX8_copyRow (rx_ws yX8_copyRow cX8_copyRow 2 none) (rx_rm 1 40) (va_Pc [.ref a, .ref b] (rx_G G k h n)) (va_Qv (fun u => u = (va_up h b (some (rx_ia k n1 (rx_cp n0 n1 f g))), n)) (rx_B G k) (rx_A k)) 0 0 (rx_A k) := by
  refine rx_start [(0, .ref a), (1, .ref b)] rfl (Nat.le_of_ble_eq_true rfl) (by decide) rfl (fun p e s m args below meth c C hname => ?_)
  refine rx_aload_n C dX8_copyRow_0 0 rfl ?_
  refine rx_iconst C dX8_copyRow_1 0 (by decide) ?_
  refine rx_aload_n C dX8_copyRow_2 1 rfl ?_
  refine rx_iconst C dX8_copyRow_3 0 (by decide) ?_
  refine rx_aload_n C dX8_copyRow_4 0 rfl ?_
  refine rx_alen C 0 rfl dX8_copyRow_5 ha ?_
  refine rx_aload_n C dX8_copyRow_6 1 rfl ?_
  refine rx_alen C 0 rfl dX8_copyRow_7 hb ?_
  refine rx_mmin C m_X8_408 (Nat.le_of_ble_eq_true rfl) (Nat.le_of_ble_eq_true rfl) (Nat.le_refl _) (Nat.le_refl _) dX8_copyRow_8 ?_
  have e : (if nI n1 < nI n0 then nI n1 else nI n0) = nI (min n0 n1) := by
    by_cases hc : n1 < n0
    · rw [if_pos ((nI_ltI h1 h0).mpr hc), Nat.min_eq_right (by omega)]
    · rw [if_neg (fun q => hc ((nI_ltI h1 h0).mp q)), Nat.min_eq_left (by omega)]
  dsimp only at e ⊢
  rw [e]
  refine rx_copy C ac_link ac_nat ac_stat ac_ini ha hb (by omega) (by omega) (by omega) (Nat.le_of_ble_eq_true rfl) (Nat.le_of_ble_eq_true rfl) dX8_copyRow_11 ?_
  exact rx_vret C dX8_copyRow_14 (Nat.le_refl _) (Nat.le_refl _) rfl
end RAT
