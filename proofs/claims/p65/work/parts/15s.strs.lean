set_option maxRecDepth 100000 in
theorem lk_L_34 : Cond.constant RL 34 (1073741823 : Int32) ∈ rx_good := (rx_g2 131 rfl rfl)
set_option maxRecDepth 100000 in
theorem sf_J0_38 : Cond.fieldLink RJ0 38 RJ0 "COMPACT_STRINGS" "Z" ∈ rx_good := (rx_g2 149 rfl rfl)
set_option maxRecDepth 100000 in
theorem sf_J0_1053 : Cond.fieldLink RJ0 1053 RJ3 "SIOOBE_FORMATTER" "Ljava/util/function/BiFunction;" ∈ rx_good := (rx_g2 165 rfl rfl)
set_option maxRecDepth 100000 in
theorem sf_J2_44 : Cond.fieldLink RJ2 44 RJ2 "$assertionsDisabled" "Z" ∈ rx_good := (rx_g2 183 rfl rfl)
set_option maxRecDepth 100000 in
theorem sf_J2_59 : Cond.fieldLink RJ2 59 RJ2 "HI_BYTE_SHIFT" "I" ∈ rx_good := (rx_g2 185 rfl rfl)
set_option maxRecDepth 100000 in
theorem sf_J2_63 : Cond.fieldLink RJ2 63 RJ2 "LO_BYTE_SHIFT" "I" ∈ rx_good := (rx_g2 187 rfl rfl)
set_option maxRecDepth 100000 in
theorem lk_L_60 : Cond.constant RL 60 (32768 : Int32) ∈ rx_good := (rx_g2 197 rfl rfl)
set_option maxRecDepth 100000 in
theorem lk_L_61 : Cond.constant RL 61 (524288 : Int32) ∈ rx_good := (rx_g2 198 rfl rfl)
set_option maxRecDepth 100000 in
theorem sf_X8_286 : Cond.fieldLink RX8 286 RX7 "DROP" "LBeggarKings$Verb;" ∈ rx_good := (rx_g3 209 rfl rfl)
set_option maxRecDepth 100000 in
theorem sf_X2_194 : Cond.fieldLink RX2 194 RX0 "$SwitchMap$BeggarKings$Verb" "[I" ∈ rx_good := (rx_g3 224 rfl rfl)
set_option maxRecDepth 100000 in
theorem sf_X8_299 : Cond.fieldLink RX8 299 RX7 "PICK" "LBeggarKings$Verb;" ∈ rx_good := (rx_g4 72 rfl rfl)
set_option maxRecDepth 100000 in
theorem sf_X8_305 : Cond.fieldLink RX8 305 RX7 "LAY" "LBeggarKings$Verb;" ∈ rx_good := (rx_g4 91 rfl rfl)
set_option maxRecDepth 100000 in
theorem sf_X8_311 : Cond.fieldLink RX8 311 RX7 "LIFT" "LBeggarKings$Verb;" ∈ rx_good := (rx_g4 113 rfl rfl)
set_option maxRecDepth 100000 in
theorem sf_X8_317 : Cond.fieldLink RX8 317 RX7 "SWAP" "LBeggarKings$Verb;" ∈ rx_good := (rx_g4 123 rfl rfl)
set_option maxRecDepth 100000 in
theorem sf_X8_323 : Cond.fieldLink RX8 323 RX7 "QUEUE" "LBeggarKings$Verb;" ∈ rx_good := (rx_g4 138 rfl rfl)
set_option maxRecDepth 100000 in
theorem sf_X8_329 : Cond.fieldLink RX8 329 RX7 "QUIT" "LBeggarKings$Verb;" ∈ rx_good := (rx_g4 153 rfl rfl)
set_option maxRecDepth 100000 in
theorem sf_X8_335 : Cond.fieldLink RX8 335 RX7 "PRIDE" "LBeggarKings$Verb;" ∈ rx_good := (rx_g4 167 rfl rfl)
set_option maxRecDepth 100000 in
theorem sf_X8_341 : Cond.fieldLink RX8 341 RX7 "TURN" "LBeggarKings$Verb;" ∈ rx_good := (rx_g4 177 rfl rfl)
set_option maxRecDepth 100000 in
theorem sf_J0_9 : Cond.fieldLink RJ0 9 RJ0 "value" "[B" ∈ rx_good := (rx_g5 58 rfl rfl)
set_option maxRecDepth 100000 in
theorem sf_J0_15 : Cond.fieldLink RJ0 15 RJ0 "coder" "B" ∈ rx_good := (rx_g5 59 rfl rfl)
set_option maxRecDepth 100000 in
theorem sf_X2_181 : Cond.fieldLinkNest RX2 181 RX7 "people" "I" "BeggarKings" ∈ rx_nest := (rx_n5 60 rfl rfl)
set_option maxRecDepth 100000 in
theorem sf_Jx29ce0_7 : Cond.fieldLink RJx29ce0 7 RJx29ce0 "ordinal" "I" ∈ rx_good := (rx_g5 61 rfl rfl)
set_option maxRecDepth 100000 in
theorem sf_X7_63 : Cond.fieldLink RX7 63 RX7 "low" "I" ∈ rx_good := (rx_g5 62 rfl rfl)
set_option maxRecDepth 100000 in
theorem sf_X7_66 : Cond.fieldLink RX7 66 RX7 "high" "I" ∈ rx_good := (rx_g5 63 rfl rfl)
set_option maxRecDepth 100000 in
theorem ord_same : Cond.sameMethod "BeggarKings$Verb" "java/lang/Enum" "ordinal" "()I" ∈ rx_good := (rx_g3 227 rfl rfl)
set_option maxRecDepth 100000 in
theorem ord_sel : Cond.selects "BeggarKings$Verb" ⟨"BeggarKings$Verb", "ordinal", "()I"⟩ ⟨"java/lang/Enum", "ordinal", "()I"⟩ ∈ rx_good := (rx_g3 229 rfl rfl)
set_option maxRecDepth 100000 in
theorem ord_inst : Cond.instanceMethod ⟨"java/lang/Enum", "ordinal", "()I"⟩ ∈ rx_good := (rx_g3 230 rfl rfl)
set_option maxRecDepth 100000 in
theorem ord_ini : Cond.initialized "java/lang/Enum" ∈ rx_good := (rx_g1 19 rfl rfl)
set_option maxRecDepth 100000 in
theorem ord_iniv : Cond.initialized "BeggarKings$Verb" ∈ rx_good := (rx_g1 20 rfl rfl)
set_option maxRecDepth 100000 in
theorem m_X2_199 : Cond.methodLink "BeggarKings$Position" 199 ⟨"BeggarKings$Verb", "ordinal", "()I"⟩ ∈ rx_good := (rx_g3 226 rfl rfl)
def rx_vt (i z : Nat) : Int32 := (rx_vf.getD i ("", [])).2.getD z 0
def rx_sw (z : Nat) : Int32 := rx_sm.getD z 0
theorem rx_swin {z : Nat} (h : z < 9) : vp_in (nI z) 9 := fun q => by
  rcases q with q | q
  · exact nI_pos (by omega) q
  · rw [nI_clamp (by omega)] at q; omega
theorem rx_swv {z : Nat} (h : z < 9) : (fun j => Value.int (rx_sm.getD j 0)) (nI z).toNatClampNeg = .int (rx_sw z) := by
  show Value.int (rx_sm.getD (nI z).toNatClampNeg 0) = _
  rw [nI_clamp (by omega)]
  rfl
theorem rx_neI {x c : Int32} (h : ¬ x = c) : x.toInt ≠ c.toInt := fun q => h (Int32.toInt_inj.mp q)
/-- the law's script: its length k 8, its ints from k 1000 on -/
def rx_xld (k : Nat → Nat) (i : Int32) : Option Int32 := if 0 ≤ i ∧ i.toNatClampNeg < k 8 then some (nI (k (1000 + i.toNatClampNeg))) else none
/-- a text's letter, as charAt answers it -/
def rx_chr (t : Nat) (i : Int32) : Option Int32 := if 0 ≤ i ∧ i.toNatClampNeg < rx_len.getD t 0 then some ((rx_byt.getD t []).getD i.toNatClampNeg 0) else none
section RXS
variable {p : Program} {l : Launch} {e : Env} {R : Room} {s : State} {m : MethodId} {args : Array Value} {below : List Frame} {meth : Method} {c : Code} {Q : State → Prop} {G : va_G} {k : Nat → Nat} {cc : ByteArray} {own : String} {nL : Nat} {ret : Option FieldType} {cells slots : Nat} {h : hp} {n pc : Nat} {L : List (Nat × Value)} {st : List Value}
theorem rx_vO (C : rx_C G k p m c cc own nL ret s args meth) {z : Nat} (hz : z < 9) (i : Nat) {nm : String} (hi : (rx_vf[i]?).map (fun f => f.1) = some nm) : va_OF RX7 nm "I" (.int (rx_vt i z)) (k (10 + z)) (fun q => k 0 ≤ q) s s.heap := by
  cases hf : rx_vf[i]? with
  | none => rw [hf] at hi; cases hi
  | some f =>
    rw [hf] at hi
    cases hi
    have h1 := (C.2.2.2.2.2.2.2.2.2.1 z hz).2.2.2.2 f (List.mem_of_getElem? hf)
    have e0 : rx_vf.getD i ("", []) = f := by rw [List.getD_eq_getElem?_getD, hf]; rfl
    have e : rx_vt i z = f.2.getD z 0 := by unfold rx_vt; rw [e0]
    rw [e]
    exact h1
theorem w_ordinal {z : Nat} (hz : z < 9) : Met l yJx29ce0_ordinal_8abf5 (rx_ws yJx29ce0_ordinal_8abf5 cJx29ce0_ordinal_8abf5 1 (some .int)) (rx_rm 0 0) (va_Pc [.ref (k (10 + z))] (rx_G G k h n)) (va_Qi (fun r u => nI z = r ∧ u = (h, n)) (rx_B G k) (rx_A k)) 0 0 (rx_A k) := by
  refine rx_start [(0, .ref (k (10 + z)))] rfl (Nat.le_of_ble_eq_true rfl) (by decide +kernel) rfl (fun P9 E9 S9 M9 A9 B9 me9 c9 C hname => ?_)
  refine rx_aload_n C dJx29ce0_ordinal_8abf5_0 0 rfl ?_
  refine rx_getO C (C.2.2.2.2.2.2.2.2.2.1 z hz).2.2.1 sf_Jx29ce0_7 dJx29ce0_ordinal_8abf5_1 ?_
  exact rx_iret C dJx29ce0_ordinal_8abf5_4 (Nat.le_refl _) (Nat.le_refl _) ⟨rfl, rfl⟩
theorem rx_ord (C : rx_C G k p m c cc own nL ret s args meth) {z index : Nat} {rest : List Value} (hz : z < 9) (hlk : Cond.methodLink own index ⟨"BeggarKings$Verb", "ordinal", "()I"⟩ ∈ rx_good) (hR : rx_R (rx_rm 0 0) R 0 0 1 cells slots) (hcat : (rest.map fun v => v.category).sum ≤ 8) (hdg : decode cc pc = .ok (.invokevirtual index, 3)) :
    rx_Run p l e R s m args below meth c G k nL cells slots 0 0 h n pc L (.ref (k (10 + z)) :: rest) rest ((va_Qi (fun r u => nI z = r ∧ u = (h, n)) (rx_B G k) (rx_A k)) #[Value.ref (k (10 + z))]) := fun H locs ls hP hS hl => by
  refine va_runU (rx_fix C) (w_ordinal hz) (C := "BeggarKings$Verb") (owner := "java/lang/Enum") (x := ⟨"BeggarKings$Verb", "ordinal", "()I"⟩) (As := []) (va_cwU 0 C.2.2.2.1 (rx_goodIn fun w hw => ?_) rfl hR.1.1 hR.1.2 rfl ⟨by decide, by decide, by decide +kernel⟩ hR.2.1) ⟨rx_blind, rx_recvO C hS (C.2.2.2.2.2.2.2.2.2.1 z hz).2.1, rx_pre C hP hS _⟩ rfl rfl hl.1 rfl (lv_room hcat) hdg hR.2.2
  simp only [va_wsU, rx_ws, List.mem_append, List.mem_cons, List.not_mem_nil, or_false] at hw
  rcases hw with hw | rfl | hw
  · rcases hw with rfl | rfl | rfl | rfl | rfl
    · exact hlk
    · exact ord_same
    · exact ord_sel
    · exact ord_inst
    · exact ord_ini
  · exact Y_Jx29ce0_ordinal_8abf5.1
  · exact hw
theorem rx_i2c (C : rx_C G k p m c cc own nL ret s args meth) {x v : Int32} (hdg : decode cc pc = .ok (.i2c, 1)) (hv : (x.toUInt32 % 65536).toInt32 = v) (K : rx_W p l e R s m args below meth c Q G k nL cells slots h n (pc + 1) L (.int v :: st)) : rx_W p l e R s m args below meth c Q G k nL cells slots h n pc L (.int x :: st) := fun H locs ls hP hS hl => lv_i2c C.1 C.2.1 hdg hv (K H locs ls hP hS hl)
theorem w_chk {i len : Int32} {fv : Value} (hfv : fv = .null ∨ ∃ t, fv = .ref t) (h0 : ¬ i < 0) (h1 : i < len) : Met l yJ3_checkIndex_8e157 (rx_ws yJ3_checkIndex_8e157 cJ3_checkIndex_8e157 3 (some .int)) (rx_rm 0 0) (va_Pc [.int i, .int len, fv] (rx_G G k h n)) (va_Qi (fun r u => i = r ∧ u = (h, n)) (rx_B G k) (rx_A k)) 0 0 (rx_A k) := by
  refine rx_start [(0, .int i), (1, .int len), (2, fv)] (by rcases hfv with rfl | ⟨t, rfl⟩ <;> rfl) (by rcases hfv with rfl | ⟨t, rfl⟩ <;> exact Nat.le_of_ble_eq_true rfl) (by decide +kernel) rfl (fun P9 E9 S9 M9 A9 B9 me9 c9 C hname => ?_)
  refine rx_iload_n C dJ3_checkIndex_8e157_0 0 rfl ?_
  refine rx_if_lt C dJ3_checkIndex_8e157_1 9 (by decide) (fun c1 => absurd c1 h0) (fun c1 => ?_)
  refine rx_iload_n C dJ3_checkIndex_8e157_4 0 rfl ?_
  refine rx_iload_n C dJ3_checkIndex_8e157_5 1 rfl ?_
  refine rx_icmp_lt C dJ3_checkIndex_8e157_6 16 (by decide) (fun c2 => ?_) (fun c2 => absurd h1 c2)
  refine rx_iload_n C dJ3_checkIndex_8e157_16 0 rfl ?_
  exact rx_iret C dJ3_checkIndex_8e157_17 (Nat.le_refl _) (Nat.le_refl _) ⟨rfl, rfl⟩
theorem w_checkIndex {i len : Int32} (h0 : ¬ i < 0) (h1 : i < len) : Met l yJ0_checkIndex_df160 (rx_ws yJ0_checkIndex_df160 cJ0_checkIndex_df160 2 none) (rx_rm 1 22) (va_Pc [.int i, .int len] (rx_G G k h n)) (va_Qv (fun u => u = (h, n)) (rx_B G k) (rx_A k)) 0 0 (rx_A k) := by
  refine rx_start [(0, .int i), (1, .int len)] rfl (Nat.le_of_ble_eq_true rfl) (by decide +kernel) rfl (fun P9 E9 S9 M9 A9 B9 me9 c9 C hname => ?_)
  refine rx_iload_n C dJ0_checkIndex_df160_0 0 rfl ?_
  refine rx_iload_n C dJ0_checkIndex_df160_1 1 rfl ?_
  have hq := C.2.2.2.2.2.2.2.2.2.2.2.2.2.2.2.2.1
  obtain ⟨fv, hfv, hZ⟩ : ∃ fv : Value, (fv = .null ∨ ∃ t, fv = .ref t) ∧ va_Z RJ3 "SIOOBE_FORMATTER" "Ljava/util/function/BiFunction;" fv (fun q => k 0 ≤ q) S9 S9.heap := by
    rcases hq with hq | ⟨t, hq⟩
    · exact ⟨_, Or.inl rfl, hq⟩
    · exact ⟨_, Or.inr ⟨t, rfl⟩, hq⟩
  have hcat : fv.category = 1 := by rcases hfv with rfl | ⟨t, rfl⟩ <;> rfl
  refine rx_gets C hZ sf_J0_1053 dJ0_checkIndex_df160_2 ?_
  refine rx_ci (rx_rS C (w_chk hfv h0 h1) Y_J3_checkIndex_8e157 S_J3_checkIndex_8e157 m_J0_1059 ⟨⟨rfl, rfl⟩, ⟨Nat.le_of_ble_eq_true rfl, Nat.le_of_ble_eq_true rfl⟩, ⟨Nat.le_of_ble_eq_true rfl, Nat.le_of_ble_eq_true rfl⟩⟩ rfl rfl (Nat.le_of_ble_eq_true rfl) dJ0_checkIndex_df160_5) (fun r hh n1 hp => ?_)
  obtain ⟨rfl, hu⟩ := hp
  cases hu
  refine rx_pop C dJ0_checkIndex_df160_8 rfl ?_
  exact rx_vret C dJ0_checkIndex_df160_9 (Nat.le_refl _) (Nat.le_refl _) rfl
theorem rx_b255 {t : Nat} (ht : t < 14) {j : Nat} (hj : j < rx_len.getD t 0) : (rx_byt.getD t []).getD j 0 &&& 255 = (rx_byt.getD t []).getD j 0 := by
  have h1 : ∀ t, t < 14 → ∀ j, j < rx_len.getD t 0 → (rx_byt.getD t []).getD j 0 &&& 255 = (rx_byt.getD t []).getD j 0 := by decide +kernel
  exact h1 t ht j hj
theorem rx_len31 {t : Nat} : rx_len.getD t 0 < 2 ^ 31 := by
  by_cases ht : t < 14
  · have h1 : ∀ t, t < 14 → rx_len.getD t 0 < 2 ^ 31 := by decide +kernel
    exact h1 t ht
  · rw [List.getD_eq_getElem?_getD, List.getElem?_eq_none (by show 14 ≤ t; omega)]
    exact (by decide : (0 : Nat) < 2 ^ 31)
theorem w_latCharAt {t : Nat} {i v : Int32} (ht : t < 14) (hv : rx_chr t i = some v) : Met l yJ1_charAt_3b067 (rx_ws yJ1_charAt_3b067 cJ1_charAt_3b067 2 (some .char)) (rx_rm 2 43) (va_Pc [.ref (k (200 + t)), .int i] (rx_G G k h n)) (va_Qi (fun r u => v = r ∧ u = (h, n)) (rx_B G k) (rx_A k)) 0 0 (rx_A k) := by
  unfold rx_chr at hv
  split at hv
  rotate_left
  · cases hv
  rename_i hi
  cases hv
  have hc : i.toInt = (i.toNatClampNeg : Int) := by
    have h1 : i.toNatClampNeg = i.toInt.toNat := rfl
    have h2 := Int32.le_iff_toInt_le.mp hi.1
    have h3 : (0 : Int32).toInt = 0 := rfl
    omega
  have h0 : ¬ i < 0 := by rw [Int32.not_lt]; exact hi.1
  have h1 : i < nI (rx_len.getD t 0) := by
    rw [Int32.lt_iff_toInt_lt, nI_toInt rx_len31, hc]
    omega
  refine rx_start [(0, .ref (k (200 + t))), (1, .int i)] rfl (Nat.le_of_ble_eq_true rfl) (by decide +kernel) rfl (fun P9 E9 S9 M9 A9 B9 me9 c9 C hname => ?_)
  have hT := (C.2.2.2.2.2.2.2.2.2.2.2.2.2.2.1.1 t ht).2.2.2
  refine rx_iload_n C dJ1_charAt_3b067_0 1 rfl ?_
  refine rx_aload_n C dJ1_charAt_3b067_1 0 rfl ?_
  refine rx_tlen C hT dJ1_charAt_3b067_2 ?_
  refine rx_cv (rx_rS C (w_checkIndex h0 h1) Y_J0_checkIndex_df160 S_J0_checkIndex_df160 m_J1_9 ⟨⟨rfl, rfl⟩, ⟨Nat.le_of_ble_eq_true rfl, Nat.le_of_ble_eq_true rfl⟩, ⟨Nat.le_of_ble_eq_true rfl, Nat.le_of_ble_eq_true rfl⟩⟩ rfl rfl (Nat.le_of_ble_eq_true rfl) dJ1_charAt_3b067_3) (fun hh n1 hp => ?_)
  cases hp
  refine rx_aload_n C dJ1_charAt_3b067_6 0 rfl ?_
  refine rx_iload_n C dJ1_charAt_3b067_7 1 rfl ?_
  refine rx_tb C hT dJ1_charAt_3b067_8 (rx_vin hi) rfl ?_
  refine rx_sipush C dJ1_charAt_3b067_9 255 (by decide) ?_
  refine rx_iand C dJ1_charAt_3b067_12 ?_
  refine rx_i2c C dJ1_charAt_3b067_13 (sc_c2 _) ?_
  rw [rx_b255 ht hi.2]
  exact rx_zret C (by have := sc_nar ((rx_byt.getD t []).getD i.toNatClampNeg 0); rw [rx_b255 ht hi.2] at this; exact this) dJ1_charAt_3b067_14 (Nat.le_refl _) (Nat.le_refl _) ⟨rfl, rfl⟩
theorem w_isLatin1 {t : Nat} (ht : t < 14) : Met l yJ0_isLatin1_aae02 (rx_ws yJ0_isLatin1_aae02 cJ0_isLatin1_aae02 1 (some .boolean)) (rx_rm 0 0) (va_Pc [.ref (k (100 + t))] (rx_G G k h n)) (va_Qi (fun r u => 1 = r ∧ u = (h, n)) (rx_B G k) (rx_A k)) 0 0 (rx_A k) := by
  refine rx_start [(0, .ref (k (100 + t)))] rfl (Nat.le_of_ble_eq_true rfl) (by decide +kernel) rfl (fun P9 E9 S9 M9 A9 B9 me9 c9 C hname => ?_)
  refine rx_gets C C.2.2.2.2.2.2.2.2.2.2.2.2.2.2.2.1 sf_J0_38 dJ0_isLatin1_aae02_0 ?_
  refine rx_if_eq C dJ0_isLatin1_aae02_3 17 (by decide) (fun c1 => absurd c1 (by decide)) (fun c1 => ?_)
  refine rx_aload_n C dJ0_isLatin1_aae02_6 0 rfl ?_
  refine rx_getO C (C.2.2.2.2.2.2.2.2.2.2.2.2.2.2.1.1 t ht).2.1 sf_J0_15 dJ0_isLatin1_aae02_7 ?_
  refine rx_if_ne C dJ0_isLatin1_aae02_10 17 (by decide) (fun c2 => absurd rfl c2) (fun c2 => ?_)
  refine rx_iconst C dJ0_isLatin1_aae02_13 1 (by decide) ?_
  refine rx_goto C dJ0_isLatin1_aae02_14 18 (by decide) ?_
  exact rx_zret C rfl dJ0_isLatin1_aae02_18 (Nat.le_refl _) (Nat.le_refl _) ⟨rfl, rfl⟩
theorem w_coder {t : Nat} (ht : t < 14) : Met l yJ0_coder_7d493 (rx_ws yJ0_coder_7d493 cJ0_coder_7d493 1 (some .byte)) (rx_rm 0 0) (va_Pc [.ref (k (100 + t))] (rx_G G k h n)) (va_Qi (fun r u => 0 = r ∧ u = (h, n)) (rx_B G k) (rx_A k)) 0 0 (rx_A k) := by
  refine rx_start [(0, .ref (k (100 + t)))] rfl (Nat.le_of_ble_eq_true rfl) (by decide +kernel) rfl (fun P9 E9 S9 M9 A9 B9 me9 c9 C hname => ?_)
  refine rx_gets C C.2.2.2.2.2.2.2.2.2.2.2.2.2.2.2.1 sf_J0_38 dJ0_coder_7d493_0 ?_
  refine rx_if_eq C dJ0_coder_7d493_3 13 (by decide) (fun c1 => absurd c1 (by decide)) (fun c1 => ?_)
  refine rx_aload_n C dJ0_coder_7d493_6 0 rfl ?_
  refine rx_getO C (C.2.2.2.2.2.2.2.2.2.2.2.2.2.2.1.1 t ht).2.1 sf_J0_15 dJ0_coder_7d493_7 ?_
  refine rx_goto C dJ0_coder_7d493_10 14 (by decide) ?_
  exact rx_zret C rfl dJ0_coder_7d493_14 (Nat.le_refl _) (Nat.le_refl _) ⟨rfl, rfl⟩
theorem w_length {t : Nat} (ht : t < 14) : Met l yJ0_length_8abf5 (rx_ws yJ0_length_8abf5 cJ0_length_8abf5 1 (some .int)) (rx_rm 1 20) (va_Pc [.ref (k (100 + t))] (rx_G G k h n)) (va_Qi (fun r u => nI (rx_len.getD t 0) = r ∧ u = (h, n)) (rx_B G k) (rx_A k)) 0 0 (rx_A k) := by
  refine rx_start [(0, .ref (k (100 + t)))] rfl (Nat.le_of_ble_eq_true rfl) (by decide +kernel) rfl (fun P9 E9 S9 M9 A9 B9 me9 c9 C hname => ?_)
  have hS9 := C.2.2.2.2.2.2.2.2.2.2.2.2.2.2.1.1 t ht
  refine rx_aload_n C dJ0_length_8abf5_0 0 rfl ?_
  refine rx_getO C hS9.2.2.1 sf_J0_9 dJ0_length_8abf5_1 ?_
  refine rx_tlen C hS9.2.2.2 dJ0_length_8abf5_4 ?_
  refine rx_aload_n C dJ0_length_8abf5_5 0 rfl ?_
  refine rx_ci (rx_rV C (w_coder ht) Y_J0_coder_7d493 V_J0_coder_7d493 m_J0_335 (Or.inr hS9.1) ⟨⟨rfl, rfl⟩, ⟨Nat.le_of_ble_eq_true rfl, Nat.le_of_ble_eq_true rfl⟩, ⟨Nat.le_of_ble_eq_true rfl, Nat.le_of_ble_eq_true rfl⟩⟩ rfl rfl (Nat.le_of_ble_eq_true rfl) dJ0_length_8abf5_6) (fun r hh n1 hp => ?_)
  obtain ⟨rfl, hu⟩ := hp
  cases hu
  refine rx_ishr C dJ0_length_8abf5_9 ?_
  rw [sb_shr0]
  exact rx_iret C dJ0_length_8abf5_10 (Nat.le_refl _) (Nat.le_refl _) ⟨rfl, rfl⟩
theorem w_charAt {t : Nat} {i v : Int32} (ht : t < 14) (hv : rx_chr t i = some v) (hb : v = v &&& 255) : Met l yJ0_charAt_5068e (rx_ws yJ0_charAt_5068e cJ0_charAt_5068e 2 (some .char)) (rx_rm 3 64) (va_Pc [.ref (k (100 + t)), .int i] (rx_G G k h n)) (va_Qi (fun r u => v = r ∧ u = (h, n)) (rx_B G k) (rx_A k)) 0 0 (rx_A k) := by
  refine rx_start [(0, .ref (k (100 + t))), (1, .int i)] rfl (Nat.le_of_ble_eq_true rfl) (by decide +kernel) rfl (fun P9 E9 S9 M9 A9 B9 me9 c9 C hname => ?_)
  have hS9 := C.2.2.2.2.2.2.2.2.2.2.2.2.2.2.1.1 t ht
  refine rx_aload_n C dJ0_charAt_5068e_0 0 rfl ?_
  refine rx_ci (rx_rV C (w_isLatin1 ht) Y_J0_isLatin1_aae02 V_J0_isLatin1_aae02 m_J0_492 (Or.inr hS9.1) ⟨⟨rfl, rfl⟩, ⟨Nat.le_of_ble_eq_true rfl, Nat.le_of_ble_eq_true rfl⟩, ⟨Nat.le_of_ble_eq_true rfl, Nat.le_of_ble_eq_true rfl⟩⟩ rfl rfl (Nat.le_of_ble_eq_true rfl) dJ0_charAt_5068e_1) (fun r hh n1 hp => ?_)
  obtain ⟨rfl, hu⟩ := hp
  cases hu
  refine rx_if_eq C dJ0_charAt_5068e_4 16 (by decide) (fun c1 => absurd c1 (by decide)) (fun c1 => ?_)
  refine rx_aload_n C dJ0_charAt_5068e_7 0 rfl ?_
  refine rx_getO C hS9.2.2.1 sf_J0_9 dJ0_charAt_5068e_8 ?_
  refine rx_iload_n C dJ0_charAt_5068e_11 1 rfl ?_
  refine rx_ci (rx_rS C (w_latCharAt ht hv) Y_J1_charAt_3b067 S_J1_charAt_3b067 m_J0_495 ⟨⟨rfl, rfl⟩, ⟨Nat.le_of_ble_eq_true rfl, Nat.le_of_ble_eq_true rfl⟩, ⟨Nat.le_of_ble_eq_true rfl, Nat.le_of_ble_eq_true rfl⟩⟩ rfl rfl (Nat.le_of_ble_eq_true rfl) dJ0_charAt_5068e_12) (fun r hh n1 hp => ?_)
  obtain ⟨rfl, hu⟩ := hp
  cases hu
  exact rx_zret C (by rw [hb]; exact sc_nar v) dJ0_charAt_5068e_15 (Nat.le_refl _) (Nat.le_refl _) ⟨rfl, rfl⟩
theorem rx_chr255 {t : Nat} {i v : Int32} (ht : t < 14) (hv : rx_chr t i = some v) : v = v &&& 255 := by
  unfold rx_chr at hv
  split at hv
  · rename_i hi
    cases hv
    exact (rx_b255 ht hi.2).symm
  · cases hv
theorem rx_ldcSw (C : rx_C G k p m c cc own nL ret s args meth) {tx : String} {index t : Nat} (hm : (own, index, tx, t) ∈ rx_sr) (hdg : decode cc pc = .ok (.ldc_w index, 3))
    (K : rx_W p l e R s m args below meth c Q G k nL cells slots h n (pc + 3) L (.ref (k (100 + t)) :: st)) : rx_W p l e R s m args below meth c Q G k nL cells slots h n pc L st := fun H locs ls hP hS hl => by
  intro T hT X
  obtain ⟨t1, a1, b1⟩ := K H locs ls hP hS hl T hT X
  have hZ := C.2.2.2.2.2.2.2.2.1 _ hm
  exact ⟨t1, X.ldcStringW C.1 C.2.2.1 (text := tx) (a := k (100 + t)) hZ.1 hZ.2 (g := F0 m pc ls st) rfl (by rw [C.2.1]; exact hdg) t1 a1, b1⟩
theorem rx_xldF (C : rx_C G k p m c cc own nL ret s args meth) {i x : Int32} (hdg : decode cc pc = .ok (.iaload, 1)) (hx : rx_xld k i = some x)
    (K : rx_W p l e R s m args below meth c Q G k nL cells slots h n (pc + 1) L (.int x :: st)) : rx_W p l e R s m args below meth c Q G k nL cells slots h n pc L (.int i :: .ref (k 7) :: st) := by
  unfold rx_xld at hx
  split at hx
  · rename_i hi
    exact rx_ti C (C.2.2.2.2.2.2.2.2.2.1 0 (by decide)).2.2.2.1 hdg (rx_vin hi) (congrArg Value.int (Option.some.inj hx)) K
  · cases hx
end RXS
