/-! The whole try, class and model. -/
section TRY
variable {P B J : Nat} {os op op2 o o2 oB : ob} {g g2 : Nat → Int32} {q q2 : List Nat} {e f : Int32}
theorem RT.leave (h : RT P B J e f os op o o2 g q q2) (hef : e ≠ f) {i : Nat} (hi : i < q.length) : ∃ o3 : ob, F_X3_removeAt o (nI i) = some o3 ∧ RT P B J e f os op o3 o2 (upd g (12 + 8 * q[i] + 6) 0) (q.eraseIdx i) q2 := by
  obtain ⟨hok, hrs, hrp, hrk, hw, he⟩ := h
  have hP := hok.1.1
  have hat := hw.1.at hi
  have hbk := hw.1.bank hi
  have k : ∀ j : Nat, j ≠ 12 + 8 * q[i] + 6 → upd g (12 + 8 * q[i] + 6) 0 j = g j := fun j h1 => by rw [z_un h1]
  have k0 : upd g (12 + 8 * q[i] + 6) 0 (12 + 8 * q[i] + 6) = 0 := by rw [z_us]
  have hk2 : ∀ c : Nat, c < P → c ≠ q[i] → upd g (12 + 8 * q[i] + 6) 0 (12 + 8 * c + 1) = g (12 + 8 * c + 1) ∧ upd g (12 + 8 * q[i] + 6) 0 (12 + 8 * c + 6) = g (12 + 8 * c + 6) ∧ upd g (12 + 8 * q[i] + 6) 0 (12 + 8 * c + 7) = g (12 + 8 * c + 7) := fun c hc hne => ⟨k _ (by omega), k _ (by omega), k _ (by omega)⟩
  obtain ⟨o3, r1, r2⟩ := hw.remove hP.2 hi k0 hk2
  exact ⟨o3, r1, hok.out hat.1 k k0, hrs.f hP.2 (fun j hj => k j (by omega)), hrp.f hP.2 (fun j hj => k j (by omega)), hrk.f hP.2 ⟨rfl, rfl, rfl⟩ (fun j hj => k j (by omega)), r2, he.other (z_notin he hbk.1 (Ne.symm hef)) (z_lof0 k0) hk2⟩
def z_gB (g : Nat → Int32) (p : Nat) (v f : Int32) : Nat → Int32 := upd (upd (upd (upd g (12 + 8 * p + 2) (g (12 + 8 * p + 2) - v)) 5 (g 5 + v)) (12 + 8 * p + 1) f) (12 + 8 * p + 5) (g (12 + 8 * p + 5) + 1)
def z_oB (op : ob) (p : Nat) (v f : Int32) : ob := (upd op.1 3 (op.1 3 + v), va_up (va_up (va_up op.2 6 (upd (op.2 6) p (op.2 6 p + -v))) 5 (upd (op.2 5) p f)) 9 (upd (op.2 9) p (op.2 9 p + 1)))
def z_oC (op : ob) (p P : Nat) : ob := (op.1, va_up op.2 12 (z_cc (op.2 10) (op.2 12) p P))
def z_gL (g : Nat → Int32) (w : Option Int32) : Nat → Int32 := match w with | none => g | some v => upd g 1 v
theorem C_dep2 {t : Nat} (ht : t ≤ 10000) (h : op.1 1 = nI t) : F_X2_departureBank op = some (nI (t % 2)) := by
  simp only [F_X2_departureBank, h, z_mod2 t (by omega)]
  rcases Nat.mod_two_eq_zero_or_one t with r | r
  · rw [r]; rfl
  · rw [r]; rfl
theorem z_leN {α β : Type} (a : α) (f : α → Option β) : rx_le a f = f a := id rfl
theorem z_bsN {α β : Type} (a : α) (f : α → Option β) : (some a).bind f = f a := id rfl
theorem z_ofv {a b : Int32} : a - 1 + b = b + a - 1 := by grind
theorem C_try {t : Nat} (h : RT P B J e f os op o o2 g q q2) (hef : (e = 0 ∧ f = 1) ∨ (e = 1 ∧ f = 0)) (ht : t ≤ 10000) (e0 : g 0 = nI t) (et : e = nI (t % 2)) (hq : 0 < q.length) {o3 : ob} (h3 : F_X3_removeAt o (nI 0) = some o3) : F_X2_letFirstTry_w op o os = if z_tl g q[0] (z_rk g q[0]) + g (12 + 8 * q[0] + 6) - (1 : Int32) ≤ g (12 + 8 * q[0] + 2) then some ((1 : Int32), z_oL (z_oC (z_oB op q[0] (z_tl g q[0] (z_rk g q[0]) + g (12 + 8 * q[0] + 6) - (1 : Int32)) f) q[0] P) (z_ln g q[0] (z_kb g q[0] (z_rk g q[0]) < g 1)), o3) else some ((0 : Int32), op, o3) := by
  obtain ⟨ow, oe, qw, qe, hr⟩ := h.any hef
  obtain ⟨hok, hrs, hrp, hrk, hw, he⟩ := h
  have hP := hok.1.1
  have hat := hw.1.at hq
  have hp := hat.1
  have e1 : F_X3_personAt o 0 = some (nI q[0]) := C_person hP.2 hw hq
  have e2 : F_X3_offerAt o 0 = some (g (12 + 8 * q[0] + 6) - (1 : Int32)) := C_offer hP.2 hw hq
  have e3 : F_X3_removeAt o 0 = some o3 := by rw [show (0 : Int32) = nI 0 from rfl]; exact h3
  obtain ⟨r, hr1, er, e5, e6⟩ := C_wo hr hp
  have e4 : F_X2_keeperAngleIn op os (nI q[0]) (nI r) = some (z_kb g q[0] (z_rk g q[0])) := by rw [e6]; exact C_kb hr hp hr1
  have hd : ∀ (w : Int32) (X : Nat → Nat → Int32), F_X2_departureBank (upd op.1 3 w, X) = some e := by
    intro w X
    rw [et]
    refine C_dep2 ht ?_
    dsimp only
    rw [z_un (by omega), hrp.1.1, e0]
  have hpu : rx_at 10 (op.2 6) (nI q[0]) = op.2 6 q[0] := z_at (by omega) (by omega)
  have hpg : op.2 6 q[0] = g (12 + 8 * q[0] + 2) := hrp.2.2.1 _ hp
  have hl : ∀ (v : Int32), (z_oC (z_oB op q[0] v f) q[0] P).1 2 = g 1 := by
    intro v
    simp only [z_oC, z_oB]
    rw [z_un (by omega)]
    exact hrp.1.2.1
  have hB : ∀ v : Int32, (upd op.1 3 (op.1 3 + v), va_up (va_up (va_up op.2 6 (upd (op.2 6) q[0] (op.2 6 q[0] + -v))) 5 (upd (op.2 5) q[0] f)) 9 (upd (op.2 9) q[0] (op.2 9 q[0] + 1))) = z_oB op q[0] v f := fun _ => rfl
  have hC : ∀ op : ob, (op.1, va_up op.2 12 (z_cc (op.2 10) (op.2 12) q[0] P)) = z_oC op q[0] P := fun _ => rfl
  have hs : os.1 1 = g 2 := hrs.1.1
  have hgl := hok.2.2.1
  have key : ∀ (tk : Int32) (T : Prop) [Decidable T] (tl : Int32), tk = (if T then 1 else 0) → ∀ v : Int32, v = tl + g (12 + 8 * q[0] + 6) - (1 : Int32) →
      (if v ≤ g (12 + 8 * q[0] + 2) then (F_X2_learn (z_oC (z_oB op q[0] v f) q[0] P) os tk (if g (12 + 8 * q[0]) = 1 then 1 else 0)).bind fun y => some ((1 : Int32), y, o3) else some ((0 : Int32), op, o3)) = if v ≤ g (12 + 8 * q[0] + 2) then some ((1 : Int32), z_oL (z_oC (z_oB op q[0] v f) q[0] P) (z_ln g q[0] T), o3) else some ((0 : Int32), op, o3) := by
    intro tk T _ tl htk v _
    rw [htk, C_learn (s2 := 0) (hl v) hs hgl, Option.bind_some]
  have hcv : ∀ tl : Int32, g (12 + 8 * q[0] + 6) - (1 : Int32) + tl = tl + g (12 + 8 * q[0] + 6) - (1 : Int32) := fun tl => z_ofv
  have h10 : ¬ ((1 : Int32) = 0) := by decide
  have hct : ∀ a : ob, F_X2_countRoyalCoinsOf a os (nI q[0]) = some (z_oC a q[0] P) := fun a => C_cnt hr.s4 hP.2
  unfold F_X2_letFirstTry_w
  clear h3
  generalize F_X2_countRoyalCoinsOf = fc at hct ⊢
  generalize F_X3_removeAt = fr at e3 ⊢
  by_cases T : z_kb g q[0] (z_rk g q[0]) < g 1
  · have hT : ¬ g 1 ≤ z_kb g q[0] (z_rk g q[0]) := Int32.not_le.mpr T
    have k1 := key 1 (z_kb g q[0] (z_rk g q[0]) < g 1) (g 3) (by rw [if_pos T]) _ rfl
    rw [z_tl, if_pos T, ← k1]
    clear k1 key
    rcases hef with ⟨rfl, rfl⟩ | ⟨rfl, rfl⟩
    · simp (disch := omega) only [h10, z_leN, e1, e2, e3, e5, e4, C_tf1 hr, C_hk hr hp, hct, z_bsN, hr.lim, hT, hd, if_true, if_false, hpu, hcv, z_put, z_at, z_vs, z_vn, z_oC, z_oB, hpg]
    · simp (disch := omega) only [h10, z_leN, e1, e2, e3, e5, e4, C_tf1 hr, C_hk hr hp, hct, z_bsN, hr.lim, hT, hd, if_true, if_false, hpu, hcv, z_put, z_at, z_vs, z_vn, z_oC, z_oB, hpg]
  · have hT : g 1 ≤ z_kb g q[0] (z_rk g q[0]) := Int32.not_lt.mp T
    have k1 := key 0 (z_kb g q[0] (z_rk g q[0]) < g 1) (g 4) (by rw [if_neg T]) _ rfl
    rw [z_tl, if_neg T, ← k1]
    clear k1 key
    rcases hef with ⟨rfl, rfl⟩ | ⟨rfl, rfl⟩
    · simp (disch := omega) only [h10, z_leN, e1, e2, e3, e5, e4, C_tf0 hr, C_hk hr hp, hct, z_bsN, hr.lim, hT, hd, if_true, if_false, hpu, hcv, z_put, z_at, z_vs, z_vn, z_oC, z_oB, hpg]
    · simp (disch := omega) only [h10, z_leN, e1, e2, e3, e5, e4, C_tf0 hr, C_hk hr hp, hct, z_bsN, hr.lim, hT, hd, if_true, if_false, hpu, hcv, z_put, z_at, z_vs, z_vn, z_oC, z_oB, hpg]
end TRY
