theorem rx_fz {v : Int32} (h : v = 0 ∨ v = 1) : fits .boolean (.int v) = true := by rcases h with rfl | rfl <;> rfl
section RXP
variable {p : Program} {l : Launch} {e : Env} {R : Room} {s : State} {m : MethodId} {args : Array Value} {below : List Frame} {meth : Method} {c : Code} {Q : State → Prop} {G : va_G} {k : Nat → Nat} {cc : ByteArray} {own : String} {nL : Nat} {ret : Option FieldType} {cells slots : Nat} {h : hp} {n pc : Nat} {L : List (Nat × Value)} {st : List Value}
theorem rx_pQ2 (C : rx_C G k p m c cc own nL ret s args meth) {index q : Nat} {o o1 : ob} {v : Int32} (hF : rx_F own index 2 2) (hdg : decode cc pc = .ok (.putfield index, 3)) (hb : bQ k q o h) (ho : (upd o.1 2 v, o.2) = o1) (K : ∀ h1, bQ k q o1 h1 → rx_fr [(q, 3)] h h1 → rx_W p l e R s m args below meth c Q G k nL cells slots h1 n (pc + 3) L st) : rx_W p l e R s m args below meth c Q G k nL cells slots h n pc L (.int v :: .ref q :: st) := by
  subst ho
  exact rx_putf C hF t_X3_2 hdg hb.1 (Nat.le_of_ble_eq_true rfl) rfl rfl (K _ hb.put2 (rx_fr1 (Nat.le_refl _) (by omega)))
theorem rx_pQ2N (C : rx_C G k p m c cc own nL ret s args meth) {index q : Nat} {o o1 : ob} {v : Int32} (hF : rx_FN own index 2 2) (hdg : decode cc pc = .ok (.putfield index, 3)) (hb : bQ k q o h) (ho : (upd o.1 2 v, o.2) = o1) (K : ∀ h1, bQ k q o1 h1 → rx_fr [(q, 3)] h h1 → rx_W p l e R s m args below meth c Q G k nL cells slots h1 n (pc + 3) L st) : rx_W p l e R s m args below meth c Q G k nL cells slots h n pc L (.int v :: .ref q :: st) := by
  subst ho
  exact rx_putfN C hF t_X3_2 hdg hb.1 (Nat.le_of_ble_eq_true rfl) rfl rfl (K _ hb.put2 (rx_fr1 (Nat.le_refl _) (by omega)))
theorem bQ.wr0 {k : Nat → Nat} {q n9 n1 : Nat} {o o1 : ob} {h h1 : hp} {f : Nat → Int32} (hb : bQ k q o h) (ho : (o.1, va_up o.2 0 f) = o1) (hu : (h1, n1) = (va_up h (q + 1) (some (rx_ia k 10 f)), n9)) : bQ k q o1 h1 ∧ rx_fr [(q, 3)] h h1 ∧ n1 = n9 := by
  cases hu
  subst ho
  exact ⟨hb.ast0, rx_fr1 (by omega) (by omega), rfl⟩
theorem rx_aQ0 (C : rx_C G k p m c cc own nL ret s args meth) {q : Nat} {o o1 : ob} {f : Nat → Int32} {i v : Int32} (hdg : decode cc pc = .ok (.iastore, 1)) (hb : bQ k q o h) (hx : rx_ast 10 (o.2 0) i v = some f) (ho : (o.1, va_up o.2 0 f) = o1) (K : ∀ h1, bQ k q o1 h1 → rx_fr [(q, 3)] h h1 → rx_W p l e R s m args below meth c Q G k nL cells slots h1 n (pc + 1) L st) : rx_W p l e R s m args below meth c Q G k nL cells slots h n pc L (.int v :: .int i :: .ref (q + 1) :: st) := by
  obtain ⟨hin, rfl⟩ := rx_astE hx
  subst ho
  exact rx_iast C hdg hb.2.1 hin (K _ hb.ast0 (rx_fr1 (by omega) (by omega)))
theorem bQ.wr1 {k : Nat → Nat} {q n9 n1 : Nat} {o o1 : ob} {h h1 : hp} {f : Nat → Int32} (hb : bQ k q o h) (ho : (o.1, va_up o.2 1 f) = o1) (hu : (h1, n1) = (va_up h (q + 2) (some (rx_ia k 10 f)), n9)) : bQ k q o1 h1 ∧ rx_fr [(q, 3)] h h1 ∧ n1 = n9 := by
  cases hu
  subst ho
  exact ⟨hb.ast1, rx_fr1 (by omega) (by omega), rfl⟩
theorem rx_aQ1 (C : rx_C G k p m c cc own nL ret s args meth) {q : Nat} {o o1 : ob} {f : Nat → Int32} {i v : Int32} (hdg : decode cc pc = .ok (.iastore, 1)) (hb : bQ k q o h) (hx : rx_ast 10 (o.2 1) i v = some f) (ho : (o.1, va_up o.2 1 f) = o1) (K : ∀ h1, bQ k q o1 h1 → rx_fr [(q, 3)] h h1 → rx_W p l e R s m args below meth c Q G k nL cells slots h1 n (pc + 1) L st) : rx_W p l e R s m args below meth c Q G k nL cells slots h n pc L (.int v :: .int i :: .ref (q + 2) :: st) := by
  obtain ⟨hin, rfl⟩ := rx_astE hx
  subst ho
  exact rx_iast C hdg hb.2.2 hin (K _ hb.ast1 (rx_fr1 (by omega) (by omega)))
theorem rx_pS0 (C : rx_C G k p m c cc own nL ret s args meth) {index q : Nat} {o o1 : ob} {v : Int32} (hF : rx_F own index 4 0) (hdg : decode cc pc = .ok (.putfield index, 3)) (hb : bS k q o h) (ho : (upd o.1 0 v, o.2) = o1) (K : ∀ h1, bS k q o1 h1 → rx_fr [(q, 9)] h h1 → rx_W p l e R s m args below meth c Q G k nL cells slots h1 n (pc + 3) L st) : rx_W p l e R s m args below meth c Q G k nL cells slots h n pc L (.int v :: .ref q :: st) := by
  subst ho
  exact rx_putf C hF t_X5_0 hdg hb.1 (Nat.le_of_ble_eq_true rfl) rfl rfl (K _ hb.put0 (rx_fr1 (Nat.le_refl _) (by omega)))
theorem rx_pS0N (C : rx_C G k p m c cc own nL ret s args meth) {index q : Nat} {o o1 : ob} {v : Int32} (hF : rx_FN own index 4 0) (hdg : decode cc pc = .ok (.putfield index, 3)) (hb : bS k q o h) (ho : (upd o.1 0 v, o.2) = o1) (K : ∀ h1, bS k q o1 h1 → rx_fr [(q, 9)] h h1 → rx_W p l e R s m args below meth c Q G k nL cells slots h1 n (pc + 3) L st) : rx_W p l e R s m args below meth c Q G k nL cells slots h n pc L (.int v :: .ref q :: st) := by
  subst ho
  exact rx_putfN C hF t_X5_0 hdg hb.1 (Nat.le_of_ble_eq_true rfl) rfl rfl (K _ hb.put0 (rx_fr1 (Nat.le_refl _) (by omega)))
theorem rx_pS1 (C : rx_C G k p m c cc own nL ret s args meth) {index q : Nat} {o o1 : ob} {v : Int32} (hF : rx_F own index 4 1) (hdg : decode cc pc = .ok (.putfield index, 3)) (hb : bS k q o h) (ho : (upd o.1 1 v, o.2) = o1) (K : ∀ h1, bS k q o1 h1 → rx_fr [(q, 9)] h h1 → rx_W p l e R s m args below meth c Q G k nL cells slots h1 n (pc + 3) L st) : rx_W p l e R s m args below meth c Q G k nL cells slots h n pc L (.int v :: .ref q :: st) := by
  subst ho
  exact rx_putf C hF t_X5_1 hdg hb.1 (Nat.le_of_ble_eq_true rfl) rfl rfl (K _ hb.put1 (rx_fr1 (Nat.le_refl _) (by omega)))
theorem rx_pS1N (C : rx_C G k p m c cc own nL ret s args meth) {index q : Nat} {o o1 : ob} {v : Int32} (hF : rx_FN own index 4 1) (hdg : decode cc pc = .ok (.putfield index, 3)) (hb : bS k q o h) (ho : (upd o.1 1 v, o.2) = o1) (K : ∀ h1, bS k q o1 h1 → rx_fr [(q, 9)] h h1 → rx_W p l e R s m args below meth c Q G k nL cells slots h1 n (pc + 3) L st) : rx_W p l e R s m args below meth c Q G k nL cells slots h n pc L (.int v :: .ref q :: st) := by
  subst ho
  exact rx_putfN C hF t_X5_1 hdg hb.1 (Nat.le_of_ble_eq_true rfl) rfl rfl (K _ hb.put1 (rx_fr1 (Nat.le_refl _) (by omega)))
theorem rx_pS2 (C : rx_C G k p m c cc own nL ret s args meth) {index q : Nat} {o o1 : ob} {v : Int32} (hF : rx_F own index 4 2) (hdg : decode cc pc = .ok (.putfield index, 3)) (hb : bS k q o h) (ho : (upd o.1 2 v, o.2) = o1) (K : ∀ h1, bS k q o1 h1 → rx_fr [(q, 9)] h h1 → rx_W p l e R s m args below meth c Q G k nL cells slots h1 n (pc + 3) L st) : rx_W p l e R s m args below meth c Q G k nL cells slots h n pc L (.int v :: .ref q :: st) := by
  subst ho
  exact rx_putf C hF t_X5_2 hdg hb.1 (Nat.le_of_ble_eq_true rfl) rfl rfl (K _ hb.put2 (rx_fr1 (Nat.le_refl _) (by omega)))
theorem rx_pS2N (C : rx_C G k p m c cc own nL ret s args meth) {index q : Nat} {o o1 : ob} {v : Int32} (hF : rx_FN own index 4 2) (hdg : decode cc pc = .ok (.putfield index, 3)) (hb : bS k q o h) (ho : (upd o.1 2 v, o.2) = o1) (K : ∀ h1, bS k q o1 h1 → rx_fr [(q, 9)] h h1 → rx_W p l e R s m args below meth c Q G k nL cells slots h1 n (pc + 3) L st) : rx_W p l e R s m args below meth c Q G k nL cells slots h n pc L (.int v :: .ref q :: st) := by
  subst ho
  exact rx_putfN C hF t_X5_2 hdg hb.1 (Nat.le_of_ble_eq_true rfl) rfl rfl (K _ hb.put2 (rx_fr1 (Nat.le_refl _) (by omega)))
theorem rx_pS3 (C : rx_C G k p m c cc own nL ret s args meth) {index q : Nat} {o o1 : ob} {v : Int32} (hF : rx_F own index 4 3) (hdg : decode cc pc = .ok (.putfield index, 3)) (hb : bS k q o h) (ho : (upd o.1 3 v, o.2) = o1) (K : ∀ h1, bS k q o1 h1 → rx_fr [(q, 9)] h h1 → rx_W p l e R s m args below meth c Q G k nL cells slots h1 n (pc + 3) L st) : rx_W p l e R s m args below meth c Q G k nL cells slots h n pc L (.int v :: .ref q :: st) := by
  subst ho
  exact rx_putf C hF t_X5_3 hdg hb.1 (Nat.le_of_ble_eq_true rfl) rfl rfl (K _ hb.put3 (rx_fr1 (Nat.le_refl _) (by omega)))
theorem rx_pS3N (C : rx_C G k p m c cc own nL ret s args meth) {index q : Nat} {o o1 : ob} {v : Int32} (hF : rx_FN own index 4 3) (hdg : decode cc pc = .ok (.putfield index, 3)) (hb : bS k q o h) (ho : (upd o.1 3 v, o.2) = o1) (K : ∀ h1, bS k q o1 h1 → rx_fr [(q, 9)] h h1 → rx_W p l e R s m args below meth c Q G k nL cells slots h1 n (pc + 3) L st) : rx_W p l e R s m args below meth c Q G k nL cells slots h n pc L (.int v :: .ref q :: st) := by
  subst ho
  exact rx_putfN C hF t_X5_3 hdg hb.1 (Nat.le_of_ble_eq_true rfl) rfl rfl (K _ hb.put3 (rx_fr1 (Nat.le_refl _) (by omega)))
theorem rx_pS4 (C : rx_C G k p m c cc own nL ret s args meth) {index q : Nat} {o o1 : ob} {v : Int32} (hF : rx_F own index 4 4) (hdg : decode cc pc = .ok (.putfield index, 3)) (hb : bS k q o h) (ho : (upd o.1 4 v, o.2) = o1) (K : ∀ h1, bS k q o1 h1 → rx_fr [(q, 9)] h h1 → rx_W p l e R s m args below meth c Q G k nL cells slots h1 n (pc + 3) L st) : rx_W p l e R s m args below meth c Q G k nL cells slots h n pc L (.int v :: .ref q :: st) := by
  subst ho
  exact rx_putf C hF t_X5_4 hdg hb.1 (Nat.le_of_ble_eq_true rfl) rfl rfl (K _ hb.put4 (rx_fr1 (Nat.le_refl _) (by omega)))
theorem rx_pS4N (C : rx_C G k p m c cc own nL ret s args meth) {index q : Nat} {o o1 : ob} {v : Int32} (hF : rx_FN own index 4 4) (hdg : decode cc pc = .ok (.putfield index, 3)) (hb : bS k q o h) (ho : (upd o.1 4 v, o.2) = o1) (K : ∀ h1, bS k q o1 h1 → rx_fr [(q, 9)] h h1 → rx_W p l e R s m args below meth c Q G k nL cells slots h1 n (pc + 3) L st) : rx_W p l e R s m args below meth c Q G k nL cells slots h n pc L (.int v :: .ref q :: st) := by
  subst ho
  exact rx_putfN C hF t_X5_4 hdg hb.1 (Nat.le_of_ble_eq_true rfl) rfl rfl (K _ hb.put4 (rx_fr1 (Nat.le_refl _) (by omega)))
theorem rx_pS5 (C : rx_C G k p m c cc own nL ret s args meth) {index q : Nat} {o o1 : ob} {v : Int32} (hF : rx_F own index 4 5) (hdg : decode cc pc = .ok (.putfield index, 3)) (hb : bS k q o h) (ho : (upd o.1 5 v, o.2) = o1) (K : ∀ h1, bS k q o1 h1 → rx_fr [(q, 9)] h h1 → rx_W p l e R s m args below meth c Q G k nL cells slots h1 n (pc + 3) L st) : rx_W p l e R s m args below meth c Q G k nL cells slots h n pc L (.int v :: .ref q :: st) := by
  subst ho
  exact rx_putf C hF t_X5_5 hdg hb.1 (Nat.le_of_ble_eq_true rfl) rfl rfl (K _ hb.put5 (rx_fr1 (Nat.le_refl _) (by omega)))
theorem rx_pS5N (C : rx_C G k p m c cc own nL ret s args meth) {index q : Nat} {o o1 : ob} {v : Int32} (hF : rx_FN own index 4 5) (hdg : decode cc pc = .ok (.putfield index, 3)) (hb : bS k q o h) (ho : (upd o.1 5 v, o.2) = o1) (K : ∀ h1, bS k q o1 h1 → rx_fr [(q, 9)] h h1 → rx_W p l e R s m args below meth c Q G k nL cells slots h1 n (pc + 3) L st) : rx_W p l e R s m args below meth c Q G k nL cells slots h n pc L (.int v :: .ref q :: st) := by
  subst ho
  exact rx_putfN C hF t_X5_5 hdg hb.1 (Nat.le_of_ble_eq_true rfl) rfl rfl (K _ hb.put5 (rx_fr1 (Nat.le_refl _) (by omega)))
theorem bS.wr6 {k : Nat → Nat} {q n9 n1 : Nat} {o o1 : ob} {h h1 : hp} {f : Nat → Int32} (hb : bS k q o h) (ho : (o.1, va_up o.2 6 f) = o1) (hu : (h1, n1) = (va_up h (q + 1) (some (rx_ia k 10 f)), n9)) : bS k q o1 h1 ∧ rx_fr [(q, 9)] h h1 ∧ n1 = n9 := by
  cases hu
  subst ho
  exact ⟨hb.ast6, rx_fr1 (by omega) (by omega), rfl⟩
theorem rx_aS6 (C : rx_C G k p m c cc own nL ret s args meth) {q : Nat} {o o1 : ob} {f : Nat → Int32} {i v : Int32} (hdg : decode cc pc = .ok (.iastore, 1)) (hb : bS k q o h) (hx : rx_ast 10 (o.2 6) i v = some f) (ho : (o.1, va_up o.2 6 f) = o1) (K : ∀ h1, bS k q o1 h1 → rx_fr [(q, 9)] h h1 → rx_W p l e R s m args below meth c Q G k nL cells slots h1 n (pc + 1) L st) : rx_W p l e R s m args below meth c Q G k nL cells slots h n pc L (.int v :: .int i :: .ref (q + 1) :: st) := by
  obtain ⟨hin, rfl⟩ := rx_astE hx
  subst ho
  exact rx_iast C hdg hb.2.1 hin (K _ hb.ast6 (rx_fr1 (by omega) (by omega)))
theorem bS.wr7 {k : Nat → Nat} {q n9 n1 : Nat} {o o1 : ob} {h h1 : hp} {f : Nat → Int32} (hb : bS k q o h) (ho : (o.1, va_up o.2 7 f) = o1) (hu : (h1, n1) = (va_up h (q + 2) (some (rx_ia k 10 f)), n9)) : bS k q o1 h1 ∧ rx_fr [(q, 9)] h h1 ∧ n1 = n9 := by
  cases hu
  subst ho
  exact ⟨hb.ast7, rx_fr1 (by omega) (by omega), rfl⟩
theorem rx_aS7 (C : rx_C G k p m c cc own nL ret s args meth) {q : Nat} {o o1 : ob} {f : Nat → Int32} {i v : Int32} (hdg : decode cc pc = .ok (.iastore, 1)) (hb : bS k q o h) (hx : rx_ast 10 (o.2 7) i v = some f) (ho : (o.1, va_up o.2 7 f) = o1) (K : ∀ h1, bS k q o1 h1 → rx_fr [(q, 9)] h h1 → rx_W p l e R s m args below meth c Q G k nL cells slots h1 n (pc + 1) L st) : rx_W p l e R s m args below meth c Q G k nL cells slots h n pc L (.int v :: .int i :: .ref (q + 2) :: st) := by
  obtain ⟨hin, rfl⟩ := rx_astE hx
  subst ho
  exact rx_iast C hdg hb.2.2.1 hin (K _ hb.ast7 (rx_fr1 (by omega) (by omega)))
theorem bS.wr8 {k : Nat → Nat} {q n9 n1 : Nat} {o o1 : ob} {h h1 : hp} {f : Nat → Int32} (hb : bS k q o h) (ho : (o.1, va_up o.2 8 f) = o1) (hu : (h1, n1) = (va_up h (q + 3) (some (rx_ia k 10 f)), n9)) : bS k q o1 h1 ∧ rx_fr [(q, 9)] h h1 ∧ n1 = n9 := by
  cases hu
  subst ho
  exact ⟨hb.ast8, rx_fr1 (by omega) (by omega), rfl⟩
theorem rx_aS8 (C : rx_C G k p m c cc own nL ret s args meth) {q : Nat} {o o1 : ob} {f : Nat → Int32} {i v : Int32} (hdg : decode cc pc = .ok (.iastore, 1)) (hb : bS k q o h) (hx : rx_ast 10 (o.2 8) i v = some f) (ho : (o.1, va_up o.2 8 f) = o1) (K : ∀ h1, bS k q o1 h1 → rx_fr [(q, 9)] h h1 → rx_W p l e R s m args below meth c Q G k nL cells slots h1 n (pc + 1) L st) : rx_W p l e R s m args below meth c Q G k nL cells slots h n pc L (.int v :: .int i :: .ref (q + 3) :: st) := by
  obtain ⟨hin, rfl⟩ := rx_astE hx
  subst ho
  exact rx_iast C hdg hb.2.2.2.1 hin (K _ hb.ast8 (rx_fr1 (by omega) (by omega)))
theorem bS.wr9 {k : Nat → Nat} {q n9 n1 : Nat} {o o1 : ob} {h h1 : hp} {f : Nat → Int32} (hb : bS k q o h) (ho : (o.1, va_up o.2 9 f) = o1) (hu : (h1, n1) = (va_up h (q + 4) (some (rx_ia k 10 f)), n9)) : bS k q o1 h1 ∧ rx_fr [(q, 9)] h h1 ∧ n1 = n9 := by
  cases hu
  subst ho
  exact ⟨hb.ast9, rx_fr1 (by omega) (by omega), rfl⟩
theorem rx_aS9 (C : rx_C G k p m c cc own nL ret s args meth) {q : Nat} {o o1 : ob} {f : Nat → Int32} {i v : Int32} (hdg : decode cc pc = .ok (.iastore, 1)) (hb : bS k q o h) (hx : rx_ast 10 (o.2 9) i v = some f) (ho : (o.1, va_up o.2 9 f) = o1) (K : ∀ h1, bS k q o1 h1 → rx_fr [(q, 9)] h h1 → rx_W p l e R s m args below meth c Q G k nL cells slots h1 n (pc + 1) L st) : rx_W p l e R s m args below meth c Q G k nL cells slots h n pc L (.int v :: .int i :: .ref (q + 4) :: st) := by
  obtain ⟨hin, rfl⟩ := rx_astE hx
  subst ho
  exact rx_iast C hdg hb.2.2.2.2.1 hin (K _ hb.ast9 (rx_fr1 (by omega) (by omega)))
theorem bS.wr10 {k : Nat → Nat} {q n9 n1 : Nat} {o o1 : ob} {h h1 : hp} {f : Nat → Int32} (hb : bS k q o h) (ho : (o.1, va_up o.2 10 f) = o1) (hu : (h1, n1) = (va_up h (q + 5) (some (rx_ia k 10 f)), n9)) : bS k q o1 h1 ∧ rx_fr [(q, 9)] h h1 ∧ n1 = n9 := by
  cases hu
  subst ho
  exact ⟨hb.ast10, rx_fr1 (by omega) (by omega), rfl⟩
theorem rx_aS10 (C : rx_C G k p m c cc own nL ret s args meth) {q : Nat} {o o1 : ob} {f : Nat → Int32} {i v : Int32} (hdg : decode cc pc = .ok (.iastore, 1)) (hb : bS k q o h) (hx : rx_ast 10 (o.2 10) i v = some f) (ho : (o.1, va_up o.2 10 f) = o1) (K : ∀ h1, bS k q o1 h1 → rx_fr [(q, 9)] h h1 → rx_W p l e R s m args below meth c Q G k nL cells slots h1 n (pc + 1) L st) : rx_W p l e R s m args below meth c Q G k nL cells slots h n pc L (.int v :: .int i :: .ref (q + 5) :: st) := by
  obtain ⟨hin, rfl⟩ := rx_astE hx
  subst ho
  exact rx_iast C hdg hb.2.2.2.2.2.1 hin (K _ hb.ast10 (rx_fr1 (by omega) (by omega)))
theorem bS.wr11 {k : Nat → Nat} {q n9 n1 : Nat} {o o1 : ob} {h h1 : hp} {f : Nat → Int32} (hb : bS k q o h) (ho : (o.1, va_up o.2 11 f) = o1) (hu : (h1, n1) = (va_up h (q + 6) (some (rx_ia k 4 f)), n9)) : bS k q o1 h1 ∧ rx_fr [(q, 9)] h h1 ∧ n1 = n9 := by
  cases hu
  subst ho
  exact ⟨hb.ast11, rx_fr1 (by omega) (by omega), rfl⟩
theorem rx_aS11 (C : rx_C G k p m c cc own nL ret s args meth) {q : Nat} {o o1 : ob} {f : Nat → Int32} {i v : Int32} (hdg : decode cc pc = .ok (.iastore, 1)) (hb : bS k q o h) (hx : rx_ast 4 (o.2 11) i v = some f) (ho : (o.1, va_up o.2 11 f) = o1) (K : ∀ h1, bS k q o1 h1 → rx_fr [(q, 9)] h h1 → rx_W p l e R s m args below meth c Q G k nL cells slots h1 n (pc + 1) L st) : rx_W p l e R s m args below meth c Q G k nL cells slots h n pc L (.int v :: .int i :: .ref (q + 6) :: st) := by
  obtain ⟨hin, rfl⟩ := rx_astE hx
  subst ho
  exact rx_iast C hdg hb.2.2.2.2.2.2.1 hin (K _ hb.ast11 (rx_fr1 (by omega) (by omega)))
theorem bS.wr12 {k : Nat → Nat} {q n9 n1 : Nat} {o o1 : ob} {h h1 : hp} {f : Nat → Int32} (hb : bS k q o h) (ho : (o.1, va_up o.2 12 f) = o1) (hu : (h1, n1) = (va_up h (q + 7) (some (rx_ia k 4 f)), n9)) : bS k q o1 h1 ∧ rx_fr [(q, 9)] h h1 ∧ n1 = n9 := by
  cases hu
  subst ho
  exact ⟨hb.ast12, rx_fr1 (by omega) (by omega), rfl⟩
theorem rx_aS12 (C : rx_C G k p m c cc own nL ret s args meth) {q : Nat} {o o1 : ob} {f : Nat → Int32} {i v : Int32} (hdg : decode cc pc = .ok (.iastore, 1)) (hb : bS k q o h) (hx : rx_ast 4 (o.2 12) i v = some f) (ho : (o.1, va_up o.2 12 f) = o1) (K : ∀ h1, bS k q o1 h1 → rx_fr [(q, 9)] h h1 → rx_W p l e R s m args below meth c Q G k nL cells slots h1 n (pc + 1) L st) : rx_W p l e R s m args below meth c Q G k nL cells slots h n pc L (.int v :: .int i :: .ref (q + 7) :: st) := by
  obtain ⟨hin, rfl⟩ := rx_astE hx
  subst ho
  exact rx_iast C hdg hb.2.2.2.2.2.2.2.1 hin (K _ hb.ast12 (rx_fr1 (by omega) (by omega)))
theorem bS.wr13 {k : Nat → Nat} {q n9 n1 : Nat} {o o1 : ob} {h h1 : hp} {f : Nat → Int32} (hb : bS k q o h) (ho : (o.1, va_up o.2 13 f) = o1) (hu : (h1, n1) = (va_up h (q + 8) (some (rx_ia k 4 f)), n9)) : bS k q o1 h1 ∧ rx_fr [(q, 9)] h h1 ∧ n1 = n9 := by
  cases hu
  subst ho
  exact ⟨hb.ast13, rx_fr1 (by omega) (by omega), rfl⟩
theorem rx_aS13 (C : rx_C G k p m c cc own nL ret s args meth) {q : Nat} {o o1 : ob} {f : Nat → Int32} {i v : Int32} (hdg : decode cc pc = .ok (.iastore, 1)) (hb : bS k q o h) (hx : rx_ast 4 (o.2 13) i v = some f) (ho : (o.1, va_up o.2 13 f) = o1) (K : ∀ h1, bS k q o1 h1 → rx_fr [(q, 9)] h h1 → rx_W p l e R s m args below meth c Q G k nL cells slots h1 n (pc + 1) L st) : rx_W p l e R s m args below meth c Q G k nL cells slots h n pc L (.int v :: .int i :: .ref (q + 8) :: st) := by
  obtain ⟨hin, rfl⟩ := rx_astE hx
  subst ho
  exact rx_iast C hdg hb.2.2.2.2.2.2.2.2 hin (K _ hb.ast13 (rx_fr1 (by omega) (by omega)))
theorem rx_pT1 (C : rx_C G k p m c cc own nL ret s args meth) {index q : Nat} {o o1 : ob} {v : Int32} (hF : rx_F own index 5 1) (hdg : decode cc pc = .ok (.putfield index, 3)) (hb : bT k q o h) (ho : (upd o.1 1 v, o.2) = o1) (K : ∀ h1, bT k q o1 h1 → rx_fr [(q, 2)] h h1 → rx_W p l e R s m args below meth c Q G k nL cells slots h1 n (pc + 3) L st) : rx_W p l e R s m args below meth c Q G k nL cells slots h n pc L (.int v :: .ref q :: st) := by
  subst ho
  exact rx_putf C hF t_X6_1 hdg hb.1 (Nat.le_of_ble_eq_true rfl) rfl rfl (K _ hb.put1 (rx_fr1 (Nat.le_refl _) (by omega)))
theorem rx_pT1N (C : rx_C G k p m c cc own nL ret s args meth) {index q : Nat} {o o1 : ob} {v : Int32} (hF : rx_FN own index 5 1) (hdg : decode cc pc = .ok (.putfield index, 3)) (hb : bT k q o h) (ho : (upd o.1 1 v, o.2) = o1) (K : ∀ h1, bT k q o1 h1 → rx_fr [(q, 2)] h h1 → rx_W p l e R s m args below meth c Q G k nL cells slots h1 n (pc + 3) L st) : rx_W p l e R s m args below meth c Q G k nL cells slots h n pc L (.int v :: .ref q :: st) := by
  subst ho
  exact rx_putfN C hF t_X6_1 hdg hb.1 (Nat.le_of_ble_eq_true rfl) rfl rfl (K _ hb.put1 (rx_fr1 (Nat.le_refl _) (by omega)))
theorem rx_pT2 (C : rx_C G k p m c cc own nL ret s args meth) {index q : Nat} {o o1 : ob} {v : Int32} (hF : rx_F own index 5 2) (hdg : decode cc pc = .ok (.putfield index, 3)) (hb : bT k q o h) (ho : (upd o.1 2 v, o.2) = o1) (K : ∀ h1, bT k q o1 h1 → rx_fr [(q, 2)] h h1 → rx_W p l e R s m args below meth c Q G k nL cells slots h1 n (pc + 3) L st) : rx_W p l e R s m args below meth c Q G k nL cells slots h n pc L (.int v :: .ref q :: st) := by
  subst ho
  exact rx_putf C hF t_X6_2 hdg hb.1 (Nat.le_of_ble_eq_true rfl) rfl rfl (K _ hb.put2 (rx_fr1 (Nat.le_refl _) (by omega)))
theorem rx_pT2N (C : rx_C G k p m c cc own nL ret s args meth) {index q : Nat} {o o1 : ob} {v : Int32} (hF : rx_FN own index 5 2) (hdg : decode cc pc = .ok (.putfield index, 3)) (hb : bT k q o h) (ho : (upd o.1 2 v, o.2) = o1) (K : ∀ h1, bT k q o1 h1 → rx_fr [(q, 2)] h h1 → rx_W p l e R s m args below meth c Q G k nL cells slots h1 n (pc + 3) L st) : rx_W p l e R s m args below meth c Q G k nL cells slots h n pc L (.int v :: .ref q :: st) := by
  subst ho
  exact rx_putfN C hF t_X6_2 hdg hb.1 (Nat.le_of_ble_eq_true rfl) rfl rfl (K _ hb.put2 (rx_fr1 (Nat.le_refl _) (by omega)))
theorem rx_pT3 (C : rx_C G k p m c cc own nL ret s args meth) {index q : Nat} {o o1 : ob} {v : Int32} (hF : rx_F own index 5 3) (hdg : decode cc pc = .ok (.putfield index, 3)) (hb : bT k q o h) (ho : (upd o.1 3 v, o.2) = o1) (K : ∀ h1, bT k q o1 h1 → rx_fr [(q, 2)] h h1 → rx_W p l e R s m args below meth c Q G k nL cells slots h1 n (pc + 3) L st) : rx_W p l e R s m args below meth c Q G k nL cells slots h n pc L (.int v :: .ref q :: st) := by
  subst ho
  exact rx_putf C hF t_X6_3 hdg hb.1 (Nat.le_of_ble_eq_true rfl) rfl rfl (K _ hb.put3 (rx_fr1 (Nat.le_refl _) (by omega)))
theorem rx_pT3N (C : rx_C G k p m c cc own nL ret s args meth) {index q : Nat} {o o1 : ob} {v : Int32} (hF : rx_FN own index 5 3) (hdg : decode cc pc = .ok (.putfield index, 3)) (hb : bT k q o h) (ho : (upd o.1 3 v, o.2) = o1) (K : ∀ h1, bT k q o1 h1 → rx_fr [(q, 2)] h h1 → rx_W p l e R s m args below meth c Q G k nL cells slots h1 n (pc + 3) L st) : rx_W p l e R s m args below meth c Q G k nL cells slots h n pc L (.int v :: .ref q :: st) := by
  subst ho
  exact rx_putfN C hF t_X6_3 hdg hb.1 (Nat.le_of_ble_eq_true rfl) rfl rfl (K _ hb.put3 (rx_fr1 (Nat.le_refl _) (by omega)))
theorem rx_pT4 (C : rx_C G k p m c cc own nL ret s args meth) {index q : Nat} {o o1 : ob} {v : Int32} (hF : rx_F own index 5 4) (hdg : decode cc pc = .ok (.putfield index, 3)) (hb : bT k q o h) (ho : (upd o.1 4 v, o.2) = o1) (K : ∀ h1, bT k q o1 h1 → rx_fr [(q, 2)] h h1 → rx_W p l e R s m args below meth c Q G k nL cells slots h1 n (pc + 3) L st) : rx_W p l e R s m args below meth c Q G k nL cells slots h n pc L (.int v :: .ref q :: st) := by
  subst ho
  exact rx_putf C hF t_X6_4 hdg hb.1 (Nat.le_of_ble_eq_true rfl) rfl rfl (K _ hb.put4 (rx_fr1 (Nat.le_refl _) (by omega)))
theorem rx_pT4N (C : rx_C G k p m c cc own nL ret s args meth) {index q : Nat} {o o1 : ob} {v : Int32} (hF : rx_FN own index 5 4) (hdg : decode cc pc = .ok (.putfield index, 3)) (hb : bT k q o h) (ho : (upd o.1 4 v, o.2) = o1) (K : ∀ h1, bT k q o1 h1 → rx_fr [(q, 2)] h h1 → rx_W p l e R s m args below meth c Q G k nL cells slots h1 n (pc + 3) L st) : rx_W p l e R s m args below meth c Q G k nL cells slots h n pc L (.int v :: .ref q :: st) := by
  subst ho
  exact rx_putfN C hF t_X6_4 hdg hb.1 (Nat.le_of_ble_eq_true rfl) rfl rfl (K _ hb.put4 (rx_fr1 (Nat.le_refl _) (by omega)))
theorem rx_pT5 (C : rx_C G k p m c cc own nL ret s args meth) {index q : Nat} {o o1 : ob} {v : Int32} (hF : rx_F own index 5 5) (hdg : decode cc pc = .ok (.putfield index, 3)) (hb : bT k q o h) (ho : (upd o.1 5 v, o.2) = o1) (K : ∀ h1, bT k q o1 h1 → rx_fr [(q, 2)] h h1 → rx_W p l e R s m args below meth c Q G k nL cells slots h1 n (pc + 3) L st) : rx_W p l e R s m args below meth c Q G k nL cells slots h n pc L (.int v :: .ref q :: st) := by
  subst ho
  exact rx_putf C hF t_X6_5 hdg hb.1 (Nat.le_of_ble_eq_true rfl) rfl rfl (K _ hb.put5 (rx_fr1 (Nat.le_refl _) (by omega)))
theorem rx_pT5N (C : rx_C G k p m c cc own nL ret s args meth) {index q : Nat} {o o1 : ob} {v : Int32} (hF : rx_FN own index 5 5) (hdg : decode cc pc = .ok (.putfield index, 3)) (hb : bT k q o h) (ho : (upd o.1 5 v, o.2) = o1) (K : ∀ h1, bT k q o1 h1 → rx_fr [(q, 2)] h h1 → rx_W p l e R s m args below meth c Q G k nL cells slots h1 n (pc + 3) L st) : rx_W p l e R s m args below meth c Q G k nL cells slots h n pc L (.int v :: .ref q :: st) := by
  subst ho
  exact rx_putfN C hF t_X6_5 hdg hb.1 (Nat.le_of_ble_eq_true rfl) rfl rfl (K _ hb.put5 (rx_fr1 (Nat.le_refl _) (by omega)))
theorem rx_pT6 (C : rx_C G k p m c cc own nL ret s args meth) {index q : Nat} {o o1 : ob} {v : Int32} (hF : rx_F own index 5 6) (hdg : decode cc pc = .ok (.putfield index, 3)) (hb : bT k q o h) (ho : (upd o.1 6 v, o.2) = o1) (K : ∀ h1, bT k q o1 h1 → rx_fr [(q, 2)] h h1 → rx_W p l e R s m args below meth c Q G k nL cells slots h1 n (pc + 3) L st) : rx_W p l e R s m args below meth c Q G k nL cells slots h n pc L (.int v :: .ref q :: st) := by
  subst ho
  exact rx_putf C hF t_X6_6 hdg hb.1 (Nat.le_of_ble_eq_true rfl) rfl rfl (K _ hb.put6 (rx_fr1 (Nat.le_refl _) (by omega)))
theorem rx_pT6N (C : rx_C G k p m c cc own nL ret s args meth) {index q : Nat} {o o1 : ob} {v : Int32} (hF : rx_FN own index 5 6) (hdg : decode cc pc = .ok (.putfield index, 3)) (hb : bT k q o h) (ho : (upd o.1 6 v, o.2) = o1) (K : ∀ h1, bT k q o1 h1 → rx_fr [(q, 2)] h h1 → rx_W p l e R s m args below meth c Q G k nL cells slots h1 n (pc + 3) L st) : rx_W p l e R s m args below meth c Q G k nL cells slots h n pc L (.int v :: .ref q :: st) := by
  subst ho
  exact rx_putfN C hF t_X6_6 hdg hb.1 (Nat.le_of_ble_eq_true rfl) rfl rfl (K _ hb.put6 (rx_fr1 (Nat.le_refl _) (by omega)))
theorem rx_pT7 (C : rx_C G k p m c cc own nL ret s args meth) {index q : Nat} {o o1 : ob} {v : Int32} (hF : rx_F own index 5 7) (hdg : decode cc pc = .ok (.putfield index, 3)) (hb : bT k q o h) (ho : (upd o.1 7 v, o.2) = o1) (K : ∀ h1, bT k q o1 h1 → rx_fr [(q, 2)] h h1 → rx_W p l e R s m args below meth c Q G k nL cells slots h1 n (pc + 3) L st) : rx_W p l e R s m args below meth c Q G k nL cells slots h n pc L (.int v :: .ref q :: st) := by
  subst ho
  exact rx_putf C hF t_X6_7 hdg hb.1 (Nat.le_of_ble_eq_true rfl) rfl rfl (K _ hb.put7 (rx_fr1 (Nat.le_refl _) (by omega)))
theorem rx_pT7N (C : rx_C G k p m c cc own nL ret s args meth) {index q : Nat} {o o1 : ob} {v : Int32} (hF : rx_FN own index 5 7) (hdg : decode cc pc = .ok (.putfield index, 3)) (hb : bT k q o h) (ho : (upd o.1 7 v, o.2) = o1) (K : ∀ h1, bT k q o1 h1 → rx_fr [(q, 2)] h h1 → rx_W p l e R s m args below meth c Q G k nL cells slots h1 n (pc + 3) L st) : rx_W p l e R s m args below meth c Q G k nL cells slots h n pc L (.int v :: .ref q :: st) := by
  subst ho
  exact rx_putfN C hF t_X6_7 hdg hb.1 (Nat.le_of_ble_eq_true rfl) rfl rfl (K _ hb.put7 (rx_fr1 (Nat.le_refl _) (by omega)))
theorem rx_pT8 (C : rx_C G k p m c cc own nL ret s args meth) {index q : Nat} {o o1 : ob} {v : Int32} (hF : rx_F own index 5 8) (hdg : decode cc pc = .ok (.putfield index, 3)) (hb : bT k q o h) (ho : (upd o.1 8 v, o.2) = o1) (K : ∀ h1, bT k q o1 h1 → rx_fr [(q, 2)] h h1 → rx_W p l e R s m args below meth c Q G k nL cells slots h1 n (pc + 3) L st) : rx_W p l e R s m args below meth c Q G k nL cells slots h n pc L (.int v :: .ref q :: st) := by
  subst ho
  exact rx_putf C hF t_X6_8 hdg hb.1 (Nat.le_of_ble_eq_true rfl) rfl rfl (K _ hb.put8 (rx_fr1 (Nat.le_refl _) (by omega)))
theorem rx_pT8N (C : rx_C G k p m c cc own nL ret s args meth) {index q : Nat} {o o1 : ob} {v : Int32} (hF : rx_FN own index 5 8) (hdg : decode cc pc = .ok (.putfield index, 3)) (hb : bT k q o h) (ho : (upd o.1 8 v, o.2) = o1) (K : ∀ h1, bT k q o1 h1 → rx_fr [(q, 2)] h h1 → rx_W p l e R s m args below meth c Q G k nL cells slots h1 n (pc + 3) L st) : rx_W p l e R s m args below meth c Q G k nL cells slots h n pc L (.int v :: .ref q :: st) := by
  subst ho
  exact rx_putfN C hF t_X6_8 hdg hb.1 (Nat.le_of_ble_eq_true rfl) rfl rfl (K _ hb.put8 (rx_fr1 (Nat.le_refl _) (by omega)))
theorem bT.wr0 {k : Nat → Nat} {q n9 n1 : Nat} {o o1 : ob} {h h1 : hp} {f : Nat → Int32} (hb : bT k q o h) (ho : (o.1, va_up o.2 0 f) = o1) (hu : (h1, n1) = (va_up h (q + 1) (some (rx_ia k 500 f)), n9)) : bT k q o1 h1 ∧ rx_fr [(q, 2)] h h1 ∧ n1 = n9 := by
  cases hu
  subst ho
  exact ⟨hb.ast0, rx_fr1 (by omega) (by omega), rfl⟩
theorem rx_aT0 (C : rx_C G k p m c cc own nL ret s args meth) {q : Nat} {o o1 : ob} {f : Nat → Int32} {i v : Int32} (hdg : decode cc pc = .ok (.iastore, 1)) (hb : bT k q o h) (hx : rx_ast 500 (o.2 0) i v = some f) (ho : (o.1, va_up o.2 0 f) = o1) (K : ∀ h1, bT k q o1 h1 → rx_fr [(q, 2)] h h1 → rx_W p l e R s m args below meth c Q G k nL cells slots h1 n (pc + 1) L st) : rx_W p l e R s m args below meth c Q G k nL cells slots h n pc L (.int v :: .int i :: .ref (q + 1) :: st) := by
  obtain ⟨hin, rfl⟩ := rx_astE hx
  subst ho
  exact rx_iast C hdg hb.2 hin (K _ hb.ast0 (rx_fr1 (by omega) (by omega)))
theorem rx_pP1 (C : rx_C G k p m c cc own nL ret s args meth) {index q g : Nat} {o o1 : ob} {v : Int32} (hF : rx_F own index 1 1) (hdg : decode cc pc = .ok (.putfield index, 3)) (hb : bP k q g o h) (ho : (upd o.1 1 v, o.2) = o1) (K : ∀ h1, bP k q g o1 h1 → rx_fr [(q, 10)] h h1 → rx_W p l e R s m args below meth c Q G k nL cells slots h1 n (pc + 3) L st) : rx_W p l e R s m args below meth c Q G k nL cells slots h n pc L (.int v :: .ref q :: st) := by
  subst ho
  exact rx_putf C hF t_X2_1 hdg hb.1 (Nat.le_of_ble_eq_true rfl) rfl rfl (K _ hb.put1 (rx_fr1 (Nat.le_refl _) (by omega)))
theorem rx_pP1N (C : rx_C G k p m c cc own nL ret s args meth) {index q g : Nat} {o o1 : ob} {v : Int32} (hF : rx_FN own index 1 1) (hdg : decode cc pc = .ok (.putfield index, 3)) (hb : bP k q g o h) (ho : (upd o.1 1 v, o.2) = o1) (K : ∀ h1, bP k q g o1 h1 → rx_fr [(q, 10)] h h1 → rx_W p l e R s m args below meth c Q G k nL cells slots h1 n (pc + 3) L st) : rx_W p l e R s m args below meth c Q G k nL cells slots h n pc L (.int v :: .ref q :: st) := by
  subst ho
  exact rx_putfN C hF t_X2_1 hdg hb.1 (Nat.le_of_ble_eq_true rfl) rfl rfl (K _ hb.put1 (rx_fr1 (Nat.le_refl _) (by omega)))
theorem rx_pP2 (C : rx_C G k p m c cc own nL ret s args meth) {index q g : Nat} {o o1 : ob} {v : Int32} (hF : rx_F own index 1 2) (hdg : decode cc pc = .ok (.putfield index, 3)) (hb : bP k q g o h) (ho : (upd o.1 2 v, o.2) = o1) (K : ∀ h1, bP k q g o1 h1 → rx_fr [(q, 10)] h h1 → rx_W p l e R s m args below meth c Q G k nL cells slots h1 n (pc + 3) L st) : rx_W p l e R s m args below meth c Q G k nL cells slots h n pc L (.int v :: .ref q :: st) := by
  subst ho
  exact rx_putf C hF t_X2_2 hdg hb.1 (Nat.le_of_ble_eq_true rfl) rfl rfl (K _ hb.put2 (rx_fr1 (Nat.le_refl _) (by omega)))
theorem rx_pP2N (C : rx_C G k p m c cc own nL ret s args meth) {index q g : Nat} {o o1 : ob} {v : Int32} (hF : rx_FN own index 1 2) (hdg : decode cc pc = .ok (.putfield index, 3)) (hb : bP k q g o h) (ho : (upd o.1 2 v, o.2) = o1) (K : ∀ h1, bP k q g o1 h1 → rx_fr [(q, 10)] h h1 → rx_W p l e R s m args below meth c Q G k nL cells slots h1 n (pc + 3) L st) : rx_W p l e R s m args below meth c Q G k nL cells slots h n pc L (.int v :: .ref q :: st) := by
  subst ho
  exact rx_putfN C hF t_X2_2 hdg hb.1 (Nat.le_of_ble_eq_true rfl) rfl rfl (K _ hb.put2 (rx_fr1 (Nat.le_refl _) (by omega)))
theorem rx_pP3 (C : rx_C G k p m c cc own nL ret s args meth) {index q g : Nat} {o o1 : ob} {v : Int32} (hF : rx_F own index 1 3) (hdg : decode cc pc = .ok (.putfield index, 3)) (hb : bP k q g o h) (ho : (upd o.1 3 v, o.2) = o1) (K : ∀ h1, bP k q g o1 h1 → rx_fr [(q, 10)] h h1 → rx_W p l e R s m args below meth c Q G k nL cells slots h1 n (pc + 3) L st) : rx_W p l e R s m args below meth c Q G k nL cells slots h n pc L (.int v :: .ref q :: st) := by
  subst ho
  exact rx_putf C hF t_X2_3 hdg hb.1 (Nat.le_of_ble_eq_true rfl) rfl rfl (K _ hb.put3 (rx_fr1 (Nat.le_refl _) (by omega)))
theorem rx_pP3N (C : rx_C G k p m c cc own nL ret s args meth) {index q g : Nat} {o o1 : ob} {v : Int32} (hF : rx_FN own index 1 3) (hdg : decode cc pc = .ok (.putfield index, 3)) (hb : bP k q g o h) (ho : (upd o.1 3 v, o.2) = o1) (K : ∀ h1, bP k q g o1 h1 → rx_fr [(q, 10)] h h1 → rx_W p l e R s m args below meth c Q G k nL cells slots h1 n (pc + 3) L st) : rx_W p l e R s m args below meth c Q G k nL cells slots h n pc L (.int v :: .ref q :: st) := by
  subst ho
  exact rx_putfN C hF t_X2_3 hdg hb.1 (Nat.le_of_ble_eq_true rfl) rfl rfl (K _ hb.put3 (rx_fr1 (Nat.le_refl _) (by omega)))
theorem bP.wr4 {k : Nat → Nat} {q g n9 n1 : Nat} {o o1 : ob} {h h1 : hp} {f : Nat → Int32} (hb : bP k q g o h) (ho : (o.1, va_up o.2 4 f) = o1) (hu : (h1, n1) = (va_up h (q + 1) (some (rx_ia k 2 f)), n9)) : bP k q g o1 h1 ∧ rx_fr [(q, 10)] h h1 ∧ n1 = n9 := by
  cases hu
  subst ho
  exact ⟨hb.ast4, rx_fr1 (by omega) (by omega), rfl⟩
theorem rx_aP4 (C : rx_C G k p m c cc own nL ret s args meth) {q g : Nat} {o o1 : ob} {f : Nat → Int32} {i v : Int32} (hdg : decode cc pc = .ok (.iastore, 1)) (hb : bP k q g o h) (hx : rx_ast 2 (o.2 4) i v = some f) (ho : (o.1, va_up o.2 4 f) = o1) (K : ∀ h1, bP k q g o1 h1 → rx_fr [(q, 10)] h h1 → rx_W p l e R s m args below meth c Q G k nL cells slots h1 n (pc + 1) L st) : rx_W p l e R s m args below meth c Q G k nL cells slots h n pc L (.int v :: .int i :: .ref (q + 1) :: st) := by
  obtain ⟨hin, rfl⟩ := rx_astE hx
  subst ho
  exact rx_iast C hdg hb.2.1 hin (K _ hb.ast4 (rx_fr1 (by omega) (by omega)))
theorem bP.wr5 {k : Nat → Nat} {q g n9 n1 : Nat} {o o1 : ob} {h h1 : hp} {f : Nat → Int32} (hb : bP k q g o h) (ho : (o.1, va_up o.2 5 f) = o1) (hu : (h1, n1) = (va_up h (q + 2) (some (rx_ia k 10 f)), n9)) : bP k q g o1 h1 ∧ rx_fr [(q, 10)] h h1 ∧ n1 = n9 := by
  cases hu
  subst ho
  exact ⟨hb.ast5, rx_fr1 (by omega) (by omega), rfl⟩
theorem rx_aP5 (C : rx_C G k p m c cc own nL ret s args meth) {q g : Nat} {o o1 : ob} {f : Nat → Int32} {i v : Int32} (hdg : decode cc pc = .ok (.iastore, 1)) (hb : bP k q g o h) (hx : rx_ast 10 (o.2 5) i v = some f) (ho : (o.1, va_up o.2 5 f) = o1) (K : ∀ h1, bP k q g o1 h1 → rx_fr [(q, 10)] h h1 → rx_W p l e R s m args below meth c Q G k nL cells slots h1 n (pc + 1) L st) : rx_W p l e R s m args below meth c Q G k nL cells slots h n pc L (.int v :: .int i :: .ref (q + 2) :: st) := by
  obtain ⟨hin, rfl⟩ := rx_astE hx
  subst ho
  exact rx_iast C hdg hb.2.2.1 hin (K _ hb.ast5 (rx_fr1 (by omega) (by omega)))
theorem bP.wr6 {k : Nat → Nat} {q g n9 n1 : Nat} {o o1 : ob} {h h1 : hp} {f : Nat → Int32} (hb : bP k q g o h) (ho : (o.1, va_up o.2 6 f) = o1) (hu : (h1, n1) = (va_up h (q + 3) (some (rx_ia k 10 f)), n9)) : bP k q g o1 h1 ∧ rx_fr [(q, 10)] h h1 ∧ n1 = n9 := by
  cases hu
  subst ho
  exact ⟨hb.ast6, rx_fr1 (by omega) (by omega), rfl⟩
theorem rx_aP6 (C : rx_C G k p m c cc own nL ret s args meth) {q g : Nat} {o o1 : ob} {f : Nat → Int32} {i v : Int32} (hdg : decode cc pc = .ok (.iastore, 1)) (hb : bP k q g o h) (hx : rx_ast 10 (o.2 6) i v = some f) (ho : (o.1, va_up o.2 6 f) = o1) (K : ∀ h1, bP k q g o1 h1 → rx_fr [(q, 10)] h h1 → rx_W p l e R s m args below meth c Q G k nL cells slots h1 n (pc + 1) L st) : rx_W p l e R s m args below meth c Q G k nL cells slots h n pc L (.int v :: .int i :: .ref (q + 3) :: st) := by
  obtain ⟨hin, rfl⟩ := rx_astE hx
  subst ho
  exact rx_iast C hdg hb.2.2.2.1 hin (K _ hb.ast6 (rx_fr1 (by omega) (by omega)))
theorem bP.wr7 {k : Nat → Nat} {q g n9 n1 : Nat} {o o1 : ob} {h h1 : hp} {f : Nat → Int32} (hb : bP k q g o h) (ho : (o.1, va_up o.2 7 f) = o1) (hu : (h1, n1) = (va_up h (q + 4) (some (rx_ia k 10 f)), n9)) : bP k q g o1 h1 ∧ rx_fr [(q, 10)] h h1 ∧ n1 = n9 := by
  cases hu
  subst ho
  exact ⟨hb.ast7, rx_fr1 (by omega) (by omega), rfl⟩
theorem rx_aP7 (C : rx_C G k p m c cc own nL ret s args meth) {q g : Nat} {o o1 : ob} {f : Nat → Int32} {i v : Int32} (hdg : decode cc pc = .ok (.iastore, 1)) (hb : bP k q g o h) (hx : rx_ast 10 (o.2 7) i v = some f) (ho : (o.1, va_up o.2 7 f) = o1) (K : ∀ h1, bP k q g o1 h1 → rx_fr [(q, 10)] h h1 → rx_W p l e R s m args below meth c Q G k nL cells slots h1 n (pc + 1) L st) : rx_W p l e R s m args below meth c Q G k nL cells slots h n pc L (.int v :: .int i :: .ref (q + 4) :: st) := by
  obtain ⟨hin, rfl⟩ := rx_astE hx
  subst ho
  exact rx_iast C hdg hb.2.2.2.2.1 hin (K _ hb.ast7 (rx_fr1 (by omega) (by omega)))
theorem bP.wr8 {k : Nat → Nat} {q g n9 n1 : Nat} {o o1 : ob} {h h1 : hp} {f : Nat → Int32} (hb : bP k q g o h) (ho : (o.1, va_up o.2 8 f) = o1) (hu : (h1, n1) = (va_up h (q + 5) (some (rx_ia k 10 f)), n9)) : bP k q g o1 h1 ∧ rx_fr [(q, 10)] h h1 ∧ n1 = n9 := by
  cases hu
  subst ho
  exact ⟨hb.ast8, rx_fr1 (by omega) (by omega), rfl⟩
theorem rx_aP8 (C : rx_C G k p m c cc own nL ret s args meth) {q g : Nat} {o o1 : ob} {f : Nat → Int32} {i v : Int32} (hdg : decode cc pc = .ok (.iastore, 1)) (hb : bP k q g o h) (hx : rx_ast 10 (o.2 8) i v = some f) (ho : (o.1, va_up o.2 8 f) = o1) (K : ∀ h1, bP k q g o1 h1 → rx_fr [(q, 10)] h h1 → rx_W p l e R s m args below meth c Q G k nL cells slots h1 n (pc + 1) L st) : rx_W p l e R s m args below meth c Q G k nL cells slots h n pc L (.int v :: .int i :: .ref (q + 5) :: st) := by
  obtain ⟨hin, rfl⟩ := rx_astE hx
  subst ho
  exact rx_iast C hdg hb.2.2.2.2.2.1 hin (K _ hb.ast8 (rx_fr1 (by omega) (by omega)))
theorem bP.wr9 {k : Nat → Nat} {q g n9 n1 : Nat} {o o1 : ob} {h h1 : hp} {f : Nat → Int32} (hb : bP k q g o h) (ho : (o.1, va_up o.2 9 f) = o1) (hu : (h1, n1) = (va_up h (q + 6) (some (rx_ia k 10 f)), n9)) : bP k q g o1 h1 ∧ rx_fr [(q, 10)] h h1 ∧ n1 = n9 := by
  cases hu
  subst ho
  exact ⟨hb.ast9, rx_fr1 (by omega) (by omega), rfl⟩
theorem rx_aP9 (C : rx_C G k p m c cc own nL ret s args meth) {q g : Nat} {o o1 : ob} {f : Nat → Int32} {i v : Int32} (hdg : decode cc pc = .ok (.iastore, 1)) (hb : bP k q g o h) (hx : rx_ast 10 (o.2 9) i v = some f) (ho : (o.1, va_up o.2 9 f) = o1) (K : ∀ h1, bP k q g o1 h1 → rx_fr [(q, 10)] h h1 → rx_W p l e R s m args below meth c Q G k nL cells slots h1 n (pc + 1) L st) : rx_W p l e R s m args below meth c Q G k nL cells slots h n pc L (.int v :: .int i :: .ref (q + 6) :: st) := by
  obtain ⟨hin, rfl⟩ := rx_astE hx
  subst ho
  exact rx_iast C hdg hb.2.2.2.2.2.2.1 hin (K _ hb.ast9 (rx_fr1 (by omega) (by omega)))
theorem bP.wr10 {k : Nat → Nat} {q g n9 n1 : Nat} {o o1 : ob} {h h1 : hp} {f : Nat → Int32} (hb : bP k q g o h) (ho : (o.1, va_up o.2 10 f) = o1) (hu : (h1, n1) = (va_up h (q + 7) (some (rx_ia k 10 f)), n9)) : bP k q g o1 h1 ∧ rx_fr [(q, 10)] h h1 ∧ n1 = n9 := by
  cases hu
  subst ho
  exact ⟨hb.ast10, rx_fr1 (by omega) (by omega), rfl⟩
theorem rx_aP10 (C : rx_C G k p m c cc own nL ret s args meth) {q g : Nat} {o o1 : ob} {f : Nat → Int32} {i v : Int32} (hdg : decode cc pc = .ok (.iastore, 1)) (hb : bP k q g o h) (hx : rx_ast 10 (o.2 10) i v = some f) (ho : (o.1, va_up o.2 10 f) = o1) (K : ∀ h1, bP k q g o1 h1 → rx_fr [(q, 10)] h h1 → rx_W p l e R s m args below meth c Q G k nL cells slots h1 n (pc + 1) L st) : rx_W p l e R s m args below meth c Q G k nL cells slots h n pc L (.int v :: .int i :: .ref (q + 7) :: st) := by
  obtain ⟨hin, rfl⟩ := rx_astE hx
  subst ho
  exact rx_iast C hdg hb.2.2.2.2.2.2.2.1 hin (K _ hb.ast10 (rx_fr1 (by omega) (by omega)))
theorem bP.wr11 {k : Nat → Nat} {q g n9 n1 : Nat} {o o1 : ob} {h h1 : hp} {f : Nat → Int32} (hb : bP k q g o h) (ho : (o.1, va_up o.2 11 f) = o1) (hu : (h1, n1) = (va_up h (q + 8) (some (rx_ia k 10 f)), n9)) : bP k q g o1 h1 ∧ rx_fr [(q, 10)] h h1 ∧ n1 = n9 := by
  cases hu
  subst ho
  exact ⟨hb.ast11, rx_fr1 (by omega) (by omega), rfl⟩
theorem rx_aP11 (C : rx_C G k p m c cc own nL ret s args meth) {q g : Nat} {o o1 : ob} {f : Nat → Int32} {i v : Int32} (hdg : decode cc pc = .ok (.iastore, 1)) (hb : bP k q g o h) (hx : rx_ast 10 (o.2 11) i v = some f) (ho : (o.1, va_up o.2 11 f) = o1) (K : ∀ h1, bP k q g o1 h1 → rx_fr [(q, 10)] h h1 → rx_W p l e R s m args below meth c Q G k nL cells slots h1 n (pc + 1) L st) : rx_W p l e R s m args below meth c Q G k nL cells slots h n pc L (.int v :: .int i :: .ref (q + 8) :: st) := by
  obtain ⟨hin, rfl⟩ := rx_astE hx
  subst ho
  exact rx_iast C hdg hb.2.2.2.2.2.2.2.2.1 hin (K _ hb.ast11 (rx_fr1 (by omega) (by omega)))
theorem bP.wr12 {k : Nat → Nat} {q g n9 n1 : Nat} {o o1 : ob} {h h1 : hp} {f : Nat → Int32} (hb : bP k q g o h) (ho : (o.1, va_up o.2 12 f) = o1) (hu : (h1, n1) = (va_up h (q + 9) (some (rx_ia k 10 f)), n9)) : bP k q g o1 h1 ∧ rx_fr [(q, 10)] h h1 ∧ n1 = n9 := by
  cases hu
  subst ho
  exact ⟨hb.ast12, rx_fr1 (by omega) (by omega), rfl⟩
theorem rx_aP12 (C : rx_C G k p m c cc own nL ret s args meth) {q g : Nat} {o o1 : ob} {f : Nat → Int32} {i v : Int32} (hdg : decode cc pc = .ok (.iastore, 1)) (hb : bP k q g o h) (hx : rx_ast 10 (o.2 12) i v = some f) (ho : (o.1, va_up o.2 12 f) = o1) (K : ∀ h1, bP k q g o1 h1 → rx_fr [(q, 10)] h h1 → rx_W p l e R s m args below meth c Q G k nL cells slots h1 n (pc + 1) L st) : rx_W p l e R s m args below meth c Q G k nL cells slots h n pc L (.int v :: .int i :: .ref (q + 9) :: st) := by
  obtain ⟨hin, rfl⟩ := rx_astE hx
  subst ho
  exact rx_iast C hdg hb.2.2.2.2.2.2.2.2.2 hin (K _ hb.ast12 (rx_fr1 (by omega) (by omega)))
theorem rx_pH1 (C : rx_C G k p m c cc own nL ret s args meth) {index q : Nat} {o o1 : ob} {v : Int32} (hF : rx_F own index 0 1) (hdg : decode cc pc = .ok (.putfield index, 3)) (hb : bH k q o h) (ho : (upd o.1 1 v, o.2) = o1) (K : ∀ h1, bH k q o1 h1 → rx_fr [(q, 2)] h h1 → rx_W p l e R s m args below meth c Q G k nL cells slots h1 n (pc + 3) L st) : rx_W p l e R s m args below meth c Q G k nL cells slots h n pc L (.int v :: .ref q :: st) := by
  subst ho
  exact rx_putf C hF t_X1_1 hdg hb.1 (Nat.le_of_ble_eq_true rfl) rfl rfl (K _ hb.put1 (rx_fr1 (Nat.le_refl _) (by omega)))
theorem rx_pH1N (C : rx_C G k p m c cc own nL ret s args meth) {index q : Nat} {o o1 : ob} {v : Int32} (hF : rx_FN own index 0 1) (hdg : decode cc pc = .ok (.putfield index, 3)) (hb : bH k q o h) (ho : (upd o.1 1 v, o.2) = o1) (K : ∀ h1, bH k q o1 h1 → rx_fr [(q, 2)] h h1 → rx_W p l e R s m args below meth c Q G k nL cells slots h1 n (pc + 3) L st) : rx_W p l e R s m args below meth c Q G k nL cells slots h n pc L (.int v :: .ref q :: st) := by
  subst ho
  exact rx_putfN C hF t_X1_1 hdg hb.1 (Nat.le_of_ble_eq_true rfl) rfl rfl (K _ hb.put1 (rx_fr1 (Nat.le_refl _) (by omega)))
theorem rx_pH2 (C : rx_C G k p m c cc own nL ret s args meth) {index q : Nat} {o o1 : ob} {v : Int32} (hF : rx_F own index 0 2) (hdg : decode cc pc = .ok (.putfield index, 3)) (hb : bH k q o h) (ho : (upd o.1 2 v, o.2) = o1) (K : ∀ h1, bH k q o1 h1 → rx_fr [(q, 2)] h h1 → rx_W p l e R s m args below meth c Q G k nL cells slots h1 n (pc + 3) L st) : rx_W p l e R s m args below meth c Q G k nL cells slots h n pc L (.int v :: .ref q :: st) := by
  subst ho
  exact rx_putf C hF t_X1_2 hdg hb.1 (Nat.le_of_ble_eq_true rfl) rfl rfl (K _ hb.put2 (rx_fr1 (Nat.le_refl _) (by omega)))
theorem rx_pH2N (C : rx_C G k p m c cc own nL ret s args meth) {index q : Nat} {o o1 : ob} {v : Int32} (hF : rx_FN own index 0 2) (hdg : decode cc pc = .ok (.putfield index, 3)) (hb : bH k q o h) (ho : (upd o.1 2 v, o.2) = o1) (K : ∀ h1, bH k q o1 h1 → rx_fr [(q, 2)] h h1 → rx_W p l e R s m args below meth c Q G k nL cells slots h1 n (pc + 3) L st) : rx_W p l e R s m args below meth c Q G k nL cells slots h n pc L (.int v :: .ref q :: st) := by
  subst ho
  exact rx_putfN C hF t_X1_2 hdg hb.1 (Nat.le_of_ble_eq_true rfl) rfl rfl (K _ hb.put2 (rx_fr1 (Nat.le_refl _) (by omega)))
theorem rx_pC3 (C : rx_C G k p m c cc own nL ret s args meth) {index q : Nat} {o o1 : obv} {v : Int32} (hF : rx_F own index 3 3) (hdg : decode cc pc = .ok (.putfield index, 3)) (hb : bC k q o h) (ho : ((upd o.1.1 3 v, o.1.2), o.2) = o1) (K : ∀ h1, bC k q o1 h1 → rx_fr [(q, 4)] h h1 → rx_W p l e R s m args below meth c Q G k nL cells slots h1 n (pc + 3) L st) : rx_W p l e R s m args below meth c Q G k nL cells slots h n pc L (.int v :: .ref q :: st) := by
  subst ho
  exact rx_putf C hF t_X4_3 hdg hb.1 (Nat.le_of_ble_eq_true rfl) rfl rfl (K _ hb.put3 (rx_fr1 (Nat.le_refl _) (by omega)))
theorem rx_pC3N (C : rx_C G k p m c cc own nL ret s args meth) {index q : Nat} {o o1 : obv} {v : Int32} (hF : rx_FN own index 3 3) (hdg : decode cc pc = .ok (.putfield index, 3)) (hb : bC k q o h) (ho : ((upd o.1.1 3 v, o.1.2), o.2) = o1) (K : ∀ h1, bC k q o1 h1 → rx_fr [(q, 4)] h h1 → rx_W p l e R s m args below meth c Q G k nL cells slots h1 n (pc + 3) L st) : rx_W p l e R s m args below meth c Q G k nL cells slots h n pc L (.int v :: .ref q :: st) := by
  subst ho
  exact rx_putfN C hF t_X4_3 hdg hb.1 (Nat.le_of_ble_eq_true rfl) rfl rfl (K _ hb.put3 (rx_fr1 (Nat.le_refl _) (by omega)))
theorem bC.wr1 {k : Nat → Nat} {q n9 n1 : Nat} {o o1 : obv} {h h1 : hp} {f : Nat → Int32} (hb : bC k q o h) (ho : ((o.1.1, va_up o.1.2 1 f), o.2) = o1) (hu : (h1, n1) = (va_up h (q + 2) (some (rx_ia k 20 f)), n9)) : bC k q o1 h1 ∧ rx_fr [(q, 4)] h h1 ∧ n1 = n9 := by
  cases hu
  subst ho
  exact ⟨hb.ast1, rx_fr1 (by omega) (by omega), rfl⟩
theorem rx_aC1 (C : rx_C G k p m c cc own nL ret s args meth) {q : Nat} {o o1 : obv} {f : Nat → Int32} {i v : Int32} (hdg : decode cc pc = .ok (.iastore, 1)) (hb : bC k q o h) (hx : rx_ast 20 (o.1.2 1) i v = some f) (ho : ((o.1.1, va_up o.1.2 1 f), o.2) = o1) (K : ∀ h1, bC k q o1 h1 → rx_fr [(q, 4)] h h1 → rx_W p l e R s m args below meth c Q G k nL cells slots h1 n (pc + 1) L st) : rx_W p l e R s m args below meth c Q G k nL cells slots h n pc L (.int v :: .int i :: .ref (q + 2) :: st) := by
  obtain ⟨hin, rfl⟩ := rx_astE hx
  subst ho
  exact rx_iast C hdg hb.2.2.1 hin (K _ hb.ast1 (rx_fr1 (by omega) (by omega)))
theorem bC.wr2 {k : Nat → Nat} {q n9 n1 : Nat} {o o1 : obv} {h h1 : hp} {f : Nat → Int32} (hb : bC k q o h) (ho : ((o.1.1, va_up o.1.2 2 f), o.2) = o1) (hu : (h1, n1) = (va_up h (q + 3) (some (rx_ia k 20 f)), n9)) : bC k q o1 h1 ∧ rx_fr [(q, 4)] h h1 ∧ n1 = n9 := by
  cases hu
  subst ho
  exact ⟨hb.ast2, rx_fr1 (by omega) (by omega), rfl⟩
theorem rx_aC2 (C : rx_C G k p m c cc own nL ret s args meth) {q : Nat} {o o1 : obv} {f : Nat → Int32} {i v : Int32} (hdg : decode cc pc = .ok (.iastore, 1)) (hb : bC k q o h) (hx : rx_ast 20 (o.1.2 2) i v = some f) (ho : ((o.1.1, va_up o.1.2 2 f), o.2) = o1) (K : ∀ h1, bC k q o1 h1 → rx_fr [(q, 4)] h h1 → rx_W p l e R s m args below meth c Q G k nL cells slots h1 n (pc + 1) L st) : rx_W p l e R s m args below meth c Q G k nL cells slots h n pc L (.int v :: .int i :: .ref (q + 3) :: st) := by
  obtain ⟨hin, rfl⟩ := rx_astE hx
  subst ho
  exact rx_iast C hdg hb.2.2.2.1 hin (K _ hb.ast2 (rx_fr1 (by omega) (by omega)))
theorem rx_pM2 (C : rx_C G k p m c cc own nL ret s args meth) {index q : Nat} {o o1 : ob} {v : Int32} (hF : rx_F own index 8 2) (hdg : decode cc pc = .ok (.putfield index, 3)) (hb : bM k q o h) (ho : (upd o.1 2 v, o.2) = o1) (K : ∀ h1, bM k q o1 h1 → rx_fr [(q, 3)] h h1 → rx_W p l e R s m args below meth c Q G k nL cells slots h1 n (pc + 3) L st) : rx_W p l e R s m args below meth c Q G k nL cells slots h n pc L (.int v :: .ref q :: st) := by
  subst ho
  exact rx_putf C hF t_L_2 hdg hb.1 (Nat.le_of_ble_eq_true rfl) rfl rfl (K _ hb.put2 (rx_fr1 (Nat.le_refl _) (by omega)))
theorem rx_pM2N (C : rx_C G k p m c cc own nL ret s args meth) {index q : Nat} {o o1 : ob} {v : Int32} (hF : rx_FN own index 8 2) (hdg : decode cc pc = .ok (.putfield index, 3)) (hb : bM k q o h) (ho : (upd o.1 2 v, o.2) = o1) (K : ∀ h1, bM k q o1 h1 → rx_fr [(q, 3)] h h1 → rx_W p l e R s m args below meth c Q G k nL cells slots h1 n (pc + 3) L st) : rx_W p l e R s m args below meth c Q G k nL cells slots h n pc L (.int v :: .ref q :: st) := by
  subst ho
  exact rx_putfN C hF t_L_2 hdg hb.1 (Nat.le_of_ble_eq_true rfl) rfl rfl (K _ hb.put2 (rx_fr1 (Nat.le_refl _) (by omega)))
theorem rx_pM3 (C : rx_C G k p m c cc own nL ret s args meth) {index q : Nat} {o o1 : ob} {v : Int32} (hF : rx_F own index 8 3) (hdg : decode cc pc = .ok (.putfield index, 3)) (hb : bM k q o h) (ho : (upd o.1 3 v, o.2) = o1) (K : ∀ h1, bM k q o1 h1 → rx_fr [(q, 3)] h h1 → rx_W p l e R s m args below meth c Q G k nL cells slots h1 n (pc + 3) L st) : rx_W p l e R s m args below meth c Q G k nL cells slots h n pc L (.int v :: .ref q :: st) := by
  subst ho
  exact rx_putf C hF t_L_3 hdg hb.1 (Nat.le_of_ble_eq_true rfl) rfl rfl (K _ hb.put3 (rx_fr1 (Nat.le_refl _) (by omega)))
theorem rx_pM3N (C : rx_C G k p m c cc own nL ret s args meth) {index q : Nat} {o o1 : ob} {v : Int32} (hF : rx_FN own index 8 3) (hdg : decode cc pc = .ok (.putfield index, 3)) (hb : bM k q o h) (ho : (upd o.1 3 v, o.2) = o1) (K : ∀ h1, bM k q o1 h1 → rx_fr [(q, 3)] h h1 → rx_W p l e R s m args below meth c Q G k nL cells slots h1 n (pc + 3) L st) : rx_W p l e R s m args below meth c Q G k nL cells slots h n pc L (.int v :: .ref q :: st) := by
  subst ho
  exact rx_putfN C hF t_L_3 hdg hb.1 (Nat.le_of_ble_eq_true rfl) rfl rfl (K _ hb.put3 (rx_fr1 (Nat.le_refl _) (by omega)))
theorem rx_pM4 (C : rx_C G k p m c cc own nL ret s args meth) {index q : Nat} {o o1 : ob} {v : Int32} (hF : rx_F own index 8 4) (hdg : decode cc pc = .ok (.putfield index, 3)) (hb : bM k q o h) (ho : (upd o.1 4 v, o.2) = o1) (K : ∀ h1, bM k q o1 h1 → rx_fr [(q, 3)] h h1 → rx_W p l e R s m args below meth c Q G k nL cells slots h1 n (pc + 3) L st) : rx_W p l e R s m args below meth c Q G k nL cells slots h n pc L (.int v :: .ref q :: st) := by
  subst ho
  exact rx_putf C hF t_L_4 hdg hb.1 (Nat.le_of_ble_eq_true rfl) rfl rfl (K _ hb.put4 (rx_fr1 (Nat.le_refl _) (by omega)))
theorem rx_pM4N (C : rx_C G k p m c cc own nL ret s args meth) {index q : Nat} {o o1 : ob} {v : Int32} (hF : rx_FN own index 8 4) (hdg : decode cc pc = .ok (.putfield index, 3)) (hb : bM k q o h) (ho : (upd o.1 4 v, o.2) = o1) (K : ∀ h1, bM k q o1 h1 → rx_fr [(q, 3)] h h1 → rx_W p l e R s m args below meth c Q G k nL cells slots h1 n (pc + 3) L st) : rx_W p l e R s m args below meth c Q G k nL cells slots h n pc L (.int v :: .ref q :: st) := by
  subst ho
  exact rx_putfN C hF t_L_4 hdg hb.1 (Nat.le_of_ble_eq_true rfl) rfl rfl (K _ hb.put4 (rx_fr1 (Nat.le_refl _) (by omega)))
theorem bM.wr0 {k : Nat → Nat} {q n9 n1 : Nat} {o o1 : ob} {h h1 : hp} {f : Nat → Int32} (hb : bM k q o h) (ho : (o.1, va_up o.2 0 f) = o1) (hu : (h1, n1) = (va_up h (q + 1) (some (rx_ia k 500 f)), n9)) : bM k q o1 h1 ∧ rx_fr [(q, 3)] h h1 ∧ n1 = n9 := by
  cases hu
  subst ho
  exact ⟨hb.ast0, rx_fr1 (by omega) (by omega), rfl⟩
theorem rx_aM0 (C : rx_C G k p m c cc own nL ret s args meth) {q : Nat} {o o1 : ob} {f : Nat → Int32} {i v : Int32} (hdg : decode cc pc = .ok (.iastore, 1)) (hb : bM k q o h) (hx : rx_ast 500 (o.2 0) i v = some f) (ho : (o.1, va_up o.2 0 f) = o1) (K : ∀ h1, bM k q o1 h1 → rx_fr [(q, 3)] h h1 → rx_W p l e R s m args below meth c Q G k nL cells slots h1 n (pc + 1) L st) : rx_W p l e R s m args below meth c Q G k nL cells slots h n pc L (.int v :: .int i :: .ref (q + 1) :: st) := by
  obtain ⟨hin, rfl⟩ := rx_astE hx
  subst ho
  exact rx_iast C hdg hb.2.1 hin (K _ hb.ast0 (rx_fr1 (by omega) (by omega)))
theorem bM.wr1 {k : Nat → Nat} {q n9 n1 : Nat} {o o1 : ob} {h h1 : hp} {f : Nat → Int32} (hb : bM k q o h) (ho : (o.1, va_up o.2 1 f) = o1) (hu : (h1, n1) = (va_up h (q + 2) (some (rx_ia k 5 f)), n9)) : bM k q o1 h1 ∧ rx_fr [(q, 3)] h h1 ∧ n1 = n9 := by
  cases hu
  subst ho
  exact ⟨hb.ast1, rx_fr1 (by omega) (by omega), rfl⟩
theorem rx_aM1 (C : rx_C G k p m c cc own nL ret s args meth) {q : Nat} {o o1 : ob} {f : Nat → Int32} {i v : Int32} (hdg : decode cc pc = .ok (.iastore, 1)) (hb : bM k q o h) (hx : rx_ast 5 (o.2 1) i v = some f) (ho : (o.1, va_up o.2 1 f) = o1) (K : ∀ h1, bM k q o1 h1 → rx_fr [(q, 3)] h h1 → rx_W p l e R s m args below meth c Q G k nL cells slots h1 n (pc + 1) L st) : rx_W p l e R s m args below meth c Q G k nL cells slots h n pc L (.int v :: .int i :: .ref (q + 2) :: st) := by
  obtain ⟨hin, rfl⟩ := rx_astE hx
  subst ho
  exact rx_iast C hdg hb.2.2 hin (K _ hb.ast1 (rx_fr1 (by omega) (by omega)))
theorem rx_pB9 (C : rx_C G k p m c cc own nL ret s args meth) {index q : Nat} {o o1 : ob} {v : Int32} (hF : rx_F own index 7 9) (hdg : decode cc pc = .ok (.putfield index, 3)) (hb : bB k q o h) (ho : (upd o.1 9 v, o.2) = o1) (K : ∀ h1, bB k q o1 h1 → rx_fr [(q, 1)] h h1 → rx_W p l e R s m args below meth c Q G k nL cells slots h1 n (pc + 3) L st) : rx_W p l e R s m args below meth c Q G k nL cells slots h n pc L (.int v :: .ref q :: st) := by
  subst ho
  exact rx_putf C hF t_X8_9 hdg hb (Nat.le_of_ble_eq_true rfl) rfl rfl (K _ hb.put9 (rx_fr1 (Nat.le_refl _) (by omega)))
theorem rx_pB9N (C : rx_C G k p m c cc own nL ret s args meth) {index q : Nat} {o o1 : ob} {v : Int32} (hF : rx_FN own index 7 9) (hdg : decode cc pc = .ok (.putfield index, 3)) (hb : bB k q o h) (ho : (upd o.1 9 v, o.2) = o1) (K : ∀ h1, bB k q o1 h1 → rx_fr [(q, 1)] h h1 → rx_W p l e R s m args below meth c Q G k nL cells slots h1 n (pc + 3) L st) : rx_W p l e R s m args below meth c Q G k nL cells slots h n pc L (.int v :: .ref q :: st) := by
  subst ho
  exact rx_putfN C hF t_X8_9 hdg hb (Nat.le_of_ble_eq_true rfl) rfl rfl (K _ hb.put9 (rx_fr1 (Nat.le_refl _) (by omega)))
theorem rx_pB10 (C : rx_C G k p m c cc own nL ret s args meth) {index q : Nat} {o o1 : ob} {v : Int32} (hF : rx_F own index 7 10) (hdg : decode cc pc = .ok (.putfield index, 3)) (hb : bB k q o h) (ho : (upd o.1 10 v, o.2) = o1) (hz : v = 0 ∨ v = 1) (K : ∀ h1, bB k q o1 h1 → rx_fr [(q, 1)] h h1 → rx_W p l e R s m args below meth c Q G k nL cells slots h1 n (pc + 3) L st) : rx_W p l e R s m args below meth c Q G k nL cells slots h n pc L (.int v :: .ref q :: st) := by
  subst ho
  exact rx_putf C hF t_X8_10 hdg hb (Nat.le_of_ble_eq_true rfl) (rx_nz hz) (rx_fz hz) (K _ hb.put10 (rx_fr1 (Nat.le_refl _) (by omega)))
theorem rx_pB10N (C : rx_C G k p m c cc own nL ret s args meth) {index q : Nat} {o o1 : ob} {v : Int32} (hF : rx_FN own index 7 10) (hdg : decode cc pc = .ok (.putfield index, 3)) (hb : bB k q o h) (ho : (upd o.1 10 v, o.2) = o1) (hz : v = 0 ∨ v = 1) (K : ∀ h1, bB k q o1 h1 → rx_fr [(q, 1)] h h1 → rx_W p l e R s m args below meth c Q G k nL cells slots h1 n (pc + 3) L st) : rx_W p l e R s m args below meth c Q G k nL cells slots h n pc L (.int v :: .ref q :: st) := by
  subst ho
  exact rx_putfN C hF t_X8_10 hdg hb (Nat.le_of_ble_eq_true rfl) (rx_nz hz) (rx_fz hz) (K _ hb.put10 (rx_fr1 (Nat.le_refl _) (by omega)))
theorem bO.wr0 {k : Nat → Nat} {q n9 n1 : Nat} {o o1 : ob} {h h1 : hp} {f : Nat → Int32} (hb : bO k q o h) (ho : (o.1, va_up o.2 0 f) = o1) (hu : (h1, n1) = (va_up h q (some (rx_ia k 64 f)), n9)) : bO k q o1 h1 ∧ rx_fr [(q, 1)] h h1 ∧ n1 = n9 := by
  cases hu
  subst ho
  exact ⟨hb.ast0, rx_fr1 (Nat.le_refl _) (by omega), rfl⟩
theorem rx_aO0 (C : rx_C G k p m c cc own nL ret s args meth) {q : Nat} {o o1 : ob} {f : Nat → Int32} {i v : Int32} (hdg : decode cc pc = .ok (.iastore, 1)) (hb : bO k q o h) (hx : rx_ast 64 (o.2 0) i v = some f) (ho : (o.1, va_up o.2 0 f) = o1) (K : ∀ h1, bO k q o1 h1 → rx_fr [(q, 1)] h h1 → rx_W p l e R s m args below meth c Q G k nL cells slots h1 n (pc + 1) L st) : rx_W p l e R s m args below meth c Q G k nL cells slots h n pc L (.int v :: .int i :: .ref q :: st) := by
  obtain ⟨hin, rfl⟩ := rx_astE hx
  subst ho
  exact rx_iast C hdg hb hin (K _ hb.ast0 (rx_fr1 (Nat.le_refl _) (by omega)))
theorem rx_aldF (C : rx_C G k p m c cc own nL ret s args meth) {a len : Nat} {f : Nat → Int32} {i x : Int32} (hdg : decode cc pc = .ok (.iaload, 1)) (hh : h a = some (rx_ia k len f)) (hx : rx_ald len f i = some x)
    (K : rx_W p l e R s m args below meth c Q G k nL cells slots h n (pc + 1) L (.int x :: st)) : rx_W p l e R s m args below meth c Q G k nL cells slots h n pc L (.int i :: .ref a :: st) := by
  obtain ⟨hin, rfl⟩ := rx_aldE hx
  exact rx_iald C hdg hh hin K
theorem rx_idivF (C : rx_C G k p m c cc own nL ret s args meth) {x y z : Int32} (hdg : decode cc pc = .ok (.idiv, 1)) (hx : rx_div x y = some z) (K : rx_W p l e R s m args below meth c Q G k nL cells slots h n (pc + 1) L (.int z :: st)) : rx_W p l e R s m args below meth c Q G k nL cells slots h n pc L (.int y :: .int x :: st) := by
  obtain ⟨hn, rfl⟩ := rx_divE hx
  exact rx_idiv C hdg hn K
theorem rx_iremF (C : rx_C G k p m c cc own nL ret s args meth) {x y z : Int32} (hdg : decode cc pc = .ok (.irem, 1)) (hx : rx_rem x y = some z) (K : rx_W p l e R s m args below meth c Q G k nL cells slots h n (pc + 1) L (.int z :: st)) : rx_W p l e R s m args below meth c Q G k nL cells slots h n pc L (.int y :: .int x :: st) := by
  obtain ⟨hn, rfl⟩ := rx_remE hx
  exact rx_irem C hdg hn K
/-- fewer locals, in another order -/
theorem rx_sub {L2 : List (Nat × Value)} (ks : List Nat) (hl : lv_pick L ks = L2) (K : rx_W p l e R s m args below meth c Q G k nL cells slots h n pc L2 st) : rx_W p l e R s m args below meth c Q G k nL cells slots h n pc L st := fun H locs ls hP hS hl0 => K H locs ls hP hS (lv_sub hl0 ks hl)
def rx_vld (f : Nat → Option Nat) (i : Int32) : Option (Option Nat) := if 0 ≤ i ∧ i.toNatClampNeg < 20 then some (f i.toNatClampNeg) else none
def rx_vst (f : Nat → Option Nat) (i : Int32) (z : Nat) : Option (Nat → Option Nat) := if 0 ≤ i ∧ i.toNatClampNeg < 20 then some (va_up f i.toNatClampNeg (some z)) else none
theorem rx_vald (C : rx_C G k p m c cc own nL ret s args meth) {q : Nat} {o : obv} {i : Int32} {y : Option Nat} (hdg : decode cc pc = .ok (.aaload, 1)) (hb : bC k q o h) (hx : rx_vld o.2 i = some y)
    (K : rx_W p l e R s m args below meth c Q G k nL cells slots h n (pc + 1) L (va_rf (y.map (fun z => k (10 + z))) :: st)) : rx_W p l e R s m args below meth c Q G k nL cells slots h n pc L (.int i :: .ref (q + 1) :: st) := by
  unfold rx_vld at hx
  split at hx
  · rename_i hi
    cases hx
    exact rx_qaldV C hdg hb.2.1 (rx_vin hi) K
  · cases hx
theorem rx_vast (C : rx_C G k p m c cc own nL ret s args meth) {q z : Nat} {o o1 : obv} {i : Int32} {f : Nat → Option Nat} (hdg : decode cc pc = .ok (.aastore, 1)) (hb : bC k q o h) (hz : z < 9) (hx : rx_vst o.2 i z = some f) (ho : (o.1, f) = o1)
    (K : ∀ h1, bC k q o1 h1 → rx_fr [(q, 4)] h h1 → rx_W p l e R s m args below meth c Q G k nL cells slots h1 n (pc + 1) L st) : rx_W p l e R s m args below meth c Q G k nL cells slots h n pc L (.ref (k (10 + z)) :: .int i :: .ref (q + 1) :: st) := by
  unfold rx_vst at hx
  split at hx
  · rename_i hi
    cases hx
    subst ho
    exact rx_qastV C hdg hb.2.1 hz (rx_vin hi) ⟨_, (C.2.2.2.2.2.2.2.1.1.1 6 (RX7, TX7, 0) rfl).2⟩ (K _ (hb.vst hz) (rx_fr1 (by omega) (by omega)))
  · cases hx
theorem rx_vldE {q : Nat} {o : obv} {i : Int32} {y : Option Nat} (hb : bC k q o h) (hx : rx_vld o.2 i = some y) : ∀ z, y = some z → z < 9 := fun z hz => by
  unfold rx_vld at hx
  split at hx
  · cases hx
    exact hb.2.2.2.2 _ _ hz
  · cases hx
def rx_vix (i : Int32) : Option Nat := if 0 ≤ i ∧ i.toNatClampNeg < 9 then some i.toNatClampNeg else none
theorem rx_vixE {i : Int32} {z : Nat} (hx : rx_vix i = some z) : z < 9 := by
  unfold rx_vix at hx
  split at hx
  · rename_i hi
    cases hx
    exact hi.2
  · cases hx
end RXP
