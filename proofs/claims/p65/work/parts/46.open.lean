theorem rx_wide {p : Program} {l : Launch} {e : Env} {R : Room} {s : State} {m : MethodId} {args : Array Value} {below : List Frame} {meth : Method} {c : Code} {Q : State → Prop} {G : va_G} {k : Nat → Nat} {nL : Nat} {cells slots : Nat} {h : hp} {n pc : Nat} {L : List (Nat × Value)} {st : List Value} (mc ms : Nat) (h1 : cells ≤ mc) (h2 : slots ≤ ms) (K : rx_W p l e R s m args below meth c Q G k nL mc ms h n pc L st) : rx_W p l e R s m args below meth c Q G k nL cells slots h n pc L st := fun H locs ls hP hS hl => W.widen h1 h2 (K H locs ls hP hS hl)
set_option maxRecDepth 100000 in
set_option maxHeartbeats 8000000 in
theorem whole_open {y8 : ob × ob × ob × ob} (h8 : F_X8_init_seg ob0 ob0 ob0 ob0 ob0 = some y8) (hall : ∀ k : Nat → Nat, F_law_seg k ob0 ob0 obt0 ob0 y8.1 y8.2.1 y8.2.2.1 y8.2.2.2 hst0 = some 1)
    {p : Program} {e : Env} {s : State} {m : MethodId} {below : List Frame} {meth : Method} {c : Code} (l : Launch) {sc len : Nat} {xs : Nat → Int32} (hL : len ≤ 260) (C0 : lw_At p s m meth c sc len xs) : W p l e room_1 s m #[Value.ref sc] below meth c s.heap [] 0 0 (lw_Z below #[Value.ref sc] s) (entryFrame m ([Value.ref sc] : List Value).toArray 8) := by
  obtain ⟨hx, hb, hr, hml, hown, hts, hX, hbl, hlocks, hgv⟩ := id C0
  obtain ⟨G, k, hk0, hk7, hV, hT, hS0⟩ := su_all hgv hts hL hX hbl
  have C : rx_C G k p m c cL_law RL 8 ret s #[Value.ref sc] meth := ⟨hx, hb, hown, fun w hw => hts w (List.mem_filter.mp hw).1, hml, hr, hlocks, hV, hT, hS0⟩
  have KE : ∀ (hh : hp) (n1 : Nat) (L : List (Nat × Value)), rx_W p l e room_1 s m #[Value.ref sc] below meth c (lw_Z below #[Value.ref sc] s) G k 8 600086 7301442 hh n1 132 L [.int (1 : Int32)] := by
    intro hh n1 L
    intro H locs ls hP hS hl
    refine va_forget (fun q hq => by have := hS.2.2 q hq; rw [hk0] at this; exact this) ?_
    exact lw_ret hx hb hr hlocks dL_law_132
  have key : rx_W p l e room_1 s m #[Value.ref sc] below meth c (lw_Z below #[Value.ref sc] s) G k 8 0 0 (fun _ => none) s.heap.size 0 [(0, .ref sc)] [] := by
    clear C0
    generalize hn0 : s.heap.size = n0
    refine rx_new2 C N_L_8 dL_law_0 (Nat.le_of_ble_eq_true rfl) (Nat.le_of_ble_eq_true rfl) (fun h1 e_m ff => ?_)
    refine rx_dup C dL_law_3 rfl ?_
    refine rx_cv (rx_rI C (w_L_init e_m) Y_L_init I_L_init rfl m_L_148 ⟨⟨rfl, rfl⟩, ⟨(Nat.le_of_ble_eq_true rfl), (Nat.le_of_ble_eq_true rfl)⟩, ⟨(Nat.le_of_ble_eq_true rfl), (Nat.le_of_ble_eq_true rfl)⟩⟩ rfl rfl (Nat.le_of_ble_eq_true rfl) dL_law_4) (fun h2 n2 hpp => ?_)
    obtain ⟨hn, b_m, ff2⟩ := hpp
    replace hn : n0 + 3 = n2 := Eq.symm hn
    subst hn
    clear ff2 ff e_m
    refine rx_astore_n C dL_law_7 (by decide) [(1, .ref n0), (0, .ref sc)] rfl ?_
    refine rx_new2 C N_L_36 dL_law_8 (Nat.le_of_ble_eq_true rfl) (Nat.le_of_ble_eq_true rfl) (fun h3 e_b ff => ?_)
    replace b_m := b_m.keep ff ⟨by omega, trivial⟩
    refine rx_dup C dL_law_11 rfl ?_
    refine rx_cv (rx_rI C (w_X8_init (q := n0 + 3) h8 e_b) Y_X8_init I_X8_init rfl m_L_149 ⟨⟨rfl, rfl⟩, ⟨(Nat.le_of_ble_eq_true rfl), (Nat.le_of_ble_eq_true rfl)⟩, ⟨(Nat.le_of_ble_eq_true rfl), (Nat.le_of_ble_eq_true rfl)⟩⟩ rfl rfl (Nat.le_of_ble_eq_true rfl) dL_law_12) (fun h4 n4 hpp => ?_)
    obtain ⟨hn, b_B, b_t, b_d, b_s, b_p, b_w, b_e, b_fp, b_fw, b_fe, b_np, b_nw, b_ne, b_H, b_c, b_O, ff2⟩ := hpp
    replace hn : n0 + 3 + 204 = n4 := Eq.symm hn
    subst hn
    replace ff2 : rx_fr [(n0 + 3, 204)] h3 h4 := ff2
    replace b_m := b_m.keep ff2 ⟨by omega, trivial⟩
    clear ff ff2 e_b
    refine rx_astore_n C dL_law_15 (by decide) [(2, .ref (n0 + 3)), (1, .ref n0), (0, .ref sc)] rfl ?_
    refine rx_sub [2, 1, 0] rfl ?_
    refine rx_wide 600086 7301442 (Nat.le_of_ble_eq_true rfl) (Nat.le_of_ble_eq_true rfl) ?_
    have hA := hall k
    have h9 := w_law_seg (n := n0 + 3 + 204) (m := n0) (b := n0 + 3) rfl hA C b_m b_B b_t b_d b_s b_p b_w b_e b_H (by omega) KE
    rw [hk7] at h9
    exact h9
  have hl := lv_entry ([.ref sc]) (n := 8) (Nat.le_of_ble_eq_true rfl)
  rw [lg_entry_eq]
  exact key s.heap [] _ ⟨rfl, Nat.le_of_eq hk0, fun a x h => by cases h⟩ va_S.rf hl
