def st0 (y8 : ob × ob × ob × ob) (y9 : ob) : lst := (ob0, obt0, ob0, y8.1, y8.2.1, y8.2.2.1, y8.2.2.2, ob0, ob0, ob0, ob0, ob0, ob0, hst0, obv0, ob0, y9, fun _ => 0)

set_option maxRecDepth 100000 in
set_option maxHeartbeats 8000000 in
theorem whole_open {Inv : Nat → lst → Prop} {y8 : ob × ob × ob × ob} {y9 : ob} (h8 : F_X8_init_seg ob0 ob0 ob0 ob0 ob0 = some y8) (h9 : F_X9_init_seg om0 = some y9) (h0 : Inv 0 (st0 y8 y9))
    (hstep : ∀ (j : Nat) (st : lst) (a0 a1 a2 a3 a4 a5 : Int32), j < 512 → Inv j st → ∃ st2, F_step st a0 a1 a2 a3 a4 a5 = some st2 ∧ Inv (j + 1) st2)
    {p : Program} {e : Env} {s : State} {m : MethodId} {below : List Frame} {meth : Method} {c : Code} (l : Launch) (hflags : l.flags = flags0) {sc len : Nat} {xs : Nat → Int32} (hL : len ≤ 3072) (C0 : lw_At p s m meth c sc len xs) : W p l e room_1 s m #[Value.ref sc] below meth c s.heap [] 0 0 (lw_Z below #[Value.ref sc] s) (entryFrame m ([Value.ref sc] : List Value).toArray 9) := by
  obtain ⟨hx, hb, hr, hml, hown, hts, hX, hbl, hlocks, hgv⟩ := id C0
  obtain ⟨G, k, hk0, hV, hT, hS0, hN⟩ := su_all hgv hts
  have C : rx_C G k p m c cL_law RL 9 ret s #[Value.ref sc] meth := ⟨hx, hb, hown, fun w hw => hts w (List.mem_filter.mp hw).1, hml, hr, hlocks, hV, hT, hS0⟩
  have hst : l.stackTraces = false := by
    unfold Launch.stackTraces
    rw [hflags]
    decide
  have hbA : ¬ k 0 ≤ sc := by rw [hk0]; omega
  have KE : ∀ (hh : hp) (n1 : Nat) (L : List (Nat × Value)), rx_W p l e room_1 s m #[Value.ref sc] below meth c (lw_Z below #[Value.ref sc] s) G k 9 601024 7293034 hh n1 3132 L [] := by
    intro hh n1 L
    refine rx_iconst C dL_law_3132 (1 : Int32) (by decide) ?_
    intro H locs ls hP hS hl
    refine va_forget (fun q hq => by have := hS.2.2 q hq; rw [hk0] at this; exact this) ?_
    exact lw_ret (d0 := s.drawn) (Drawn.sameBut.refl s.drawn lw_cs) hx hb hr hlocks dL_law_3133
  have key : rx_W p l e room_1 s m #[Value.ref sc] below meth c (lw_Z below #[Value.ref sc] s) G k 9 0 0 (fun _ => none) s.heap.size 0 [(0, .ref sc)] [] := by
    clear C0
    generalize hn0 : s.heap.size = n0
    refine rx_new2 C N_L_8 dL_law_0 (Nat.le_of_ble_eq_true rfl) (Nat.le_of_ble_eq_true rfl) (fun h1 e_b ff => ?_)
    refine rx_dup C dL_law_3 rfl ?_
    refine rx_cv (rx_rI C (w_X8_init h8 e_b) Y_X8_init I_X8_init rfl m_L_133 ⟨⟨rfl, rfl⟩, ⟨(Nat.le_of_ble_eq_true rfl), (Nat.le_of_ble_eq_true rfl)⟩, ⟨(Nat.le_of_ble_eq_true rfl), (Nat.le_of_ble_eq_true rfl)⟩⟩ rfl rfl (Nat.le_of_ble_eq_true rfl) dL_law_4) (fun h2 n2 hpp => ?_)
    obtain ⟨hn, b_B, b_t, b_d, b_s, b_p, b_w, b_e, b_fp, b_fw, b_fe, b_np, b_nw, b_ne, b_H, b_c, b_O, ff2⟩ := hpp
    replace hn : n0 + 204 = n2 := Eq.symm hn
    subst hn
    clear ff2 ff e_b
    refine rx_astore_n C dL_law_7 (by decide) [(1, .ref n0), (0, .ref sc)] rfl ?_
    refine rx_new2 C N_L_134 dL_law_8 (Nat.le_of_ble_eq_true rfl) (Nat.le_of_ble_eq_true rfl) (fun h3 e_m ff => ?_)
    replace b_B := b_B.keep ff ⟨by omega, trivial⟩
    replace b_t := b_t.keep ff ⟨by omega, trivial⟩
    replace b_d := b_d.keep ff ⟨by omega, trivial⟩
    replace b_s := b_s.keep ff ⟨by omega, trivial⟩
    replace b_p := b_p.keep ff ⟨by omega, trivial⟩
    replace b_w := b_w.keep ff ⟨by omega, trivial⟩
    replace b_e := b_e.keep ff ⟨by omega, trivial⟩
    replace b_fp := b_fp.keep ff ⟨by omega, trivial⟩
    replace b_fw := b_fw.keep ff ⟨by omega, trivial⟩
    replace b_fe := b_fe.keep ff ⟨by omega, trivial⟩
    replace b_np := b_np.keep ff ⟨by omega, trivial⟩
    replace b_nw := b_nw.keep ff ⟨by omega, trivial⟩
    replace b_ne := b_ne.keep ff ⟨by omega, trivial⟩
    replace b_H := b_H.keep ff ⟨by omega, trivial⟩
    replace b_c := b_c.keep ff ⟨by omega, trivial⟩
    replace b_O := b_O.keep ff ⟨by omega, trivial⟩
    refine rx_dup C dL_law_11 rfl ?_
    refine rx_cv (rx_rI C (w_X9_init (q := n0 + 204) h9 e_m) Y_X9_init I_X9_init rfl m_L_136 ⟨⟨rfl, rfl⟩, ⟨(Nat.le_of_ble_eq_true rfl), (Nat.le_of_ble_eq_true rfl)⟩, ⟨(Nat.le_of_ble_eq_true rfl), (Nat.le_of_ble_eq_true rfl)⟩⟩ rfl rfl (Nat.le_of_ble_eq_true rfl) dL_law_12) (fun h4 n4 hpp => ?_)
    obtain ⟨hn, b_m, ff2⟩ := hpp
    replace hn : n0 + 204 + 9 = n4 := Eq.symm hn
    subst hn
    replace ff2 : rx_fr [(n0 + 204, 9)] h3 h4 := ff2
    replace b_B := b_B.keep ff2 ⟨by omega, trivial⟩
    replace b_t := b_t.keep ff2 ⟨by omega, trivial⟩
    replace b_d := b_d.keep ff2 ⟨by omega, trivial⟩
    replace b_s := b_s.keep ff2 ⟨by omega, trivial⟩
    replace b_p := b_p.keep ff2 ⟨by omega, trivial⟩
    replace b_w := b_w.keep ff2 ⟨by omega, trivial⟩
    replace b_e := b_e.keep ff2 ⟨by omega, trivial⟩
    replace b_fp := b_fp.keep ff2 ⟨by omega, trivial⟩
    replace b_fw := b_fw.keep ff2 ⟨by omega, trivial⟩
    replace b_fe := b_fe.keep ff2 ⟨by omega, trivial⟩
    replace b_np := b_np.keep ff2 ⟨by omega, trivial⟩
    replace b_nw := b_nw.keep ff2 ⟨by omega, trivial⟩
    replace b_ne := b_ne.keep ff2 ⟨by omega, trivial⟩
    replace b_H := b_H.keep ff2 ⟨by omega, trivial⟩
    replace b_c := b_c.keep ff2 ⟨by omega, trivial⟩
    replace b_O := b_O.keep ff2 ⟨by omega, trivial⟩
    clear ff ff2 e_m
    refine rx_astore_n C dL_law_15 (by decide) [(2, .ref (n0 + 204)), (1, .ref n0), (0, .ref sc)] rfl ?_
    refine rx_iconst C dL_law_16 (1 : Int32) (by decide) ?_
    refine rx_newl2 C 1 dL_law_17 (by decide) (by decide) (by decide) (Nat.le_of_ble_eq_true rfl) (Nat.le_of_ble_eq_true rfl) (fun h5 b_L ff => ?_)
    replace b_B := b_B.keep ff ⟨by omega, trivial⟩
    replace b_t := b_t.keep ff ⟨by omega, trivial⟩
    replace b_d := b_d.keep ff ⟨by omega, trivial⟩
    replace b_s := b_s.keep ff ⟨by omega, trivial⟩
    replace b_p := b_p.keep ff ⟨by omega, trivial⟩
    replace b_w := b_w.keep ff ⟨by omega, trivial⟩
    replace b_e := b_e.keep ff ⟨by omega, trivial⟩
    replace b_fp := b_fp.keep ff ⟨by omega, trivial⟩
    replace b_fw := b_fw.keep ff ⟨by omega, trivial⟩
    replace b_fe := b_fe.keep ff ⟨by omega, trivial⟩
    replace b_np := b_np.keep ff ⟨by omega, trivial⟩
    replace b_nw := b_nw.keep ff ⟨by omega, trivial⟩
    replace b_ne := b_ne.keep ff ⟨by omega, trivial⟩
    replace b_H := b_H.keep ff ⟨by omega, trivial⟩
    replace b_c := b_c.keep ff ⟨by omega, trivial⟩
    replace b_O := b_O.keep ff ⟨by omega, trivial⟩
    replace b_m := b_m.keep ff ⟨by omega, trivial⟩
    refine rx_astore_n C dL_law_19 (by decide) [(3, .ref (n0 + 213)), (2, .ref (n0 + 204)), (1, .ref n0), (0, .ref sc)] rfl ?_
    refine rx_iconst C dL_law_20 (0 : Int32) (by decide) ?_
    refine rx_istore C dL_law_21 (by decide) [(4, .int 0), (3, .ref (n0 + 213)), (2, .ref (n0 + 204)), (1, .ref n0), (0, .ref sc)] rfl ?_
    refine rx_sub [4, 3, 2, 1, 0] rfl ?_
    refine rx_wide 300 6000 (Nat.le_of_ble_eq_true rfl) (Nat.le_of_ble_eq_true rfl) ?_
    exact law_loop hstep hst C hN hX hbl hbA hL KE 513 0 (st0 y8 y9) h5 _ rfl h0 ⟨b_B, b_t, b_d, b_s, b_p, b_w, b_e, b_fp, b_fw, b_fe, b_np, b_nw, b_ne, b_H, b_c, b_O, b_m, b_L⟩
  have hl := lv_entry ([.ref sc]) (n := 9) (Nat.le_of_ble_eq_true rfl)
  rw [lg_entry_eq]
  exact key s.heap [] _ ⟨rfl, Nat.le_of_eq hk0, fun a x h => by cases h⟩ va_S.rf hl
