/-! The start's picture: the numbers k, and all that stays. -/
def kf (n0 c1 c2 c3 c4 aW sc ln : Nat) (vz aK aV ax : Nat → Nat) : Nat → Nat := fun i =>
  if i = 0 then n0 else if i = 1 then c1 else if i = 2 then c2 else if i = 3 then c3 else if i = 4 then c4 else if i = 6 then aW else if i = 7 then sc else if i = 8 then ln else if i < 10 then 0 else if i < 100 then vz (i - 10) else if i < 200 then aK (i - 100) else if i < 1000 then aV (i - 200) else ax (i - 1000)
theorem kf_v {n0 c1 c2 c3 c4 aW sc ln : Nat} {vz aK aV ax : Nat → Nat} {i : Nat} (h : i < 90) : kf n0 c1 c2 c3 c4 aW sc ln vz aK aV ax (10 + i) = vz i := by
  unfold kf
  rw [if_neg (by omega), if_neg (by omega), if_neg (by omega), if_neg (by omega), if_neg (by omega), if_neg (by omega), if_neg (by omega), if_neg (by omega), if_neg (by omega), if_pos (by omega), show 10 + i - 10 = i by omega]
theorem kf_K {n0 c1 c2 c3 c4 aW sc ln : Nat} {vz aK aV ax : Nat → Nat} {i : Nat} (h : i < 100) : kf n0 c1 c2 c3 c4 aW sc ln vz aK aV ax (100 + i) = aK i := by
  unfold kf
  rw [if_neg (by omega), if_neg (by omega), if_neg (by omega), if_neg (by omega), if_neg (by omega), if_neg (by omega), if_neg (by omega), if_neg (by omega), if_neg (by omega), if_neg (by omega), if_pos (by omega), show 100 + i - 100 = i by omega]
theorem kf_V {n0 c1 c2 c3 c4 aW sc ln : Nat} {vz aK aV ax : Nat → Nat} {i : Nat} (h : i < 100) : kf n0 c1 c2 c3 c4 aW sc ln vz aK aV ax (200 + i) = aV i := by
  unfold kf
  rw [if_neg (by omega), if_neg (by omega), if_neg (by omega), if_neg (by omega), if_neg (by omega), if_neg (by omega), if_neg (by omega), if_neg (by omega), if_neg (by omega), if_neg (by omega), if_neg (by omega), if_pos (by omega), show 200 + i - 200 = i by omega]
theorem kf_x {n0 c1 c2 c3 c4 aW sc ln : Nat} {vz aK aV ax : Nat → Nat} {i : Nat} : kf n0 c1 c2 c3 c4 aW sc ln vz aK aV ax (1000 + i) = ax i := by
  unfold kf
  rw [if_neg (by omega), if_neg (by omega), if_neg (by omega), if_neg (by omega), if_neg (by omega), if_neg (by omega), if_neg (by omega), if_neg (by omega), if_neg (by omega), if_neg (by omega), if_neg (by omega), if_neg (by omega), show 1000 + i - 1000 = i by omega]
theorem nI_back (x : Int32) : nI x.toBitVec.toNat = x := by
  apply Int32.toBitVec_inj.mp
  show (Int32.ofNat x.toBitVec.toNat).toBitVec = _
  simp
section SETUP
variable {s : State} {b : Nat}
/-- the texts -/
theorem su_texts (hg : (Cond.and given_1 narrow_1).before #[Value.ref b] s = true) {A : Nat → Prop} (hA : ∀ a : Nat, a < s.heap.size → ¬ A a) :
    ∃ aK aV : Nat → Nat, vk_S 14 rx_len rx_byt aK aV A s s.heap ∧ ∀ i : Nat, i < 14 → (gs_t i).eval #[Value.ref b] s none [] s = some (.ref (aK i)) := by
  have h0 : ∀ i : Nat, ∃ q : Nat × Nat, i < 14 → (gs_t i).eval #[Value.ref b] s none [] s = some (.ref q.1) ∧ va_O "java/lang/String" q.1 A s s.heap ∧ va_OF "java/lang/String" "coder" "B" (.int 0) q.1 A s s.heap ∧ va_OF "java/lang/String" "value" "[B" (.ref q.2) q.1 A s s.heap ∧ va_T .byte q.2 (rx_len.getD i 0) (fun j => .int ((rx_byt.getD i []).getD j 0)) A s s.heap := by
    intro i
    by_cases hi : i < 14
    · obtain ⟨a, c, cA, kA, q1, -⟩ := Cond.exactly_spec (args := #[Value.ref b]) (first := s) (o := none) (s := s) (idx := []) (t := gs_t i) (cls := "java/lang/String") (gv_of hg _ (gs_ex i hi))
      obtain ⟨t, ht, hT⟩ := va_Tof (f := fun j => .int ((rx_byt.getD i []).getD j 0)) (A := A) (gs_lt i hi) (gv_of hg _ (gs_ar i hi)) (va_eqt (gv_of hg _ (gs_le i hi))) (fun j hj => va_eqt (gv_of hg _ (gs_el i hi j hj))) hA
      exact ⟨(a, t), fun _ => ⟨q1, va_Oof (gv_of hg _ (gs_ex i hi)) q1 hA, vk_OFof q1 (va_eqt (gv_of hg _ (gs_co i hi))) hA, vk_OFof q1 ht hA, hT⟩⟩
    · exact ⟨(0, 0), fun h => absurd h hi⟩
  obtain ⟨ad, had⟩ := Classical.axiomOfChoice h0
  refine ⟨fun i => (ad i).1, fun i => (ad i).2, ⟨fun i hi => (had i hi).2, fun i j hi hj e => ?_⟩, fun i hi => (had i hi).1⟩
  by_cases hij : i = j
  · exact hij
  exfalso
  obtain ⟨-, -, -, v1, t1⟩ := had i hi
  obtain ⟨-, -, -, v2, t2⟩ := had j hj
  have e : (ad i).1 = (ad j).1 := e
  rw [← e] at v2
  obtain ⟨cf, k1, i1, f1, cl1, a1, a2, a3, a4, a5, a6⟩ := v1
  obtain ⟨cf', k1', i1', f1', cl1', b1, b2, b3, b4, b5, b6⟩ := v2
  cases a1.symm.trans b1
  cases a3.symm.trans b3
  have e2 : (ad i).2 = (ad j).2 := by
    exact (Value.ref.inj (Option.some.inj (a5.symm.trans b5)))
  rw [← e2] at t2
  obtain ⟨c1, d1, d2, d3, d4, d5, d6, d7⟩ := t1
  obtain ⟨c2, g1, g2, g3, g4, g5, g6, g7⟩ := t2
  cases d1.symm.trans g1
  have hl : rx_len.getD i 0 = rx_len.getD j 0 := by
    have h1 : nI (rx_len.getD i 0) = nI (rx_len.getD j 0) := d5.symm.trans g5
    exact (nI_eq (gs_lt i hi) (gs_lt j hj)).mp h1
  obtain ⟨q, hq, hne⟩ := gs_ne i hi j hj hij hl
  have h1 := d6 q hq
  have h2 := g6 q (by rw [← hl]; exact hq)
  have h3 := h1.symm.trans h2
  simp only [Option.some.injEq, Value.int.injEq] at h3
  exact hne h3
theorem su_all (hg : (Cond.and given_1 narrow_1).before #[Value.ref b] s = true) (hts : ∀ w ∈ lw_tbl, w.before #[Value.ref b] s = true) {L : Nat} {xs : Nat → Int32} (hL : L ≤ 260) (hX : va_X b L xs s s.heap) (hbl : b < s.heap.size) :
    ∃ (G : va_G) (k : Nat → Nat), k 0 = s.heap.size ∧ k 7 = b ∧ rx_V G k s ∧ rx_T k s ∧ rx_S k s s.heap := by
  have hA : ∀ a : Nat, a < s.heap.size → ¬ (fun q => s.heap.size ≤ q) a := fun a h q => by omega
  obtain ⟨aK, aV, hS, hev⟩ := su_texts hg hA
  -- evaluations of all the texts' terms
  have hevd : ∀ d ∈ gs_d, d.2.2.1 < 14 → (Term.string d.1 d.2.1).eval #[Value.ref b] s none [] s = some (.ref (aK d.2.2.1)) := fun d hd h14 => va_eqR (gv_of hg _ (gs_du d hd)) (hev _ h14)
  -- the verbs
  have hv0 : ∀ i : Nat, ∃ a : Nat, i < 9 → (gs_v i).eval #[Value.ref b] s none [] s = some (.ref a) := fun i => by
    by_cases hi : i < 9
    · obtain ⟨a, c, cA, kA, q1, -⟩ := Cond.exactly_spec (args := #[Value.ref b]) (first := s) (o := none) (s := s) (idx := []) (t := gs_v i) (cls := RX7) (gv_of hg _ (gv_e i hi))
      exact ⟨a, fun _ => q1⟩
    · exact ⟨0, fun h => absurd h hi⟩
  obtain ⟨vz, hvz⟩ := Classical.axiomOfChoice hv0
  obtain ⟨aW, hWe, hWT⟩ := va_Tof (N := 9) (f := fun j => .int (rx_sm.getD j 0)) (A := fun q => s.heap.size ≤ q) (by omega) (gv_of hg _ gv_Wa) (va_eqt (gv_of hg _ gv_Wl)) (fun j hj => va_eqt (gv_of hg _ (gv_s j hj))) hA
  -- classes
  obtain ⟨d1, i1, k1⟩ := u_known (C := RX1) (T := TX1) (N := 3) (n := 3) hts (fun w h => (List.mem_filter.mp (in_X1 w h)).1) (hts _ tb_nX1)
  obtain ⟨d2, i2, k2⟩ := u_known (C := RX2) (T := TX2) (N := 15) (n := 15) hts (fun w h => (List.mem_filter.mp (in_X2 w h)).1) (hts _ tb_nX2)
  obtain ⟨d3, i3, k3⟩ := u_known (C := RX3) (T := TX3) (N := 3) (n := 3) hts (fun w h => (List.mem_filter.mp (in_X3 w h)).1) (hts _ tb_nX3)
  obtain ⟨d4, i4, k4⟩ := u_known (C := RX4) (T := TX4) (N := 4) (n := 4) hts (fun w h => (List.mem_filter.mp (in_X4 w h)).1) (hts _ tb_nX4)
  obtain ⟨d5, i5, k5⟩ := u_known (C := RX5) (T := TX5) (N := 14) (n := 14) hts (fun w h => (List.mem_filter.mp (in_X5 w h)).1) (hts _ tb_nX5)
  obtain ⟨d6, i6, k6⟩ := u_known (C := RX6) (T := TX6) (N := 9) (n := 9) hts (fun w h => (List.mem_filter.mp (in_X6 w h)).1) (hts _ tb_nX6)
  obtain ⟨d7, i7, k7⟩ := u_known (C := RX7) (T := TX7) (N := 0) (n := 8) hts (fun w h => (List.mem_filter.mp (in_X7 w h)).1) (hts _ tb_nX7)
  obtain ⟨d8, i8, k8⟩ := u_known (C := RX8) (T := TX8) (N := 11) (n := 11) hts (fun w h => (List.mem_filter.mp (in_X8 w h)).1) (hts _ tb_nX8)
  obtain ⟨d9, i9, k9⟩ := u_known (C := RL) (T := TL) (N := 5) (n := 5) hts (fun w h => (List.mem_filter.mp (in_L w h)).1) (hts _ tb_nL)
  obtain ⟨c1, ka1, co1, p1, p2, p3⟩ := Cond.arrayClass_spec (hts _ tb_ai)
  obtain ⟨c2, ka2, co2, q1, q2, q3⟩ := Cond.arrayClass_spec (hts _ tb_al)
  obtain ⟨co3, c3, ka3, r1, -, r2, r3, r4⟩ := Cond.arrayOver_spec (hts _ tb_ap)
  obtain ⟨co4, c4, ka4, s1, -, s2, s3, s4⟩ := Cond.arrayOver_spec (hts _ tb_av)
  refine ⟨(fun c => [d1, d2, d3, d4, d5, d6, d7, d8, d9].getD c 0, fun c => [i1, i2, i3, i4, i5, i6, i7, i8, i9].getD c (fun _ => 0)), kf s.heap.size c1 c2 c3 c4 aW b L vz aK aV (fun j => (xs j).toBitVec.toNat), rfl, rfl, ⟨⟨?_, ?_⟩, ?_, va_AO.of (hts _ tb_ap), va_AO.of (hts _ tb_av)⟩, ?_, ?_⟩
  · intro c q hq
    match c, hq with
    | 0, hq => cases hq; exact k1
    | 1, hq => cases hq; exact k2
    | 2, hq => cases hq; exact k3
    | 3, hq => cases hq; exact k4
    | 4, hq => cases hq; exact k5
    | 5, hq => cases hq; exact k6
    | 6, hq => cases hq; exact k7
    | 7, hq => cases hq; exact k8
    | 8, hq => cases hq; exact k9
    | c + 9, hq => simp [vwCl] at hq
  · intro c q hq
    match c, hq with
    | 0, hq => cases hq; exact ⟨fun n z => ⟨(fun k h => by cases h), ka1, p2, co1, p3⟩, p1⟩
    | 1, hq => cases hq; exact ⟨fun n z => ⟨(fun k h => by cases h), ka2, q2, co2, q3⟩, q1⟩
    | 2, hq => cases hq; exact ⟨fun n z => ⟨(fun k h => by cases h), ka3, r2, co3, r3⟩, ka3, co3, r2, r3, r1, r4⟩
    | 3, hq => cases hq; exact ⟨fun n z => ⟨(fun k h => by cases h), ka4, s2, co4, s3⟩, ka4, co4, s2, s3, s1, s4⟩
    | c + 4, hq => simp [rx_tys] at hq
  · intro w hw
    obtain ⟨hw1, hw2⟩ := List.mem_filter.mp hw
    exact va_Nw.of (by cases w <;> first | rfl | (simp [rx_isNest] at hw2; done)) (hts w hw1)
  · intro q hq
    refine vk_R.of (hts _ (gs_tb q hq)) ?_
    rcases gs_sr q hq with ⟨h1, h2⟩ | ⟨h2, d, hd, e1, e2, e3⟩
    · rw [kf_K (by omega), ← h1]; exact hev _ h2
    · rw [kf_K (by omega), ← e1, ← e2, ← e3]; exact hevd d hd (by rw [e3]; exact h2)
  · refine ⟨fun i hi => ?_, trivial, trivial, ?_, ?_, ?_, ?_, ?_, trivial⟩
    · rw [kf_v (by omega)]
      refine ⟨va_Zof (hts _ (tb_v i hi)) (hts _ tb_i7) (hvz i hi) hA, va_Oof (gv_of hg _ (gv_e i hi)) (hvz i hi) hA, vk_OFof (hvz i hi) (va_eqt (gv_of hg _ (gv_o i hi))) hA, ?_, fun f hf => ?_⟩
      · obtain ⟨scr, x1, x2, x3, x4, x5⟩ := hX
        refine ⟨scr, x1, x2, x3, Nat.le_of_eq x4.symm, congrArg Nat.toInt32 x4, fun j hj => ?_, by show ¬ s.heap.size ≤ b; omega⟩
        dsimp only
        rw [kf_x, nI_back]
        exact x5 j hj
      · obtain ⟨j, hj, rfl⟩ := List.getElem_of_mem hf
        have hj4 : j < 4 := hj
        have h1 := gv_of hg _ (gv_f i hi j hj4)
        have hg2 : rx_vf.getD j ("", []) = rx_vf[j] := by simp only [List.getD, List.getElem?_eq_getElem hj]; rfl
        rw [hg2] at h1
        exact vk_OFof (hvz i hi) (va_eqt h1) hA
    · exact va_Zof (hts _ tb_W) (hts _ tb_i0) hWe hA
    · exact hWT
    · exact ⟨fun i hi => by dsimp only; rw [kf_K (by omega), kf_V (by omega)]; exact hS.1 i hi, fun i j hi hj e => hS.2 i j hi hj (by dsimp only at e; rw [kf_K (by omega), kf_K (by omega)] at e; exact e)⟩
    · exact va_Zof (hts _ tb_cs) (hts _ tb_iS) (va_eqi (gv_of hg _ gv_cs)) hA
    · exact va_Zqof (hts _ tb_sf) (hts _ tb_iP) (gv_of hg _ gv_sf) hA
end SETUP
