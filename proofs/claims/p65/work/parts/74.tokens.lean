/-! Tokens: what the class reads out of a text that is known. -/
theorem C_ltr {x : Int32} : F_X6_isLetter x = some (if 97 ≤ x ∧ x ≤ 122 then 1 else 0) := by
  unfold F_X6_isLetter
  by_cases h1 : x < 97
  · rw [if_pos h1, if_neg (fun q => Int32.not_le.mpr h1 q.1)]
  · rw [if_neg h1]
    by_cases h2 : 122 < x
    · rw [if_pos h2, if_neg (fun q => Int32.not_le.mpr h2 q.2)]
    · rw [if_neg h2, if_pos ⟨Int32.not_lt.mp h1, Int32.not_lt.mp h2⟩]
theorem C_dgt {x : Int32} : F_X6_isDigit x = some (if 48 ≤ x ∧ x ≤ 57 then 1 else 0) := by
  unfold F_X6_isDigit
  by_cases h1 : x < 48
  · rw [if_pos h1, if_neg (fun q => Int32.not_le.mpr h1 q.1)]
  · rw [if_neg h1]
    by_cases h2 : 57 < x
    · rw [if_pos h2, if_neg (fun q => Int32.not_le.mpr h2 q.2)]
    · rw [if_neg h2, if_pos ⟨Int32.not_lt.mp h1, Int32.not_lt.mp h2⟩]
theorem C_blk {x : Int32} : F_X6_isBlank x = some (if x = 32 ∨ x = 10 then 1 else 0) := by
  unfold F_X6_isBlank
  by_cases h1 : x = 32 <;> by_cases h2 : x = 10 <;> simp [h1, h2]
theorem ltr1 {c : Nat} (h : 97 ≤ c ∧ c ≤ 122) : F_X6_isLetter (nI c) = some 1 := by
  rw [C_ltr, if_pos ⟨nI_le (a := 97) h.1 (by omega), nI_le (b := 122) h.2 (by omega)⟩]
theorem ltr0 {c : Nat} (h : c < 97) : F_X6_isLetter (nI c) = some 0 := by
  rw [C_ltr, if_neg (fun z => nI_ge (b := 97) h (by omega) z.1)]
theorem dgt1 {c : Nat} (h : c < 10) : F_X6_isDigit (nI (48 + c)) = some 1 := by
  rw [C_dgt, if_pos ⟨nI_le (a := 48) (by omega) (by omega), nI_le (b := 57) (by omega) (by omega)⟩]
theorem dgt0 {c : Nat} (h : c = 32 ∨ c = 59) : F_X6_isDigit (nI c) = some 0 := by rcases h with rfl | rfl <;> rfl
theorem blk0 {c : Nat} (h : 32 < c) (h2 : c < 200) : F_X6_isBlank (nI c) = some 0 := by
  rw [C_blk, if_neg]
  rintro (z | z)
  · have := (nI_eq (a := c) (b := 32) (by omega) (by omega)).mp z; omega
  · have := (nI_eq (a := c) (b := 10) (by omega) (by omega)).mp z; omega
def At (b : Nat → Int32) (i : Nat) (L : List Nat) : Prop := ∀ j : Nat, j < L.length → b (i + j) = nI (L.getD j 0)
theorem At.app {b : Nat → Int32} {i : Nat} {L M : List Nat} (h : At b i (L ++ M)) : At b i L ∧ At b (i + L.length) M := by
  refine ⟨fun j hj => ?_, fun j hj => ?_⟩
  · rw [h j (by rw [List.length_append]; omega)]
    simp [List.getD, List.getElem?_append_left hj]
  · have := h (L.length + j) (by rw [List.length_append]; omega)
    rw [Nat.add_assoc, this]
    simp [List.getD, List.getElem?_append_right (Nat.le_add_right L.length j)]
theorem At.hd {b : Nat → Int32} {i c : Nat} {L : List Nat} (h : At b i (c :: L)) : b i = nI c := by
  have := h 0 (by simp)
  simpa using this
/-- before a token: the text R from e on is left -/
def TP (ot : ob) (b : Nat → Int32) (n e : Nat) (R : List Nat) : Prop := ot.2 0 = b ∧ ot.1 2 = nI n ∧ ot.1 7 = 0 ∧ ot.1 8 = -1 ∧ ot.1 5 = nI e ∧ e + R.length = n ∧ n ≤ 500 ∧ At b e R
def TW (ot : ob) (b : Nat → Int32) (n : Nat) (w R : List Nat) : Prop := ∃ e : Nat, TP ot b n e R ∧ ot.1 3 = 1 ∧ ∃ s : Nat, ot.1 4 = nI s ∧ e = s + w.length ∧ At b s w
def TN (ot : ob) (b : Nat → Int32) (n v : Nat) (R : List Nat) : Prop := ∃ e : Nat, TP ot b n e R ∧ ot.1 3 = 2 ∧ ot.1 6 = nI v
def T3 (ot : ob) (b : Nat → Int32) (n : Nat) (R : List Nat) : Prop := ∃ e : Nat, TP ot b n e R ∧ ot.1 3 = 3
def T0 (ot : ob) (b : Nat → Int32) (n : Nat) : Prop := ∃ e : Nat, TP ot b n e [] ∧ ot.1 3 = 0
def adv2 (o_t_10 : ob) : Option ob := if (o_t_10.1 4) < (o_t_10.1 2) then ((F_X6_isLetter ((rx_at 500 (o_t_10.2 0) ((o_t_10.1 4))))).bind fun y12 => if y12 = (0 : Int32) then ((F_X6_isDigit ((rx_at 500 (o_t_10.2 0) ((o_t_10.1 4))))).bind fun y14 => if y14 = (0 : Int32) then (if (rx_at 500 (o_t_10.2 0) ((o_t_10.1 4))) = (59 : Int32) then (rx_le (upd o_t_10.1 3 ((3 : Int32)), o_t_10.2) fun o_t_19 => rx_le (upd o_t_19.1 5 (((o_t_19.1 5) + (1 : Int32))), o_t_19.2) fun o_t_20 => some o_t_20) else (rx_le (upd o_t_10.1 3 ((4 : Int32)), o_t_10.2) fun o_t_17 => rx_le (upd o_t_17.1 5 (((o_t_17.1 5) + (1 : Int32))), o_t_17.2) fun o_t_18 => some o_t_18)) else ((F_X6_scanNumber o_t_10).bind fun y21 => some y21)) else ((F_X6_scanWord o_t_10).bind fun y22 => some y22)) else (rx_le (upd o_t_10.1 3 ((0 : Int32)), o_t_10.2) fun o_t_23 => some o_t_23)
theorem adv_go {ot z : ob} (h7 : ot.1 7 = 0) (g1 : F_X6_advance_16 100000 (upd ot.1 4 (ot.1 5), ot.2) = some z) : F_X6_advance ot = adv2 (upd z.1 5 (z.1 4), z.2) := by
  unfold F_X6_advance
  rw [if_pos h7]
  show (F_X6_advance_16 100000 (upd ot.1 4 (ot.1 5), ot.2)).bind _ = _
  rw [g1]
  rfl
section TOK
variable {ot o : ob} {b : Nat → Int32} {n e s v c : Nat} {R w pre : List Nat}
theorem s16_stop (h2 : o.1 2 = nI n) (h4 : o.1 4 = nI s) (hb : o.2 0 = b) (hn : n ≤ 500) (hs : s < n) (hc : b s = nI c) (h32 : 32 < c) (h200 : c < 200) (fu : Nat) : F_X6_advance_16 (fu + 1) o = some o := by
  simp only [F_X6_advance_16, h2, h4, hb]
  rw [if_neg (nI_ge hs (by omega)), z_at (by omega) (by omega), hc, blk0 h32 h200, z_bsN, if_pos rfl]
theorem s16_end (h2 : o.1 2 = nI n) (h4 : o.1 4 = nI n) (fu : Nat) : F_X6_advance_16 (fu + 1) o = some o := by
  simp only [F_X6_advance_16, h2, h4]
  rw [if_pos (Int32.le_refl _)]
theorem s16_blank (h2 : o.1 2 = nI n) (h4 : o.1 4 = nI s) (hb : o.2 0 = b) (hn : n ≤ 500) (hs : s < n) (hc : b s = nI 32) (fu : Nat) : F_X6_advance_16 (fu + 1) o = F_X6_advance_16 fu (upd o.1 4 (nI (s + 1)), o.2) := by
  simp only [F_X6_advance_16, h2, h4, hb]
  rw [if_neg (nI_ge hs (by omega)), z_at (by omega) (by omega), hc, show F_X6_isBlank (nI 32) = some 1 from rfl, z_bsN, if_neg (by decide), z_leN, nI_1]
theorem s16 (h2 : o.1 2 = nI n) (h4 : o.1 4 = nI e) (hb : o.2 0 = b) (hn : n ≤ 500) (hp : pre = [] ∨ pre = [32]) (he : e + pre.length < n) (hA : At b e (pre ++ c :: R)) (h32 : 32 < c) (h200 : c < 200) : F_X6_advance_16 100000 o = some (upd o.1 4 (nI (e + pre.length)), o.2) := by
  obtain ⟨a1, a2⟩ := hA.app
  have hc := a2.hd
  rcases hp with rfl | rfl
  · have h9 := s16_stop (o := o) h2 h4 hb hn he hc h32 h200 99999
    rw [show F_X6_advance_16 100000 o = some o from h9]
    have : upd o.1 4 (nI (e + ([] : List Nat).length)) = o.1 := by
      funext i
      by_cases q : i = 4
      · subst q; rw [z_us]; exact h4.symm
      · rw [z_un q]
    rw [this]
  · have he : e + 1 < n := he
    have h8 := s16_blank (o := o) h2 h4 hb hn (by omega) a1.hd 99999
    have h9 := s16_stop (o := (upd o.1 4 (nI (e + 1)), o.2)) (s := e + 1) (by dsimp only; rw [z_un (by omega)]; exact h2) (by dsimp only; rw [z_us]) hb hn he hc h32 h200 99998
    exact h8.trans h9
/-- the words that a token is found behind the blank at -/
theorem ADV0 (h : TP ot b n e (pre ++ c :: R)) (hp : pre = [] ∨ pre = [32]) (h32 : 32 < c) (h200 : c < 200) : ∃ o10 : ob, F_X6_advance ot = adv2 o10 ∧ e + pre.length < n ∧ b (e + pre.length) = nI c ∧ o10 = (upd (upd ot.1 4 (nI (e + pre.length))) 5 (nI (e + pre.length)), ot.2) ∧ o10.1 2 = nI n ∧ o10.1 7 = 0 ∧ o10.1 8 = -1 ∧ o10.1 4 = nI (e + pre.length) ∧ o10.1 5 = nI (e + pre.length) ∧ o10.2 0 = b := by
  obtain ⟨t0, t2, t7, t8, t5, tl, tn, tA⟩ := h
  have hl : e + pre.length < n := by rw [List.length_append, List.length_cons] at tl; omega
  have h9 := s16 (o := (upd ot.1 4 (nI e), ot.2)) (e := e) (b := b) (n := n) (by dsimp only; rw [z_un (by omega)]; exact t2) (by dsimp only; rw [z_us]) t0 tn hp hl tA h32 h200
  dsimp only at h9
  rw [z_uu] at h9
  have ga := adv_go t7 (by rw [t5]; exact h9)
  dsimp only at ga
  rw [z_us] at ga
  refine ⟨_, ga, hl, tA.app.2.hd, rfl, ?_, ?_, ?_, ?_, ?_, t0⟩
  · dsimp only; rw [z_un (by omega), z_un (by omega)]; exact t2
  · dsimp only; rw [z_un (by omega), z_un (by omega)]; exact t7
  · dsimp only; rw [z_un (by omega), z_un (by omega)]; exact t8
  · dsimp only; rw [z_un (by omega), z_us]
  · dsimp only; rw [z_us]
theorem scanW (hw : ∀ j : Nat, j < w.length → 97 ≤ w.getD j 0 ∧ w.getD j 0 ≤ 122) (hA : At b s (w ++ c :: R)) (hc : c = 32 ∨ c = 59) (hn : n ≤ 500) (hl : s + w.length < n) : ∀ (d j fu : Nat) (o : ob), j + d = w.length → d < fu → o.1 2 = nI n → o.1 5 = nI (s + j) → o.2 0 = b → ∃ o2 : ob, F_X6_scanWord_5 fu o = some o2 ∧ o2.1 5 = nI (s + w.length) ∧ (∀ i : Nat, i ≠ 5 → o2.1 i = o.1 i) ∧ o2.2 = o.2 := by
  obtain ⟨a1, a2⟩ := hA.app
  intro d
  induction d with
  | zero =>
    intro j fu o hj hf h2 h5 hb
    obtain ⟨fu, rfl⟩ : ∃ n, fu = n + 1 := ⟨fu - 1, by omega⟩
    obtain rfl : j = w.length := by omega
    refine ⟨o, ?_, h5, fun _ _ => rfl, rfl⟩
    simp only [F_X6_scanWord_5, h2, h5, hb]
    rw [if_neg (nI_ge hl (by omega)), z_at (by omega) (by omega), a2.hd, ltr0 (by omega), z_bsN, if_pos rfl]
  | succ d ih =>
    intro j fu o hj hf h2 h5 hb
    obtain ⟨fu, rfl⟩ : ∃ n, fu = n + 1 := ⟨fu - 1, by omega⟩
    obtain ⟨o2, e2, k5, kk, kr⟩ := ih (j + 1) fu (upd o.1 5 (nI (s + j + 1)), o.2) (by omega) (by omega) (by dsimp only; rw [z_un (by omega)]; exact h2) (by dsimp only; rw [z_us, Nat.add_assoc]) hb
    refine ⟨o2, ?_, k5, fun i hi => (kk i hi).trans (by dsimp only; rw [z_un hi]), kr⟩
    simp only [F_X6_scanWord_5, h2, h5, hb]
    rw [if_neg (nI_ge (by omega) (by omega)), z_at (by omega) (by omega), a1 j (by omega), ltr1 (hw j (by omega)), z_bsN, if_neg (by decide), z_leN, nI_1]
    exact e2
theorem ADVW (h : TP ot b n e (pre ++ (w ++ c :: R))) (hp : pre = [] ∨ pre = [32]) (hw : ∀ j : Nat, j < w.length → 97 ≤ w.getD j 0 ∧ w.getD j 0 ≤ 122) (h0 : 0 < w.length) (hc : c = 32 ∨ c = 59) : ∃ ot2 : ob, F_X6_advance ot = some ot2 ∧ TW ot2 b n w (c :: R) := by
  obtain ⟨x, w2, rfl⟩ : ∃ x w2, w = x :: w2 := by
    cases w with
    | nil => exact absurd h0 (by simp)
    | cons x w2 => exact ⟨x, w2, rfl⟩
  have hx := hw 0 h0
  have hx : 97 ≤ x ∧ x ≤ 122 := by simpa using hx
  have h' := h
  obtain ⟨t0, t2, t7, t8, t5, tl, tn, tA⟩ := h'
  obtain ⟨o10, g1, g2, g3, g4, g5, g6, g7, g8, g9, g10⟩ := ADV0 (c := x) (R := w2 ++ c :: R) h hp (by omega) (by omega)
  have hA := tA.app.2
  have hl : e + pre.length + (x :: w2).length + 1 + R.length = n := by
    have tl2 : e + (pre.length + ((x :: w2).length + (R.length + 1))) = n := by simpa only [List.length_append, List.length_cons] using tl
    omega
  obtain ⟨o2, e2, k5, kk, kr⟩ := scanW (c := c) hw hA hc tn (by omega) (x :: w2).length 0 100000 (upd o10.1 3 1, o10.2) (by omega) (by omega) (by dsimp only; rw [z_un (by omega)]; exact g5) (by dsimp only; rw [z_un (by omega)]; exact g9) g10
  refine ⟨o2, ?_, e + pre.length + (x :: w2).length, ⟨?_, ?_, ?_, ?_, k5, ?_, tn, hA.app.2⟩, ?_, e + pre.length, ?_, rfl, hA.app.1⟩
  · rw [g1]
    unfold adv2
    rw [g8, g5, if_pos (nI_lt g2 (by omega)), g10, z_at (by omega) (by omega), g3, ltr1 hx, z_bsN, if_neg (by decide)]
    simp only [F_X6_scanWord, z_leN, e2, z_bsN]
  · rw [kr]; exact g10
  · rw [kk 2 (by omega)]; dsimp only; rw [z_un (by omega)]; exact g5
  · rw [kk 7 (by omega)]; dsimp only; rw [z_un (by omega)]; exact g6
  · rw [kk 8 (by omega)]; dsimp only; rw [z_un (by omega)]; exact g7
  · rw [List.length_cons (a := c)]; omega
  · rw [kk 3 (by omega)]; dsimp only; rw [z_us]
  · rw [kk 4 (by omega)]; dsimp only; rw [z_un (by omega)]; exact g8
theorem num1 {fu i u d : Nat} (h2 : o.1 2 = nI n) (h5 : o.1 5 = nI i) (hb : o.2 0 = b) (hn : n ≤ 500) (hi : i < n) (h6 : o.1 6 = nI u) (hu : u < 10) (hd : d < 10) (hc : b i = nI (48 + d)) : F_X6_scanNumber_10 (fu + 1) o = F_X6_scanNumber_10 fu (upd (upd o.1 6 (nI (u * 10 + d))) 5 (nI (i + 1)), o.2) := by
  have hv : nI u * 10 + nI (48 + d) - 48 = nI (u * 10 + d) := by
    rw [show (10 : Int32) = nI 10 from rfl, z_mul, nI_add, show (48 : Int32) = nI 48 from rfl, z_sub (by omega)]
    congr 1; omega
  simp only [F_X6_scanNumber_10, h2, h5, hb, h6]
  rw [if_neg (nI_ge hi (by omega)), z_at (by omega) (by omega), hc, dgt1 hd, z_bsN, if_neg (by decide), hv, if_pos (show nI (u * 10 + d) < (1000 : Int32) from nI_lt (b := 1000) (by omega) (by omega)), z_leN, z_leN, z_leN]
  dsimp only
  rw [z_un (by omega), h5, nI_1]
theorem num0 {fu i : Nat} (h2 : o.1 2 = nI n) (h5 : o.1 5 = nI i) (hb : o.2 0 = b) (hn : n ≤ 500) (hi : i < n) (hc : b i = nI c) (hcc : c = 32 ∨ c = 59) : F_X6_scanNumber_10 (fu + 1) o = some o := by
  simp only [F_X6_scanNumber_10, h2, h5, hb]
  rw [if_neg (nI_ge hi (by omega)), z_at (by omega) (by omega), hc, dgt0 hcc, z_bsN, if_pos rfl]
theorem ADVN (h : TP ot b n e (numL v ++ c :: R)) (hv : v < 100) (hc : c = 32 ∨ c = 59) : ∃ ot2 : ob, F_X6_advance ot = some ot2 ∧ TN ot2 b n v (c :: R) := by
  have h' := h
  obtain ⟨t0, t2, t7, t8, t5, tl, tn, tA⟩ := h'
  have fin : ∀ (x : Nat) (ds : List Nat), numL v = [32] ++ x :: ds → x < 10 + 48 → 48 ≤ x → (∀ (o10 : ob), o10.1 2 = nI n → o10.1 5 = nI (e + 1) → o10.2 0 = b → o10.1 6 = 0 → ∃ o2 : ob, F_X6_scanNumber_10 100000 o10 = some o2 ∧ o2.1 5 = nI (e + (numL v).length) ∧ o2.1 6 = nI v ∧ (∀ i : Nat, i ≠ 5 → i ≠ 6 → o2.1 i = o10.1 i) ∧ o2.2 = o10.2) → ∃ ot2 : ob, F_X6_advance ot = some ot2 ∧ TN ot2 b n v (c :: R) := by
    intro x ds hx1 hx2 hx3 hloop
    have hT : TP ot b n e ([32] ++ x :: (ds ++ c :: R)) := by
      have : numL v ++ c :: R = [32] ++ x :: (ds ++ c :: R) := by rw [hx1, List.append_assoc]; rfl
      rw [← this]; exact h
    obtain ⟨o10, g1, g2, g3, g4, g5, g6, g7, g8, g9, g10⟩ := ADV0 hT (Or.inr rfl) (by omega) (by omega)
    have g2 : e + 1 < n := g2
    have g3 : b (e + 1) = nI x := g3
    have g8 : o10.1 4 = nI (e + 1) := g8
    have g9 : o10.1 5 = nI (e + 1) := g9
    obtain ⟨o2, e2, k5, k6, kk, kr⟩ := hloop (upd (upd o10.1 3 2) 6 0, o10.2) (by dsimp only; rw [z_un (by omega), z_un (by omega)]; exact g5) (by dsimp only; rw [z_un (by omega), z_un (by omega)]; exact g9) g10 (by dsimp only; rw [z_us])
    refine ⟨o2, ?_, e + (numL v).length, ⟨?_, ?_, ?_, ?_, k5, ?_, tn, tA.app.2⟩, ?_, k6⟩
    · rw [g1]
      unfold adv2
      rw [g8, g5, if_pos (nI_lt g2 (by omega)), g10, z_at (by omega) (by omega), g3, ltr0 (by omega), z_bsN, if_pos rfl]
      obtain ⟨y, rfl⟩ : ∃ y, x = 48 + y := ⟨x - 48, by omega⟩
      rw [dgt1 (by omega), z_bsN, if_neg (by decide)]
      simp only [F_X6_scanNumber, z_leN, e2, z_bsN]
    · rw [kr]; exact g10
    · rw [kk 2 (by omega) (by omega)]; dsimp only; rw [z_un (by omega), z_un (by omega)]; exact g5
    · rw [kk 7 (by omega) (by omega)]; dsimp only; rw [z_un (by omega), z_un (by omega)]; exact g6
    · rw [kk 8 (by omega) (by omega)]; dsimp only; rw [z_un (by omega), z_un (by omega)]; exact g7
    · rw [List.length_append] at tl; omega
    · rw [kk 3 (by omega) (by omega)]; dsimp only; rw [z_un (by omega), z_us]
  have hlen : e + (numL v).length < n := by rw [List.length_append, List.length_cons] at tl; omega
  have hcA : b (e + (numL v).length) = nI c := tA.app.2.hd
  have hdA := tA.app.1
  by_cases q : v < 10
  · have en : numL v = [32, 48 + v] := by rw [numL, if_pos q]
    refine fin (48 + v) [] en (by omega) (by omega) (fun o10 j2 j5 jb j6 => ?_)
    rw [en] at hlen hcA hdA ⊢
    have b1 : b (e + 1) = nI (48 + v) := hdA 1 (by simp)
    have s1 := num1 (fu := 99999) (u := 0) j2 j5 jb tn (by simp at hlen; omega) j6 (by omega) q b1
    have s2 := num0 (fu := 99998) (i := e + 2) (o := (upd (upd o10.1 6 (nI (0 * 10 + v))) 5 (nI (e + 1 + 1)), o10.2)) (by dsimp only; rw [z_un (by omega), z_un (by omega)]; exact j2) (by dsimp only; rw [z_us]) jb tn hlen hcA hc
    refine ⟨_, s1.trans s2, by dsimp only; rw [z_us]; rfl, by dsimp only; rw [z_un (by omega), z_us, Nat.zero_mul, Nat.zero_add], fun i h1 h2 => by dsimp only; rw [z_un h1, z_un h2], rfl⟩
  · have en : numL v = [32, 48 + v / 10, 48 + v % 10] := by rw [numL, if_neg q]
    have hm : v / 10 * 10 + v % 10 = v := by omega
    refine fin (48 + v / 10) [48 + v % 10] en (by omega) (by omega) (fun o10 j2 j5 jb j6 => ?_)
    rw [en] at hlen hcA hdA ⊢
    have b1 : b (e + 1) = nI (48 + v / 10) := hdA 1 (by simp)
    have b2 : b (e + 2) = nI (48 + v % 10) := hdA 2 (by simp)
    have s1 := num1 (fu := 99999) (u := 0) j2 j5 jb tn (by simp at hlen; omega) j6 (by omega) (show v / 10 < 10 by omega) b1
    have s2 := num1 (fu := 99998) (u := v / 10) (i := e + 2) (o := (upd (upd o10.1 6 (nI (0 * 10 + v / 10))) 5 (nI (e + 1 + 1)), o10.2)) (by dsimp only; rw [z_un (by omega), z_un (by omega)]; exact j2) (by dsimp only; rw [z_us]) jb tn (by simp at hlen; omega) (by dsimp only; rw [z_un (by omega), z_us, Nat.zero_mul, Nat.zero_add]) (by omega) (show v % 10 < 10 by omega) b2
    rw [hm] at s2
    dsimp only at s2
    have s3 := num0 (fu := 99997) (i := e + 3) (o := (upd (upd (upd (upd o10.1 6 (nI (0 * 10 + v / 10))) 5 (nI (e + 1 + 1))) 6 (nI v)) 5 (nI (e + 2 + 1)), o10.2)) (by dsimp only; rw [z_un (by omega), z_un (by omega), z_un (by omega), z_un (by omega)]; exact j2) (by dsimp only; rw [z_us]) jb tn hlen hcA hc
    refine ⟨_, s1.trans (s2.trans s3), by dsimp only; rw [z_us]; rfl, by dsimp only; rw [z_un (by omega), z_us], fun i h1 h2 => by dsimp only; rw [z_un h1, z_un h2, z_un h1, z_un h2], rfl⟩
theorem ADVS (h : TP ot b n e (59 :: R)) : ∃ ot2 : ob, F_X6_advance ot = some ot2 ∧ T3 ot2 b n R := by
  have h' := h
  obtain ⟨t0, t2, t7, t8, t5, tl, tn, tA⟩ := h'
  obtain ⟨o10, g1, g2, g3, g4, g5, g6, g7, g8, g9, g10⟩ := ADV0 (pre := []) (c := 59) (R := R) h (Or.inl rfl) (by omega) (by omega)
  have g2 : e < n := g2
  have g3 : b e = nI 59 := g3
  have g8 : o10.1 4 = nI e := g8
  have g9 : o10.1 5 = nI e := g9
  refine ⟨(upd (upd o10.1 3 3) 5 (nI (e + 1)), o10.2), ?_, e + 1, ⟨g10, ?_, ?_, ?_, ?_, ?_, tn, (At.app (L := [59]) tA).2⟩, ?_⟩
  · rw [g1]
    unfold adv2
    rw [g8, g5, if_pos (nI_lt g2 (by omega)), g10, z_at (by omega) (by omega), g3, ltr0 (by omega), z_bsN, if_pos rfl, dgt0 (Or.inr rfl), z_bsN, if_pos rfl, if_pos (show nI 59 = (59 : Int32) from rfl)]
    simp only [z_leN]
    rw [z_un (show (5 : Nat) ≠ 3 by omega), g9, nI_1]
  · dsimp only; rw [z_un (by omega), z_un (by omega)]; exact g5
  · dsimp only; rw [z_un (by omega), z_un (by omega)]; exact g6
  · dsimp only; rw [z_un (by omega), z_un (by omega)]; exact g7
  · dsimp only; rw [z_us]
  · rw [List.length_cons] at tl; omega
  · dsimp only; rw [z_un (by omega), z_us]
theorem ADVE (h : TP ot b n e []) : ∃ ot2 : ob, F_X6_advance ot = some ot2 ∧ T0 ot2 b n := by
  obtain ⟨t0, t2, t7, t8, t5, tl, tn, tA⟩ := h
  obtain rfl : e = n := by simpa using tl
  have h9 : F_X6_advance_16 100000 (upd ot.1 4 (ot.1 5), ot.2) = _ := s16_end (n := e) (o := (upd ot.1 4 (ot.1 5), ot.2)) (by dsimp only; rw [z_un (by omega)]; exact t2) (by dsimp only; rw [z_us]; exact t5) 99999
  refine ⟨(upd (upd (upd ot.1 4 (ot.1 5)) 5 (ot.1 5)) 3 0, ot.2), ?_, e, ⟨t0, ?_, ?_, ?_, ?_, tl, tn, tA⟩, ?_⟩
  · have ga := adv_go t7 h9
    dsimp only at ga
    rw [z_us] at ga
    obtain ⟨o10, ho⟩ : ∃ o : ob, o = (upd (upd ot.1 4 (ot.1 5)) 5 (ot.1 5), ot.2) := ⟨_, rfl⟩
    rw [← ho] at ga
    have k4 : o10.1 4 = nI e := by rw [ho]; dsimp only; rw [z_un (by omega), z_us]; exact t5
    have k2 : o10.1 2 = nI e := by rw [ho]; dsimp only; rw [z_un (by omega), z_un (by omega)]; exact t2
    rw [ga]
    unfold adv2
    rw [k4, k2, if_neg Int32.lt_irrefl, z_leN, ho]
  · dsimp only; rw [z_un (by omega), z_un (by omega), z_un (by omega)]; exact t2
  · dsimp only; rw [z_un (by omega), z_un (by omega), z_un (by omega)]; exact t7
  · dsimp only; rw [z_un (by omega), z_un (by omega), z_un (by omega)]; exact t8
  · dsimp only; rw [z_un (by omega), z_us]; exact t5
  · dsimp only; rw [z_us]
end TOK
