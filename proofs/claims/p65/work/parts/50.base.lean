/-! LAYER 2, pure: what the functions answer. Rows of ints by Nat places. -/
theorem z_le {α β : Type} (a : α) (f : α → Option β) : rx_le a f = f a := rfl
theorem z_ald {n i : Nat} {f : Nat → Int32} (h : i < n) (hn : n < 2 ^ 31) : rx_ald n f (nI i) = some (f i) := by
  unfold rx_ald
  rw [nI_clamp (by omega), if_pos ⟨nI_pos' (by omega), h⟩]
theorem z_ast {n i : Nat} {f : Nat → Int32} {v : Int32} (h : i < n) (hn : n < 2 ^ 31) : rx_ast n f (nI i) v = some (upd f i v) := by
  unfold rx_ast
  rw [nI_clamp (by omega), if_pos ⟨nI_pos' (by omega), h⟩]
theorem z_at {n i : Nat} {f : Nat → Int32} (h : i < n) (hn : n < 2 ^ 31) : rx_at n f (nI i) = f i := by
  unfold rx_at
  rw [nI_clamp (by omega), if_neg (nI_pos (by omega)), if_neg (nI_ge h hn)]
theorem z_atO {n i : Nat} {f : Nat → Int32} (h : n ≤ i) (hn : i < 2 ^ 31) : rx_at n f (nI i) = 0 := by
  unfold rx_at
  rw [if_neg (nI_pos hn), if_pos (nI_le h hn)]
theorem z_put {n i : Nat} {f : Nat → Int32} {v : Int32} (h : i < n) (hn : n < 2 ^ 31) : rx_put n f (nI i) v = upd f i v := by
  unfold rx_put
  rw [nI_clamp (by omega), if_neg (nI_pos (by omega)), if_neg (nI_ge h hn)]
theorem z_us {f : Nat → Int32} {i : Nat} {v : Int32} : upd f i v i = v := by simp [upd]
theorem z_un {f : Nat → Int32} {i j : Nat} {v : Int32} (h : j ≠ i) : upd f i v j = f j := by simp [upd, h]
theorem z_vs {α : Type} {f : Nat → α} {i : Nat} {v : α} : va_up f i v i = v := by simp [va_up]
theorem z_vn {α : Type} {f : Nat → α} {i j : Nat} {v : α} (h : j ≠ i) : va_up f i v j = f j := by simp [va_up, h]
theorem z_mul (a b : Nat) : nI a * nI b = nI (a * b) := (Int32.ofNat_mul a b).symm
/-- a loop whose counter runs to N -/
theorem z_for {σ τ : Type} (N : Nat) (L : Nat → Nat → σ → Option τ) (S : Nat → σ) {r : Option τ} (hs : ∀ fu k, k < N → L (fu + 1) k (S k) = L fu (k + 1) (S (k + 1))) (he : ∀ fu, L (fu + 1) N (S N) = r) (fu : Nat) (hf : N < fu) (k0 : Nat) (hk : k0 ≤ N) : L fu k0 (S k0) = r := by
  have key : ∀ d k fu : Nat, k + d = N → d < fu → L fu k (S k) = r := by
    intro d
    induction d with
    | zero =>
      intro k fu h1 h2
      obtain rfl : k = N := by omega
      cases fu with
      | zero => omega
      | succ fu => exact he fu
    | succ d ih =>
      intro k fu h1 h2
      cases fu with
      | zero => omega
      | succ fu => rw [hs fu k (by omega)]; exact ih (k + 1) fu (by omega) (by omega)
  exact key (N - k0) k0 fu (by omega) (by omega)
theorem z_ig {α : Type} {a b : α} {P k : Nat} (h : k < P) (hP : P < 2 ^ 31) : (if nI P ≤ nI k then a else b) = b := if_neg (nI_ge h hP)
theorem z_il {α : Type} {a b : α} {P k : Nat} (h : P ≤ k) (hk : k < 2 ^ 31) : (if nI P ≤ nI k then a else b) = a := if_pos (nI_le h hk)
def z_sum (f : Nat → Int32) : Nat → Int32
  | 0 => 0
  | k + 1 => z_sum f k + f k
theorem z_sum_congr {f g : Nat → Int32} {n : Nat} (h : ∀ k : Nat, k < n → f k = g k) : z_sum f n = z_sum g n := by
  induction n with
  | zero => rfl
  | succ n ih => rw [z_sum, z_sum, ih (fun k hk => h k (by omega)), h n (by omega)]
def z_cnt (f : Nat → Bool) : Nat → Nat
  | 0 => 0
  | k + 1 => z_cnt f k + (if f k = true then 1 else 0)
theorem z_cnt_congr {f g : Nat → Bool} {n : Nat} (h : ∀ k : Nat, k < n → f k = g k) : z_cnt f n = z_cnt g n := by
  induction n with
  | zero => rfl
  | succ n ih => rw [z_cnt, z_cnt, ih (fun k hk => h k (by omega)), h n (by omega)]
theorem z_cnt_le {f : Nat → Bool} {n : Nat} : z_cnt f n ≤ n := by
  induction n with
  | zero => exact Nat.le_refl _
  | succ n ih => rw [z_cnt]; split <;> omega
/-- the best of 0 .. n, where r k b tells that k is better than b -/
def z_arg (r : Nat → Nat → Bool) : Nat → Nat
  | 0 => 0
  | k + 1 => if r (k + 1) (z_arg r k) = true then k + 1 else z_arg r k
theorem z_arg_le {r : Nat → Nat → Bool} {n : Nat} : z_arg r n ≤ n := by
  induction n with
  | zero => exact Nat.le_refl _
  | succ n ih => rw [z_arg]; split <;> omega
theorem z_arg_congr {r q : Nat → Nat → Bool} {n : Nat} (h : ∀ k b : Nat, k ≤ n → b ≤ n → r k b = q k b) : z_arg r n = z_arg q n := by
  induction n with
  | zero => rfl
  | succ n ih =>
    rw [z_arg, z_arg, ih (fun k b hk hb => h k b (by omega) (by omega)), h (n + 1) _ (Nat.le_refl _) (Nat.le_succ_of_le z_arg_le)]
theorem z_al0 {f : Nat → Int32} : rx_ald 144 f (0 : Int32) = some (f 0) := z_ald (i := 0) (by omega) (by omega)
theorem z_as0 {f : Nat → Int32} {v : Int32} : rx_ast 144 f (0 : Int32) v = some (upd f 0 v) := z_ast (i := 0) (by omega) (by omega)
theorem z_al1 {f : Nat → Int32} : rx_ald 144 f (1 : Int32) = some (f 1) := z_ald (i := 1) (by omega) (by omega)
theorem z_as1 {f : Nat → Int32} {v : Int32} : rx_ast 144 f (1 : Int32) v = some (upd f 1 v) := z_ast (i := 1) (by omega) (by omega)
theorem z_al2 {f : Nat → Int32} : rx_ald 144 f (2 : Int32) = some (f 2) := z_ald (i := 2) (by omega) (by omega)
theorem z_as2 {f : Nat → Int32} {v : Int32} : rx_ast 144 f (2 : Int32) v = some (upd f 2 v) := z_ast (i := 2) (by omega) (by omega)
theorem z_al3 {f : Nat → Int32} : rx_ald 144 f (3 : Int32) = some (f 3) := z_ald (i := 3) (by omega) (by omega)
theorem z_as3 {f : Nat → Int32} {v : Int32} : rx_ast 144 f (3 : Int32) v = some (upd f 3 v) := z_ast (i := 3) (by omega) (by omega)
theorem z_al4 {f : Nat → Int32} : rx_ald 144 f (4 : Int32) = some (f 4) := z_ald (i := 4) (by omega) (by omega)
theorem z_as4 {f : Nat → Int32} {v : Int32} : rx_ast 144 f (4 : Int32) v = some (upd f 4 v) := z_ast (i := 4) (by omega) (by omega)
theorem z_al5 {f : Nat → Int32} : rx_ald 144 f (5 : Int32) = some (f 5) := z_ald (i := 5) (by omega) (by omega)
theorem z_as5 {f : Nat → Int32} {v : Int32} : rx_ast 144 f (5 : Int32) v = some (upd f 5 v) := z_ast (i := 5) (by omega) (by omega)
theorem z_al6 {f : Nat → Int32} : rx_ald 144 f (6 : Int32) = some (f 6) := z_ald (i := 6) (by omega) (by omega)
theorem z_as6 {f : Nat → Int32} {v : Int32} : rx_ast 144 f (6 : Int32) v = some (upd f 6 v) := z_ast (i := 6) (by omega) (by omega)
theorem z_al7 {f : Nat → Int32} : rx_ald 144 f (7 : Int32) = some (f 7) := z_ald (i := 7) (by omega) (by omega)
theorem z_as7 {f : Nat → Int32} {v : Int32} : rx_ast 144 f (7 : Int32) v = some (upd f 7 v) := z_ast (i := 7) (by omega) (by omega)
theorem z_al8 {f : Nat → Int32} : rx_ald 144 f (8 : Int32) = some (f 8) := z_ald (i := 8) (by omega) (by omega)
theorem z_as8 {f : Nat → Int32} {v : Int32} : rx_ast 144 f (8 : Int32) v = some (upd f 8 v) := z_ast (i := 8) (by omega) (by omega)
theorem z_al9 {f : Nat → Int32} : rx_ald 144 f (9 : Int32) = some (f 9) := z_ald (i := 9) (by omega) (by omega)
theorem z_as9 {f : Nat → Int32} {v : Int32} : rx_ast 144 f (9 : Int32) v = some (upd f 9 v) := z_ast (i := 9) (by omega) (by omega)
theorem z_al10 {f : Nat → Int32} : rx_ald 144 f (10 : Int32) = some (f 10) := z_ald (i := 10) (by omega) (by omega)
theorem z_as10 {f : Nat → Int32} {v : Int32} : rx_ast 144 f (10 : Int32) v = some (upd f 10 v) := z_ast (i := 10) (by omega) (by omega)
theorem z_al11 {f : Nat → Int32} : rx_ald 144 f (11 : Int32) = some (f 11) := z_ald (i := 11) (by omega) (by omega)
theorem z_as11 {f : Nat → Int32} {v : Int32} : rx_ast 144 f (11 : Int32) v = some (upd f 11 v) := z_ast (i := 11) (by omega) (by omega)
