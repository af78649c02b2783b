theorem law_main : ∃ y8 : ob × ob × ob × ob, F_X8_init_seg ob0 ob0 ob0 ob0 ob0 = some y8 ∧ ∀ k : Nat → Nat, F_law_seg k ob0 ob0 obt0 ob0 y8.1 y8.2.1 y8.2.2.1 y8.2.2.2 hst0 = some 1 := sorry
