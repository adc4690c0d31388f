/-! the law: the two objects are made -/
theorem law_begin {Γ : gX} {X : XT} {b : Nat} (hX : Cx Γ X 4 11 code R_law) (hc : (xR X).cells = 600000) (hs : (xR X).slots = 7302250)
    (kk : ∀ M : mI, CR M σ0 → MR M σ0 → G Γ X 4 (R0, 51, 51, 2382) 18 [some (.ref b), some (.ref (gb Γ + 0)), some (.ref (gb Γ + 37)), some (vI 0)] [] M) : G Γ X 4 (fun _ _ => none, 0, 0, 0) 0 [some (.ref b), none, none, none] [] (fun _ _ => 0) := by
  refine g_new (ci := 0) (N := 9) hX rfl q_11 q_12 q_1 d_law_0 rfl rfl (fun _ => rfl) (fun _ => rfl) ⟨by show 0 + 1 ≤ _; omega, by show 0 + 9 ≤ _; omega⟩ ?_
  refine g_dup hX d_law_3 rfl ?_
  refine g_init (k := 0) hX yo_WC_init rfl rfl q_14 q_13 d_law_4 (c_WC_init (fun a ha j => rfl) (fun a ha j => rfl)) rfl rfl (by decide) (Nat.le_of_ble_eq_true rfl) ⟨by show 0 + 1 + 36 ≤ _; omega, by show 0 + 9 + 1295 ≤ _; omega⟩ (fun M1 hp1 => ?_)
  refine g_astore_n hX d_law_7 (by decide) ?_
  have hz1 : ∀ a, 37 ≤ a → ∀ j, M1 a j = 0 := fun a ha j => by rw [hp1.2.2.2.2.2.2 a ha]
  refine g_new (ci := 8) (N := 21) hX rfl q_658 q_659 q_9 d_law_8 rfl rfl (fun j => hz1 37 (by decide) j) (fun j => by simp [rU]) ⟨by show 0 + 1 + 36 + 1 ≤ _; omega, by show 0 + 9 + 1295 + 21 ≤ _; omega⟩ ?_
  refine g_dup hX d_law_11 rfl ?_
  refine g_init (k := 37) hX yo_Mo_init rfl rfl q_661 q_660 d_law_12 (c_Mo_init (fun a ha j => hz1 a (by omega) j) (fun a ha j => by simp only [rU]; repeat rw [if_neg (by omega)])) rfl rfl (by decide) (Nat.le_of_ble_eq_true rfl) ⟨by show 0 + 1 + 36 + 1 + 13 ≤ _; omega, by show 0 + 9 + 1295 + 21 + 1057 ≤ _; omega⟩ (fun M2 hp2 => ?_)
  refine g_astore_n hX d_law_15 (by decide) ?_
  refine g_iconst hX d_law_16 ?_
  refine g_istore_n hX d_law_17 (by decide) ?_
  have k' := kk M2 ((CR0 ⟨hp1.1, hp1.2.1, hp1.2.2.1, hp1.2.2.2.1, hp1.2.2.2.2.1, hp1.2.2.2.2.2.1⟩).lo (fun a u => hp2.2.2 a (by omega))) (MR0 hp2.1 hp2.2.1 (fun j => by rw [hp2.2.2 37 (by decide)]; exact hz1 37 (by decide) j))
  rw [← Rfin_R0] at k'
  exact k'
