/-! the constructors that run straight on -/
theorem c_Cand_init {Γ : gX} {l : Launch} {M : mI} {R : mR} (hM : ∀ a, 21 < a → ∀ j, M a j = 0) (hR0 : ∀ a, 21 < a → ∀ j, R a j = none) : CnC Γ l i_Cand_init R 22 (rU (rU (rU R 21 1 (some 22)) 21 2 (some 23)) 21 0 (some 1)) 24 2 121 [.ref (gb Γ + 21), .ref (gb Γ + 1)] M (fun M' => ∀ a, a < 21 ∨ 24 ≤ a → M' a = M a) := by
  refine cnC_intro (L := [some (.ref (gb Γ + 21)), some (.ref (gb Γ + 1))]) yo_Cand_init rfl rfl (Nat.le_of_ble_eq_true rfl) rfl (fun X hX hR => ?_)
  have e1 := hR.2.2.1
  have e2 := hR.2.2.2.1
  refine g_aload_n hX d_Cand_init_0 rfl ?_
  refine g_obj (hl := q_68) hX d_Cand_init_1 (Nat.le_of_ble_eq_true rfl) (Nat.le_of_ble_eq_true rfl) ?_
  refine g_aload_n hX d_Cand_init_4 rfl ?_
  refine g_bipush hX d_Cand_init_5 rfl ?_
  refine g_newa (n := 61) hX d_Cand_init_7 rfl rfl (hM 22 (by decide)) ⟨by show 0 + 1 ≤ _; omega, by show 0 + 61 ≤ _; omega⟩ ?_
  refine g_putR (k := 21) (k' := 22) hX fl_Cand_9 d_Cand_init_9 rfl (by decide) rfl (fun q h => by cases h; rfl) (fun q h => by cases h; rfl) hR.2.2.2.2 rfl (fun _ => rfl) (fun _ => rfl) ?_
  refine g_aload_n hX d_Cand_init_12 rfl ?_
  refine g_bipush hX d_Cand_init_13 rfl ?_
  refine g_newa (n := 60) hX d_Cand_init_15 rfl rfl (hM 23 (by decide)) ⟨by show 1 + 1 ≤ _; omega, by show 61 + 60 ≤ _; omega⟩ ?_
  refine g_putR (k := 21) (k' := 23) hX fl_Cand_15 d_Cand_init_17 rfl (by decide) rfl (fun q h => by cases h; rfl) (fun q h => by cases h; rfl) hR.2.2.2.2 rfl (fun _ => rfl) (fun _ => rfl) ?_
  refine g_aload_n hX d_Cand_init_20 rfl ?_
  refine g_iconst hX d_Cand_init_21 ?_
  refine g_putI hX fl_Cand_18 d_Cand_init_22 3 ⟨rfl, Nat.le_of_ble_eq_true rfl⟩ rfl rfl (fun q h => by cases h; rfl) rfl (by omega) ?_
  refine g_aload_n hX d_Cand_init_25 rfl ?_
  refine g_iconst hX d_Cand_init_26 ?_
  refine g_putI hX fl_Cand_22 d_Cand_init_27 4 ⟨rfl, Nat.le_of_ble_eq_true rfl⟩ rfl rfl (fun q h => by cases h; rfl) rfl (by omega) ?_
  refine g_aload_n hX d_Cand_init_30 rfl ?_
  refine g_iconst hX d_Cand_init_31 ?_
  refine g_putI hX fl_Cand_25 d_Cand_init_32 5 ⟨rfl, Nat.le_of_ble_eq_true rfl⟩ rfl rfl (fun q h => by cases h; rfl) rfl (by omega) ?_
  refine g_aload_n hX d_Cand_init_35 rfl ?_
  refine g_aload_n hX d_Cand_init_36 rfl ?_
  refine g_putR (k := 21) (k' := 1) hX fl_Cand_28 d_Cand_init_37 rfl (by decide) rfl (fun q h => by cases h; rfl) (fun q h => by cases h; rfl) hR.2.2.2.2 rfl (fun _ => rfl) (fun _ => rfl) ?_
  refine g_retC hX hR d_Cand_init_40 ?_
  intro a ha
  rw [mU_cell (by omega), mU_cell (by omega), mU_cell (by omega)]
theorem c_Plan_init {Γ : gX} {l : Launch} {M : mI} {R : mR} (hM : ∀ a, 24 < a → ∀ j, M a j = 0) (hR0 : ∀ a, 24 < a → ∀ j, R a j = none) : CnC Γ l i_Plan_init R 25 (rU (rU (rU (rU (rU (rU (rU R 24 2 (some 25)) 24 3 (some 26)) 24 4 (some 27)) 24 5 (some 28)) 24 6 (some 29)) 24 0 (some 1)) 24 1 (some 21)) 30 5 543 [.ref (gb Γ + 24), .ref (gb Γ + 1), .ref (gb Γ + 21)] M (fun M' => ∀ a, a < 24 ∨ 30 ≤ a → M' a = M a) := by
  refine cnC_intro (L := [some (.ref (gb Γ + 24)), some (.ref (gb Γ + 1)), some (.ref (gb Γ + 21))]) yo_Plan_init rfl rfl (Nat.le_of_ble_eq_true rfl) rfl (fun X hX hR => ?_)
  have e1 := hR.2.2.1
  have e2 := hR.2.2.2.1
  refine g_aload_n hX d_Plan_init_0 rfl ?_
  refine g_obj (hl := q_93) hX d_Plan_init_1 (Nat.le_of_ble_eq_true rfl) (Nat.le_of_ble_eq_true rfl) ?_
  refine g_aload_n hX d_Plan_init_4 rfl ?_
  refine g_sipush hX d_Plan_init_5 rfl ?_
  refine g_newa (n := 180) hX d_Plan_init_8 rfl rfl (hM 25 (by decide)) ⟨by show 0 + 1 ≤ _; omega, by show 0 + 180 ≤ _; omega⟩ ?_
  refine g_putR (k := 24) (k' := 25) hX fl_Plan_9 d_Plan_init_10 rfl (by decide) rfl (fun q h => by cases h; rfl) (fun q h => by cases h; rfl) hR.2.2.2.2 rfl (fun _ => rfl) (fun _ => rfl) ?_
  refine g_aload_n hX d_Plan_init_13 rfl ?_
  refine g_sipush hX d_Plan_init_14 rfl ?_
  refine g_newa (n := 180) hX d_Plan_init_17 rfl rfl (hM 26 (by decide)) ⟨by show 1 + 1 ≤ _; omega, by show 180 + 180 ≤ _; omega⟩ ?_
  refine g_putR (k := 24) (k' := 26) hX fl_Plan_15 d_Plan_init_19 rfl (by decide) rfl (fun q h => by cases h; rfl) (fun q h => by cases h; rfl) hR.2.2.2.2 rfl (fun _ => rfl) (fun _ => rfl) ?_
  refine g_aload_n hX d_Plan_init_22 rfl ?_
  refine g_bipush hX d_Plan_init_23 rfl ?_
  refine g_newa (n := 62) hX d_Plan_init_25 rfl rfl (hM 27 (by decide)) ⟨by show 2 + 1 ≤ _; omega, by show 360 + 62 ≤ _; omega⟩ ?_
  refine g_putR (k := 24) (k' := 27) hX fl_Plan_18 d_Plan_init_27 rfl (by decide) rfl (fun q h => by cases h; rfl) (fun q h => by cases h; rfl) hR.2.2.2.2 rfl (fun _ => rfl) (fun _ => rfl) ?_
  refine g_aload_n hX d_Plan_init_30 rfl ?_
  refine g_bipush hX d_Plan_init_31 rfl ?_
  refine g_newa (n := 61) hX d_Plan_init_33 rfl rfl (hM 28 (by decide)) ⟨by show 3 + 1 ≤ _; omega, by show 422 + 61 ≤ _; omega⟩ ?_
  refine g_putR (k := 24) (k' := 28) hX fl_Plan_21 d_Plan_init_35 rfl (by decide) rfl (fun q h => by cases h; rfl) (fun q h => by cases h; rfl) hR.2.2.2.2 rfl (fun _ => rfl) (fun _ => rfl) ?_
  refine g_aload_n hX d_Plan_init_38 rfl ?_
  refine g_bipush hX d_Plan_init_39 rfl ?_
  refine g_newa (n := 60) hX d_Plan_init_41 rfl rfl (hM 29 (by decide)) ⟨by show 4 + 1 ≤ _; omega, by show 483 + 60 ≤ _; omega⟩ ?_
  refine g_putR (k := 24) (k' := 29) hX fl_Plan_24 d_Plan_init_43 rfl (by decide) rfl (fun q h => by cases h; rfl) (fun q h => by cases h; rfl) hR.2.2.2.2 rfl (fun _ => rfl) (fun _ => rfl) ?_
  refine g_aload_n hX d_Plan_init_46 rfl ?_
  refine g_iconst hX d_Plan_init_47 ?_
  refine g_putI hX fl_Plan_27 d_Plan_init_48 7 ⟨rfl, Nat.le_of_ble_eq_true rfl⟩ rfl rfl (fun q h => by cases h; rfl) rfl (by omega) ?_
  refine g_aload_n hX d_Plan_init_51 rfl ?_
  refine g_iconst hX d_Plan_init_52 ?_
  refine g_putI hX fl_Plan_31 d_Plan_init_53 8 ⟨rfl, Nat.le_of_ble_eq_true rfl⟩ rfl rfl (fun q h => by cases h; rfl) rfl (by omega) ?_
  refine g_aload_n hX d_Plan_init_56 rfl ?_
  refine g_iconst hX d_Plan_init_57 ?_
  refine g_putI hX fl_Plan_34 d_Plan_init_58 9 ⟨rfl, Nat.le_of_ble_eq_true rfl⟩ rfl rfl (fun q h => by cases h; rfl) rfl (by omega) ?_
  refine g_aload_n hX d_Plan_init_61 rfl ?_
  refine g_iconst hX d_Plan_init_62 ?_
  refine g_putI hX fl_Plan_37 d_Plan_init_63 10 ⟨rfl, Nat.le_of_ble_eq_true rfl⟩ rfl rfl (fun q h => by cases h; rfl) rfl (by omega) ?_
  refine g_aload_n hX d_Plan_init_66 rfl ?_
  refine g_aload_n hX d_Plan_init_67 rfl ?_
  refine g_putR (k := 24) (k' := 1) hX fl_Plan_40 d_Plan_init_68 rfl (by decide) rfl (fun q h => by cases h; rfl) (fun q h => by cases h; rfl) hR.2.2.2.2 rfl (fun _ => rfl) (fun _ => rfl) ?_
  refine g_aload_n hX d_Plan_init_71 rfl ?_
  refine g_aload_n hX d_Plan_init_72 rfl ?_
  refine g_putR (k := 24) (k' := 21) hX fl_Plan_44 d_Plan_init_73 rfl (by decide) rfl (fun q h => by cases h; rfl) (fun q h => by cases h; rfl) hR.2.2.2.2 rfl (fun _ => rfl) (fun _ => rfl) ?_
  refine g_retC hX hR d_Plan_init_76 ?_
  intro a ha
  rw [mU_cell (by omega), mU_cell (by omega), mU_cell (by omega), mU_cell (by omega)]
theorem c_Stretch_init {Γ : gX} {l : Launch} {M : mI} {R : mR} (hM : ∀ a, 30 < a → ∀ j, M a j = 0) (hR0 : ∀ a, 30 < a → ∀ j, R a j = none) : CnC Γ l i_Stretch_init R 31 (R) 31 0 0 [.ref (gb Γ + 30)] M (fun M' => ∀ a, a < 30 ∨ 31 ≤ a → M' a = M a) := by
  refine cnC_intro (L := [some (.ref (gb Γ + 30))]) yo_Stretch_init rfl rfl (Nat.le_of_ble_eq_true rfl) rfl (fun X hX hR => ?_)
  have e1 := hR.2.2.1
  have e2 := hR.2.2.2.1
  refine g_aload_n hX d_Stretch_init_0 rfl ?_
  refine g_obj (hl := q_133) hX d_Stretch_init_1 (Nat.le_of_ble_eq_true rfl) (Nat.le_of_ble_eq_true rfl) ?_
  refine g_aload_n hX d_Stretch_init_4 rfl ?_
  refine g_iconst hX d_Stretch_init_5 ?_
  refine g_putI hX fl_Stretch_7 d_Stretch_init_6 0 ⟨rfl, Nat.le_of_ble_eq_true rfl⟩ rfl rfl (fun q h => by cases h; rfl) rfl (by omega) ?_
  refine g_aload_n hX d_Stretch_init_9 rfl ?_
  refine g_iconst hX d_Stretch_init_10 ?_
  refine g_putI hX fl_Stretch_13 d_Stretch_init_11 1 ⟨rfl, Nat.le_of_ble_eq_true rfl⟩ rfl rfl (fun q h => by cases h; rfl) rfl (by omega) ?_
  refine g_aload_n hX d_Stretch_init_14 rfl ?_
  refine g_iconst hX d_Stretch_init_15 ?_
  refine g_putI hX fl_Stretch_16 d_Stretch_init_16 2 ⟨rfl, Nat.le_of_ble_eq_true rfl⟩ rfl rfl (fun q h => by cases h; rfl) rfl (by omega) ?_
  refine g_retC hX hR d_Stretch_init_19 ?_
  intro a ha
  rw [mU_cell (by omega), mU_cell (by omega), mU_cell (by omega)]
theorem c_Text_init {Γ : gX} {l : Launch} {M : mI} {R : mR} (hM : ∀ a, 31 < a → ∀ j, M a j = 0) (hR0 : ∀ a, 31 < a → ∀ j, R a j = none) : CnC Γ l i_Text_init R 32 (rU R 31 0 (some 32)) 33 1 120 [.ref (gb Γ + 31)] M (fun M' => M' 31 1 = 0 ∧ ∀ a, a < 31 ∨ 33 ≤ a → M' a = M a) := by
  refine cnC_intro (L := [some (.ref (gb Γ + 31))]) yo_Text_init rfl rfl (Nat.le_of_ble_eq_true rfl) rfl (fun X hX hR => ?_)
  have e1 := hR.2.2.1
  have e2 := hR.2.2.2.1
  refine g_aload_n hX d_Text_init_0 rfl ?_
  refine g_obj (hl := q_149) hX d_Text_init_1 (Nat.le_of_ble_eq_true rfl) (Nat.le_of_ble_eq_true rfl) ?_
  refine g_aload_n hX d_Text_init_4 rfl ?_
  refine g_bipush hX d_Text_init_5 rfl ?_
  refine g_newa (n := 120) hX d_Text_init_7 rfl rfl (hM 32 (by decide)) ⟨by show 0 + 1 ≤ _; omega, by show 0 + 120 ≤ _; omega⟩ ?_
  refine g_putR (k := 31) (k' := 32) hX fl_Text_9 d_Text_init_9 rfl (by decide) rfl (fun q h => by cases h; rfl) (fun q h => by cases h; rfl) hR.2.2.2.2 rfl (fun _ => rfl) (fun _ => rfl) ?_
  refine g_aload_n hX d_Text_init_12 rfl ?_
  refine g_iconst hX d_Text_init_13 ?_
  refine g_putI hX fl_Text_15 d_Text_init_14 1 ⟨rfl, Nat.le_of_ble_eq_true rfl⟩ rfl rfl (fun q h => by cases h; rfl) rfl (by omega) ?_
  refine g_retC hX hR d_Text_init_17 ?_
  refine ⟨by rw [mU_self], fun a ha => ?_⟩
  rw [mU_cell (by omega)]
theorem c_Reader_init {Γ : gX} {l : Launch} {M : mI} {R : mR} (hM : ∀ a, 33 < a → ∀ j, M a j = 0) (hR0 : ∀ a, 33 < a → ∀ j, R a j = none) : CnC Γ l i_Reader_init R 34 (rU (rU (rU (rU (rU R 34 0 (some 35)) 34 1 (some 36)) 33 2 (some 34)) 33 0 (some 31)) 33 1 (some 1)) 37 3 68 [.ref (gb Γ + 33), .ref (gb Γ + 31), .ref (gb Γ + 1)] M (fun M' => ∀ a, a < 33 ∨ 37 ≤ a → M' a = M a) := by
  refine cnC_intro (L := [some (.ref (gb Γ + 33)), some (.ref (gb Γ + 31)), some (.ref (gb Γ + 1))]) yo_Reader_init rfl rfl (Nat.le_of_ble_eq_true rfl) rfl (fun X hX hR => ?_)
  have e1 := hR.2.2.1
  have e2 := hR.2.2.2.1
  refine g_aload_n hX d_Reader_init_0 rfl ?_
  refine g_obj (hl := q_162) hX d_Reader_init_1 (Nat.le_of_ble_eq_true rfl) (Nat.le_of_ble_eq_true rfl) ?_
  refine g_aload_n hX d_Reader_init_4 rfl ?_
  refine g_new (ci := 1) (N := 3) hX rfl q_163 q_20 q_2 d_Reader_init_5 rfl rfl (fun j => hM 34 (by decide) j) (fun j => by exact hR0 34 (by decide) j) ⟨by show 0 + 1 ≤ _; omega, by show 0 + 3 ≤ _; omega⟩ ?_
  refine g_dup hX d_Reader_init_8 rfl ?_
  refine g_init (k := 34) hX yo_State_init rfl rfl q_22 q_164 d_Reader_init_9 (c_State_init (k := 34) rfl rfl rfl (fun a ha j => by exact hM a (by omega) j) (fun a ha j => by exact hR0 a (by omega) j)) rfl rfl (by decide) (Nat.le_of_ble_eq_true rfl) ⟨by show 1 + 2 ≤ _; omega, by show 3 + 65 ≤ _; omega⟩ (fun M_9 hp_9 => ?_)
  refine g_putR (k := 33) (k' := 34) hX fl_Reader_12 d_Reader_init_12 rfl (by decide) rfl (fun q h => by cases h; rfl) (fun q h => by cases h; rfl) hR.2.2.2.2 rfl (fun _ => rfl) (fun _ => rfl) ?_
  refine g_aload_n hX d_Reader_init_15 rfl ?_
  refine g_iconst hX d_Reader_init_16 ?_
  refine g_putI hX fl_Reader_18 d_Reader_init_17 3 ⟨rfl, Nat.le_of_ble_eq_true rfl⟩ rfl rfl (fun q h => by cases h; rfl) rfl (by omega) ?_
  refine g_aload_n hX d_Reader_init_20 rfl ?_
  refine g_iconst hX d_Reader_init_21 ?_
  refine g_putI hX fl_Reader_22 d_Reader_init_22 4 ⟨rfl, Nat.le_of_ble_eq_true rfl⟩ rfl rfl (fun q h => by cases h; rfl) rfl (by omega) ?_
  refine g_aload_n hX d_Reader_init_25 rfl ?_
  refine g_iconst hX d_Reader_init_26 ?_
  refine g_putI hX fl_Reader_25 d_Reader_init_27 5 ⟨rfl, Nat.le_of_ble_eq_true rfl⟩ rfl rfl (fun q h => by cases h; rfl) rfl (by omega) ?_
  refine g_aload_n hX d_Reader_init_30 rfl ?_
  refine g_aload_n hX d_Reader_init_31 rfl ?_
  refine g_putR (k := 33) (k' := 31) hX fl_Reader_28 d_Reader_init_32 rfl (by decide) rfl (fun q h => by cases h; rfl) (fun q h => by cases h; rfl) hR.2.2.2.2 rfl (fun _ => rfl) (fun _ => rfl) ?_
  refine g_aload_n hX d_Reader_init_35 rfl ?_
  refine g_aload_n hX d_Reader_init_36 rfl ?_
  refine g_putR (k := 33) (k' := 1) hX fl_Reader_32 d_Reader_init_37 rfl (by decide) rfl (fun q h => by cases h; rfl) (fun q h => by cases h; rfl) hR.2.2.2.2 rfl (fun _ => rfl) (fun _ => rfl) ?_
  refine g_retC hX hR d_Reader_init_40 ?_
  intro a ha
  rw [mU_cell (by omega), mU_cell (by omega), mU_cell (by omega)]
  exact hp_9.2.2 a (by omega) (by omega)
theorem c_History_init {Γ : gX} {l : Launch} {M : mI} {R : mR} (hM : ∀ a, 7 < a → ∀ j, M a j = 0) (hR0 : ∀ a, 7 < a → ∀ j, R a j = none) : CnC Γ l i_History_init R 8 (rU (rU (rU (rU (rU (rU (rU (rU (rU (rU (rU (rU (rU R 7 0 (some 8)) 9 0 (some 10)) 9 1 (some 11)) 8 0 (some 9)) 12 0 (some 13)) 12 1 (some 14)) 8 1 (some 12)) 15 0 (some 16)) 15 1 (some 17)) 8 2 (some 15)) 18 0 (some 19)) 18 1 (some 20)) 8 3 (some 18)) 21 13 276 [.ref (gb Γ + 7)] M (fun M' => M' 7 1 = 0 ∧ M' 7 2 = 0 ∧ ∀ a, a < 7 ∨ 21 ≤ a → M' a = M a) := by
  refine cnC_intro (L := [some (.ref (gb Γ + 7)), none]) yo_History_init rfl rfl (Nat.le_of_ble_eq_true rfl) rfl (fun X hX hR => ?_)
  have e1 := hR.2.2.1
  have e2 := hR.2.2.2.1
  refine g_aload_n hX d_History_init_0 rfl ?_
  refine g_obj (hl := q_49) hX d_History_init_1 (Nat.le_of_ble_eq_true rfl) (Nat.le_of_ble_eq_true rfl) ?_
  refine g_aload_n hX d_History_init_4 rfl ?_
  refine g_iconst hX d_History_init_5 ?_
  refine g_anew (n := 4) hX q_50 d_History_init_6 rfl rfl (fun j => by exact hR0 8 (by decide) j) ⟨by show 0 + 1 ≤ _; omega, by show 0 + 4 ≤ _; omega⟩ ?_
  refine g_putR (k := 7) (k' := 8) hX fl_History_11 d_History_init_9 rfl (by decide) rfl (fun q h => by cases h; rfl) (fun q h => by cases h; rfl) hR.2.2.2.2 rfl (fun _ => rfl) (fun _ => rfl) ?_
  refine g_aload_n hX d_History_init_12 rfl ?_
  refine g_iconst hX d_History_init_13 ?_
  refine g_putI hX fl_History_17 d_History_init_14 1 ⟨rfl, Nat.le_of_ble_eq_true rfl⟩ rfl rfl (fun q h => by cases h; rfl) rfl (by omega) ?_
  refine g_aload_n hX d_History_init_17 rfl ?_
  refine g_iconst hX d_History_init_18 ?_
  refine g_putI hX fl_History_21 d_History_init_19 2 ⟨rfl, Nat.le_of_ble_eq_true rfl⟩ rfl rfl (fun q h => by cases h; rfl) rfl (by omega) ?_
  refine g_iconst hX d_History_init_22 ?_
  refine g_istore_n hX d_History_init_23 (by decide) ?_
  refine g_iload_n hX d_History_init_24 rfl ?_
  refine g_aload_n hX d_History_init_25 rfl ?_
  refine g_getR (k' := 8) hX fl_History_11 d_History_init_26 ⟨rfl, Nat.le_of_ble_eq_true rfl⟩ (by simp [rU]) rfl ?_
  refine g_alenS (n := 4) hX d_History_init_29 ⟨rfl, Nat.le_of_ble_eq_true rfl⟩ ?_
  refine g_icmp_ge 52 hX d_History_init_30 (by decide) (by omega) (by omega) (fun h_30 => absurd h_30 (by omega)) (fun h_30 => ?_)
  refine g_aload_n hX d_History_init_33 rfl ?_
  refine g_getR (k' := 8) hX fl_History_11 d_History_init_34 ⟨rfl, Nat.le_of_ble_eq_true rfl⟩ (by simp [rU]) rfl ?_
  refine g_iload_n hX d_History_init_37 rfl ?_
  refine g_new (ci := 1) (N := 3) hX rfl q_50 q_20 q_2 d_History_init_38 rfl rfl (fun j => by rw [mU_cell (by omega), mU_cell (by omega)]; exact hM 9 (by decide) j) (fun j => by rw [rU_cell (by decide)]; exact hR0 9 (by decide) j) ⟨by show 1 + 1 ≤ _; omega, by show 4 + 3 ≤ _; omega⟩ ?_
  refine g_dup hX d_History_init_41 rfl ?_
  refine g_init (k := 9) hX yo_State_init rfl rfl q_22 q_52 d_History_init_42 (c_State_init (k := 9) rfl rfl rfl (fun a ha j => by rw [mU_cell (by omega), mU_cell (by omega)]; exact hM a (by omega) j) (fun a ha j => by rw [rU_cell (by omega)]; exact hR0 a (by omega) j)) rfl rfl (by decide) (Nat.le_of_ble_eq_true rfl) ⟨by show 2 + 2 ≤ _; omega, by show 7 + 65 ≤ _; omega⟩ (fun M_42 hp_42 => ?_)
  refine g_aast (k := 8) (k' := 9) (n := 4) (j := 0) hX d_History_init_45 rfl (Nat.le_of_ble_eq_true rfl) rfl (Nat.le_of_ble_eq_true rfl) (by omega) (by decide) ?_
  refine g_iinc hX d_History_init_46 rfl (by decide) ?_
  refine g_goto 24 hX d_History_init_49 (by decide) ?_
  refine g_iload_n hX d_History_init_24 rfl ?_
  refine g_aload_n hX d_History_init_25 rfl ?_
  refine g_getR (k' := 8) hX fl_History_11 d_History_init_26 ⟨rfl, Nat.le_of_ble_eq_true rfl⟩ (by simp [rU]) rfl ?_
  refine g_alenS (n := 4) hX d_History_init_29 ⟨rfl, Nat.le_of_ble_eq_true rfl⟩ ?_
  refine g_icmp_ge 52 hX d_History_init_30 (by decide) (by omega) (by omega) (fun h_30_1 => absurd h_30_1 (by omega)) (fun h_30_1 => ?_)
  refine g_aload_n hX d_History_init_33 rfl ?_
  refine g_getR (k' := 8) hX fl_History_11 d_History_init_34 ⟨rfl, Nat.le_of_ble_eq_true rfl⟩ (by simp [rU]) rfl ?_
  refine g_iload_n hX d_History_init_37 rfl ?_
  refine g_new (ci := 1) (N := 3) hX rfl q_50 q_20 q_2 d_History_init_38 rfl rfl (fun j => by rw [hp_42.2.2 12 (by omega) (by omega), mU_cell (by omega), mU_cell (by omega)]; exact hM 12 (by decide) j) (fun j => by rw [rU_cell (by decide), rU_cell (by decide), rU_cell (by decide), rU_cell (by decide)]; exact hR0 12 (by decide) j) ⟨by show 4 + 1 ≤ _; omega, by show 72 + 3 ≤ _; omega⟩ ?_
  refine g_dup hX d_History_init_41 rfl ?_
  refine g_init (k := 12) hX yo_State_init rfl rfl q_22 q_52 d_History_init_42 (c_State_init (k := 12) rfl rfl rfl (fun a ha j => by rw [hp_42.2.2 a (by omega) (by omega), mU_cell (by omega), mU_cell (by omega)]; exact hM a (by omega) j) (fun a ha j => by rw [rU_cell (by omega), rU_cell (by omega), rU_cell (by omega), rU_cell (by omega)]; exact hR0 a (by omega) j)) rfl rfl (by decide) (Nat.le_of_ble_eq_true rfl) ⟨by show 5 + 2 ≤ _; omega, by show 75 + 65 ≤ _; omega⟩ (fun M_42_1 hp_42_1 => ?_)
  refine g_aast (k := 8) (k' := 12) (n := 4) (j := 1) hX d_History_init_45 rfl (Nat.le_of_ble_eq_true rfl) rfl (Nat.le_of_ble_eq_true rfl) (by omega) (by decide) ?_
  refine g_iinc hX d_History_init_46 rfl (by decide) ?_
  refine g_goto 24 hX d_History_init_49 (by decide) ?_
  refine g_iload_n hX d_History_init_24 rfl ?_
  refine g_aload_n hX d_History_init_25 rfl ?_
  refine g_getR (k' := 8) hX fl_History_11 d_History_init_26 ⟨rfl, Nat.le_of_ble_eq_true rfl⟩ (by simp [rU]) rfl ?_
  refine g_alenS (n := 4) hX d_History_init_29 ⟨rfl, Nat.le_of_ble_eq_true rfl⟩ ?_
  refine g_icmp_ge 52 hX d_History_init_30 (by decide) (by omega) (by omega) (fun h_30_2 => absurd h_30_2 (by omega)) (fun h_30_2 => ?_)
  refine g_aload_n hX d_History_init_33 rfl ?_
  refine g_getR (k' := 8) hX fl_History_11 d_History_init_34 ⟨rfl, Nat.le_of_ble_eq_true rfl⟩ (by simp [rU]) rfl ?_
  refine g_iload_n hX d_History_init_37 rfl ?_
  refine g_new (ci := 1) (N := 3) hX rfl q_50 q_20 q_2 d_History_init_38 rfl rfl (fun j => by rw [hp_42_1.2.2 15 (by omega) (by omega), hp_42.2.2 15 (by omega) (by omega), mU_cell (by omega), mU_cell (by omega)]; exact hM 15 (by decide) j) (fun j => by rw [rU_cell (by decide), rU_cell (by decide), rU_cell (by decide), rU_cell (by decide), rU_cell (by decide), rU_cell (by decide), rU_cell (by decide)]; exact hR0 15 (by decide) j) ⟨by show 7 + 1 ≤ _; omega, by show 140 + 3 ≤ _; omega⟩ ?_
  refine g_dup hX d_History_init_41 rfl ?_
  refine g_init (k := 15) hX yo_State_init rfl rfl q_22 q_52 d_History_init_42 (c_State_init (k := 15) rfl rfl rfl (fun a ha j => by rw [hp_42_1.2.2 a (by omega) (by omega), hp_42.2.2 a (by omega) (by omega), mU_cell (by omega), mU_cell (by omega)]; exact hM a (by omega) j) (fun a ha j => by rw [rU_cell (by omega), rU_cell (by omega), rU_cell (by omega), rU_cell (by omega), rU_cell (by omega), rU_cell (by omega), rU_cell (by omega)]; exact hR0 a (by omega) j)) rfl rfl (by decide) (Nat.le_of_ble_eq_true rfl) ⟨by show 8 + 2 ≤ _; omega, by show 143 + 65 ≤ _; omega⟩ (fun M_42_2 hp_42_2 => ?_)
  refine g_aast (k := 8) (k' := 15) (n := 4) (j := 2) hX d_History_init_45 rfl (Nat.le_of_ble_eq_true rfl) rfl (Nat.le_of_ble_eq_true rfl) (by omega) (by decide) ?_
  refine g_iinc hX d_History_init_46 rfl (by decide) ?_
  refine g_goto 24 hX d_History_init_49 (by decide) ?_
  refine g_iload_n hX d_History_init_24 rfl ?_
  refine g_aload_n hX d_History_init_25 rfl ?_
  refine g_getR (k' := 8) hX fl_History_11 d_History_init_26 ⟨rfl, Nat.le_of_ble_eq_true rfl⟩ (by simp [rU]) rfl ?_
  refine g_alenS (n := 4) hX d_History_init_29 ⟨rfl, Nat.le_of_ble_eq_true rfl⟩ ?_
  refine g_icmp_ge 52 hX d_History_init_30 (by decide) (by omega) (by omega) (fun h_30_3 => absurd h_30_3 (by omega)) (fun h_30_3 => ?_)
  refine g_aload_n hX d_History_init_33 rfl ?_
  refine g_getR (k' := 8) hX fl_History_11 d_History_init_34 ⟨rfl, Nat.le_of_ble_eq_true rfl⟩ (by simp [rU]) rfl ?_
  refine g_iload_n hX d_History_init_37 rfl ?_
  refine g_new (ci := 1) (N := 3) hX rfl q_50 q_20 q_2 d_History_init_38 rfl rfl (fun j => by rw [hp_42_2.2.2 18 (by omega) (by omega), hp_42_1.2.2 18 (by omega) (by omega), hp_42.2.2 18 (by omega) (by omega), mU_cell (by omega), mU_cell (by omega)]; exact hM 18 (by decide) j) (fun j => by rw [rU_cell (by decide), rU_cell (by decide), rU_cell (by decide), rU_cell (by decide), rU_cell (by decide), rU_cell (by decide), rU_cell (by decide), rU_cell (by decide), rU_cell (by decide), rU_cell (by decide)]; exact hR0 18 (by decide) j) ⟨by show 10 + 1 ≤ _; omega, by show 208 + 3 ≤ _; omega⟩ ?_
  refine g_dup hX d_History_init_41 rfl ?_
  refine g_init (k := 18) hX yo_State_init rfl rfl q_22 q_52 d_History_init_42 (c_State_init (k := 18) rfl rfl rfl (fun a ha j => by rw [hp_42_2.2.2 a (by omega) (by omega), hp_42_1.2.2 a (by omega) (by omega), hp_42.2.2 a (by omega) (by omega), mU_cell (by omega), mU_cell (by omega)]; exact hM a (by omega) j) (fun a ha j => by rw [rU_cell (by omega), rU_cell (by omega), rU_cell (by omega), rU_cell (by omega), rU_cell (by omega), rU_cell (by omega), rU_cell (by omega), rU_cell (by omega), rU_cell (by omega), rU_cell (by omega)]; exact hR0 a (by omega) j)) rfl rfl (by decide) (Nat.le_of_ble_eq_true rfl) ⟨by show 11 + 2 ≤ _; omega, by show 211 + 65 ≤ _; omega⟩ (fun M_42_3 hp_42_3 => ?_)
  refine g_aast (k := 8) (k' := 18) (n := 4) (j := 3) hX d_History_init_45 rfl (Nat.le_of_ble_eq_true rfl) rfl (Nat.le_of_ble_eq_true rfl) (by omega) (by decide) ?_
  refine g_iinc hX d_History_init_46 rfl (by decide) ?_
  refine g_goto 24 hX d_History_init_49 (by decide) ?_
  refine g_iload_n hX d_History_init_24 rfl ?_
  refine g_aload_n hX d_History_init_25 rfl ?_
  refine g_getR (k' := 8) hX fl_History_11 d_History_init_26 ⟨rfl, Nat.le_of_ble_eq_true rfl⟩ (by simp [rU]) rfl ?_
  refine g_alenS (n := 4) hX d_History_init_29 ⟨rfl, Nat.le_of_ble_eq_true rfl⟩ ?_
  refine g_icmp_ge 52 hX d_History_init_30 (by decide) (by omega) (by omega) (fun h_30_4 => ?_) (fun h_30_4 => absurd h_30_4 (by omega))
  refine g_retC hX hR d_History_init_52 ?_
  refine ⟨by rw [hp_42_3.2.2 7 (by decide) (by decide), hp_42_2.2.2 7 (by decide) (by decide), hp_42_1.2.2 7 (by decide) (by decide), hp_42.2.2 7 (by decide) (by decide), mU_slot (by decide), mU_self], by rw [hp_42_3.2.2 7 (by decide) (by decide), hp_42_2.2.2 7 (by decide) (by decide), hp_42_1.2.2 7 (by decide) (by decide), hp_42.2.2 7 (by decide) (by decide), mU_self], fun a ha => by rw [hp_42_3.2.2 a (by omega) (by omega), hp_42_2.2.2 a (by omega) (by omega), hp_42_1.2.2 a (by omega) (by omega), hp_42.2.2 a (by omega) (by omega), mU_cell (by omega), mU_cell (by omega)]⟩
theorem c_Mo_init {Γ : gX} {l : Launch} {M : mI} {R : mR} (hM : ∀ a, 37 < a → ∀ j, M a j = 0) (hR0 : ∀ a, 37 < a → ∀ j, R a j = none) : CnC Γ l i_Mo_init R 38 (rU (rU (rU (rU (rU (rU (rU (rU (rU (rU (rU (rU (rU R 37 0 (some 38)) 37 1 (some 39)) 37 2 (some 40)) 37 5 (some 41)) 37 7 (some 42)) 37 8 (some 43)) 37 9 (some 44)) 37 11 (some 45)) 37 12 (some 46)) 37 13 (some 47)) 37 14 (some 48)) 37 15 (some 49)) 37 20 (some 50)) 51 13 1057 [.ref (gb Γ + 37)] M (fun M' => (∀ j, 0 ≤ j → j < 5 → M' 38 (1 + j) = fFirst j) ∧ M' 38 0 = 0 ∧ ∀ a, a ≠ 38 → M' a = M a) := by
  refine cnC_intro (L := [some (.ref (gb Γ + 37))]) yo_Mo_init rfl rfl (Nat.le_of_ble_eq_true rfl) rfl (fun X hX hR => ?_)
  have e1 := hR.2.2.1
  have e2 := hR.2.2.2.1
  refine g_aload_n hX d_Mo_init_0 rfl ?_
  refine g_obj (hl := q_663) hX d_Mo_init_1 (Nat.le_of_ble_eq_true rfl) (Nat.le_of_ble_eq_true rfl) ?_
  refine g_aload_n hX d_Mo_init_4 rfl ?_
  refine g_bipush hX d_Mo_init_5 rfl ?_
  refine g_newa (n := 66) hX d_Mo_init_7 rfl rfl (hM 38 (by decide)) ⟨by show 0 + 1 ≤ _; omega, by show 0 + 66 ≤ _; omega⟩ ?_
  refine g_putR (k := 37) (k' := 38) hX fl_Mo_7 d_Mo_init_9 rfl (by decide) rfl (fun q h => by cases h; rfl) (fun q h => by cases h; rfl) hR.2.2.2.2 rfl (fun _ => rfl) (fun _ => rfl) ?_
  refine g_aload_n hX d_Mo_init_12 rfl ?_
  refine g_sipush hX d_Mo_init_13 rfl ?_
  refine g_newa (n := 264) hX d_Mo_init_16 rfl rfl (hM 39 (by decide)) ⟨by show 1 + 1 ≤ _; omega, by show 66 + 264 ≤ _; omega⟩ ?_
  refine g_putR (k := 37) (k' := 39) hX fl_Mo_13 d_Mo_init_18 rfl (by decide) rfl (fun q h => by cases h; rfl) (fun q h => by cases h; rfl) hR.2.2.2.2 rfl (fun _ => rfl) (fun _ => rfl) ?_
  refine g_aload_n hX d_Mo_init_21 rfl ?_
  refine g_bipush hX d_Mo_init_22 rfl ?_
  refine g_newa (n := 66) hX d_Mo_init_24 rfl rfl (hM 40 (by decide)) ⟨by show 2 + 1 ≤ _; omega, by show 330 + 66 ≤ _; omega⟩ ?_
  refine g_putR (k := 37) (k' := 40) hX fl_Mo_16 d_Mo_init_26 rfl (by decide) rfl (fun q h => by cases h; rfl) (fun q h => by cases h; rfl) hR.2.2.2.2 rfl (fun _ => rfl) (fun _ => rfl) ?_
  refine g_aload_n hX d_Mo_init_29 rfl ?_
  refine g_bipush hX d_Mo_init_30 rfl ?_
  refine g_newa (n := 120) hX d_Mo_init_32 rfl rfl (hM 41 (by decide)) ⟨by show 3 + 1 ≤ _; omega, by show 396 + 120 ≤ _; omega⟩ ?_
  refine g_putR (k := 37) (k' := 41) hX fl_Mo_19 d_Mo_init_34 rfl (by decide) rfl (fun q h => by cases h; rfl) (fun q h => by cases h; rfl) hR.2.2.2.2 rfl (fun _ => rfl) (fun _ => rfl) ?_
  refine g_aload_n hX d_Mo_init_37 rfl ?_
  refine g_bipush hX d_Mo_init_38 rfl ?_
  refine g_newa (n := 60) hX d_Mo_init_40 rfl rfl (hM 42 (by decide)) ⟨by show 4 + 1 ≤ _; omega, by show 516 + 60 ≤ _; omega⟩ ?_
  refine g_putR (k := 37) (k' := 42) hX fl_Mo_22 d_Mo_init_42 rfl (by decide) rfl (fun q h => by cases h; rfl) (fun q h => by cases h; rfl) hR.2.2.2.2 rfl (fun _ => rfl) (fun _ => rfl) ?_
  refine g_aload_n hX d_Mo_init_45 rfl ?_
  refine g_bipush hX d_Mo_init_46 rfl ?_
  refine g_newa (n := 60) hX d_Mo_init_48 rfl rfl (hM 43 (by decide)) ⟨by show 5 + 1 ≤ _; omega, by show 576 + 60 ≤ _; omega⟩ ?_
  refine g_putR (k := 37) (k' := 43) hX fl_Mo_25 d_Mo_init_50 rfl (by decide) rfl (fun q h => by cases h; rfl) (fun q h => by cases h; rfl) hR.2.2.2.2 rfl (fun _ => rfl) (fun _ => rfl) ?_
  refine g_aload_n hX d_Mo_init_53 rfl ?_
  refine g_bipush hX d_Mo_init_54 rfl ?_
  refine g_newa (n := 60) hX d_Mo_init_56 rfl rfl (hM 44 (by decide)) ⟨by show 6 + 1 ≤ _; omega, by show 636 + 60 ≤ _; omega⟩ ?_
  refine g_putR (k := 37) (k' := 44) hX fl_Mo_28 d_Mo_init_58 rfl (by decide) rfl (fun q h => by cases h; rfl) (fun q h => by cases h; rfl) hR.2.2.2.2 rfl (fun _ => rfl) (fun _ => rfl) ?_
  refine g_aload_n hX d_Mo_init_61 rfl ?_
  refine g_bipush hX d_Mo_init_62 rfl ?_
  refine g_newa (n := 61) hX d_Mo_init_64 rfl rfl (hM 45 (by decide)) ⟨by show 7 + 1 ≤ _; omega, by show 696 + 61 ≤ _; omega⟩ ?_
  refine g_putR (k := 37) (k' := 45) hX fl_Mo_31 d_Mo_init_66 rfl (by decide) rfl (fun q h => by cases h; rfl) (fun q h => by cases h; rfl) hR.2.2.2.2 rfl (fun _ => rfl) (fun _ => rfl) ?_
  refine g_aload_n hX d_Mo_init_69 rfl ?_
  refine g_bipush hX d_Mo_init_70 rfl ?_
  refine g_newa (n := 60) hX d_Mo_init_72 rfl rfl (hM 46 (by decide)) ⟨by show 8 + 1 ≤ _; omega, by show 757 + 60 ≤ _; omega⟩ ?_
  refine g_putR (k := 37) (k' := 46) hX fl_Mo_34 d_Mo_init_74 rfl (by decide) rfl (fun q h => by cases h; rfl) (fun q h => by cases h; rfl) hR.2.2.2.2 rfl (fun _ => rfl) (fun _ => rfl) ?_
  refine g_aload_n hX d_Mo_init_77 rfl ?_
  refine g_bipush hX d_Mo_init_78 rfl ?_
  refine g_newa (n := 60) hX d_Mo_init_80 rfl rfl (hM 47 (by decide)) ⟨by show 9 + 1 ≤ _; omega, by show 817 + 60 ≤ _; omega⟩ ?_
  refine g_putR (k := 37) (k' := 47) hX fl_Mo_37 d_Mo_init_82 rfl (by decide) rfl (fun q h => by cases h; rfl) (fun q h => by cases h; rfl) hR.2.2.2.2 rfl (fun _ => rfl) (fun _ => rfl) ?_
  refine g_aload_n hX d_Mo_init_85 rfl ?_
  refine g_bipush hX d_Mo_init_86 rfl ?_
  refine g_newa (n := 60) hX d_Mo_init_88 rfl rfl (hM 48 (by decide)) ⟨by show 10 + 1 ≤ _; omega, by show 877 + 60 ≤ _; omega⟩ ?_
  refine g_putR (k := 37) (k' := 48) hX fl_Mo_40 d_Mo_init_90 rfl (by decide) rfl (fun q h => by cases h; rfl) (fun q h => by cases h; rfl) hR.2.2.2.2 rfl (fun _ => rfl) (fun _ => rfl) ?_
  refine g_aload_n hX d_Mo_init_93 rfl ?_
  refine g_bipush hX d_Mo_init_94 rfl ?_
  refine g_newa (n := 60) hX d_Mo_init_96 rfl rfl (hM 49 (by decide)) ⟨by show 11 + 1 ≤ _; omega, by show 937 + 60 ≤ _; omega⟩ ?_
  refine g_putR (k := 37) (k' := 49) hX fl_Mo_43 d_Mo_init_98 rfl (by decide) rfl (fun q h => by cases h; rfl) (fun q h => by cases h; rfl) hR.2.2.2.2 rfl (fun _ => rfl) (fun _ => rfl) ?_
  refine g_aload_n hX d_Mo_init_101 rfl ?_
  refine g_bipush hX d_Mo_init_102 rfl ?_
  refine g_newa (n := 60) hX d_Mo_init_104 rfl rfl (hM 50 (by decide)) ⟨by show 12 + 1 ≤ _; omega, by show 997 + 60 ≤ _; omega⟩ ?_
  refine g_putR (k := 37) (k' := 50) hX fl_Mo_46 d_Mo_init_106 rfl (by decide) rfl (fun q h => by cases h; rfl) (fun q h => by cases h; rfl) hR.2.2.2.2 rfl (fun _ => rfl) (fun _ => rfl) ?_
  refine g_aload_n hX d_Mo_init_109 rfl ?_
  refine g_getR (k' := 38) hX fl_Mo_7 d_Mo_init_110 ⟨rfl, Nat.le_of_ble_eq_true rfl⟩ (by simp [rU]) rfl ?_
  refine g_iconst hX d_Mo_init_113 ?_
  refine g_bipush hX d_Mo_init_114 rfl ?_
  refine g_iast hX d_Mo_init_116 ⟨rfl, Nat.le_of_ble_eq_true rfl⟩ (by omega) (by omega) ?_
  refine g_aload_n hX d_Mo_init_117 rfl ?_
  refine g_getR (k' := 38) hX fl_Mo_7 d_Mo_init_118 ⟨rfl, Nat.le_of_ble_eq_true rfl⟩ (by simp [rU]) rfl ?_
  refine g_iconst hX d_Mo_init_121 ?_
  refine g_iconst hX d_Mo_init_122 ?_
  refine g_iast hX d_Mo_init_123 ⟨rfl, Nat.le_of_ble_eq_true rfl⟩ (by omega) (by omega) ?_
  refine g_aload_n hX d_Mo_init_124 rfl ?_
  refine g_getR (k' := 38) hX fl_Mo_7 d_Mo_init_125 ⟨rfl, Nat.le_of_ble_eq_true rfl⟩ (by simp [rU]) rfl ?_
  refine g_iconst hX d_Mo_init_128 ?_
  refine g_bipush hX d_Mo_init_129 rfl ?_
  refine g_iast hX d_Mo_init_131 ⟨rfl, Nat.le_of_ble_eq_true rfl⟩ (by omega) (by omega) ?_
  refine g_aload_n hX d_Mo_init_132 rfl ?_
  refine g_getR (k' := 38) hX fl_Mo_7 d_Mo_init_133 ⟨rfl, Nat.le_of_ble_eq_true rfl⟩ (by simp [rU]) rfl ?_
  refine g_iconst hX d_Mo_init_136 ?_
  refine g_bipush hX d_Mo_init_137 rfl ?_
  refine g_iast hX d_Mo_init_139 ⟨rfl, Nat.le_of_ble_eq_true rfl⟩ (by omega) (by omega) ?_
  refine g_aload_n hX d_Mo_init_140 rfl ?_
  refine g_getR (k' := 38) hX fl_Mo_7 d_Mo_init_141 ⟨rfl, Nat.le_of_ble_eq_true rfl⟩ (by simp [rU]) rfl ?_
  refine g_iconst hX d_Mo_init_144 ?_
  refine g_bipush hX d_Mo_init_145 rfl ?_
  refine g_iast hX d_Mo_init_147 ⟨rfl, Nat.le_of_ble_eq_true rfl⟩ (by omega) (by omega) ?_
  refine g_retC hX hR d_Mo_init_148 ?_
  refine ⟨fun j u v => ?_, by rw [mU_slot (by decide), mU_slot (by decide), mU_slot (by decide), mU_slot (by decide), mU_slot (by decide)]; exact hM 38 (by decide) 0, fun a u => by rw [mU_cell u, mU_cell u, mU_cell u, mU_cell u, mU_cell u]⟩
  have hj : j = 0 ∨ j = 1 ∨ j = 2 ∨ j = 3 ∨ j = 4 := by omega
  rcases hj with e | e | e | e | e
  all_goals subst e
  all_goals simp [mU, fFirst]
