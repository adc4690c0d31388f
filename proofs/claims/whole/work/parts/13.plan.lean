theorem mul_bd {a b c d : Int} (h1 : 0 ≤ a) (h2 : a ≤ c) (h3 : 0 ≤ b) (h4 : b ≤ d) : 0 ≤ a * b ∧ a * b ≤ c * d := ⟨Int.mul_nonneg h1 h3, Int.mul_le_mul h2 h4 h3 (by omega)⟩
theorem mU_over2 (M : mI) (k1 k2 : Nat) (j v w v' w' : Int) (h : k1 ≠ k2) : mU (mU (mU (mU M k1 j v) k2 j w) k1 j v') k2 j w' = mU (mU M k1 j v') k2 j w' := by
  funext a i
  unfold mU
  by_cases h1 : a = k2 ∧ i = j
  · rw [if_pos h1, if_pos h1]
  · rw [if_neg h1, if_neg h1]
    by_cases h2 : a = k1 ∧ i = j
    · simp only [if_pos h2, if_neg h1]
    · simp only [if_neg h2, if_neg h1]
theorem c_Plan_planPart {Γ : gX} {l : Launch} {M : mI} {w p d c : Int} (hw : 0 ≤ w ∧ w ≤ 2) (hp : 0 ≤ p ∧ p < 60) (hd : iR d) (hc : iR c) : Cn Γ l i_Plan_planPart R0 51 [.ref (gb Γ + 24), vI w, vI p, vI d, vI c] M (pV (fun M' => M' = mU (mU M 25 (w * 60 + p) d) 26 (w * 60 + p) c)) := by
  refine cn_intro (L := [some (.ref (gb Γ + 24)), some (vI w), some (vI p), some (vI d), some (vI c)]) yo_Plan_planPart.1 rfl (Nat.le_of_ble_eq_true rfl) rfl (fun X hX hR => ?_)
  refine g_aload_n hX d_Plan_planPart_0 rfl ?_
  refine g_getR hX fl_Plan_9 d_Plan_planPart_1 ⟨rfl, by decide⟩ rfl rfl ?_
  refine g_iload_n hX d_Plan_planPart_4 rfl ?_
  refine g_bipush hX d_Plan_planPart_5 rfl ?_
  refine g_imul hX d_Plan_planPart_7 ?_
  refine g_iload_n hX d_Plan_planPart_8 rfl ?_
  refine g_iadd hX d_Plan_planPart_9 ?_
  refine g_iload_n hX d_Plan_planPart_10 rfl ?_
  refine g_callSN (host := "WindowCopies") hX yo_WC_store (by unfold nestWs; simp) d_Plan_planPart_11 (c_WC_store (k := 25) rfl (by decide) (n := 180) (by omega) hd) rfl rfl (by decide) (Nat.le_of_ble_eq_true rfl) ⟨Nat.zero_le _, Nat.zero_le _⟩ (k_void fun M_11 hp_11 => ?_)
  replace hp_11 := hp_11.symm; subst hp_11
  refine g_aload_n hX d_Plan_planPart_14 rfl ?_
  refine g_getR hX fl_Plan_15 d_Plan_planPart_15 ⟨rfl, by decide⟩ rfl rfl ?_
  refine g_iload_n hX d_Plan_planPart_18 rfl ?_
  refine g_bipush hX d_Plan_planPart_19 rfl ?_
  refine g_imul hX d_Plan_planPart_21 ?_
  refine g_iload_n hX d_Plan_planPart_22 rfl ?_
  refine g_iadd hX d_Plan_planPart_23 ?_
  refine g_iload hX d_Plan_planPart_24 rfl ?_
  refine g_callSN (host := "WindowCopies") hX yo_WC_store (by unfold nestWs; simp) d_Plan_planPart_26 (c_WC_store (k := 26) rfl (by decide) (n := 180) (by omega) hc) rfl rfl (by decide) (Nat.le_of_ble_eq_true rfl) ⟨Nat.zero_le _, Nat.zero_le _⟩ (k_void fun M_26 hp_26 => ?_)
  replace hp_26 := hp_26.symm; subst hp_26
  refine g_vret hX hR d_Plan_planPart_29 ?_
  rfl
theorem c_Plan_planLetter {Γ : gX} {l : Launch} {M : mI} {w p : Int} (hw : 0 ≤ w ∧ w ≤ 2) (hp : 0 ≤ p ∧ p < 60) : Cn Γ l i_Plan_planLetter R0 51 [.ref (gb Γ + 24), vI w, vI p] M (pV (fun M' => M' = mU (mU M 25 (w * 60 + p) 0) 26 (w * 60 + p) 1)) := by
  refine cn_intro (L := [some (.ref (gb Γ + 24)), some (vI w), some (vI p)]) yo_Plan_planLetter.1 rfl (Nat.le_of_ble_eq_true rfl) rfl (fun X hX hR => ?_)
  refine g_aload_n hX d_Plan_planLetter_0 rfl ?_
  refine g_iload_n hX d_Plan_planLetter_1 rfl ?_
  refine g_iload_n hX d_Plan_planLetter_2 rfl ?_
  refine g_iconst hX d_Plan_planLetter_3 ?_
  refine g_iconst hX d_Plan_planLetter_4 ?_
  refine g_callV hX yo_Plan_planPart q_393 d_Plan_planLetter_5 (c_Plan_planPart hw hp (by omega) (by omega)) rfl rfl ⟨rfl, by decide⟩ rfl (by decide) (Nat.le_of_ble_eq_true rfl) ⟨Nat.zero_le _, Nat.zero_le _⟩ (k_void fun M_5 hp_5 => ?_)
  replace hp_5 := hp_5.symm; subst hp_5
  refine g_vret hX hR d_Plan_planLetter_8 ?_
  rfl
theorem c_Plan_distanceAt {Γ : gX} {l : Launch} {M : mI} {w p : Int} (hw : 0 ≤ w ∧ w ≤ 2) (hp : 0 ≤ p ∧ p < 60) : Cn Γ l i_Plan_distanceAt R0 51 [.ref (gb Γ + 24), vI w, vI p] M (pI (fun r M' => r = M 25 (w * 60 + p) ∧ M' = M)) := by
  refine cn_intro (L := [some (.ref (gb Γ + 24)), some (vI w), some (vI p)]) yo_Plan_distanceAt.1 rfl (Nat.le_of_ble_eq_true rfl) rfl (fun X hX hR => ?_)
  refine g_aload_n hX d_Plan_distanceAt_0 rfl ?_
  refine g_getR hX fl_Plan_9 d_Plan_distanceAt_1 ⟨rfl, by decide⟩ rfl rfl ?_
  refine g_iload_n hX d_Plan_distanceAt_4 rfl ?_
  refine g_bipush hX d_Plan_distanceAt_5 rfl ?_
  refine g_imul hX d_Plan_distanceAt_7 ?_
  refine g_iload_n hX d_Plan_distanceAt_8 rfl ?_
  refine g_iadd hX d_Plan_distanceAt_9 ?_
  refine g_callSN (host := "WindowCopies") hX yo_WC_at (by unfold nestWs; simp) d_Plan_distanceAt_10 (c_WC_at (k := 25) rfl (by decide) (n := 180) (by omega)) rfl rfl (by decide) (Nat.le_of_ble_eq_true rfl) ⟨Nat.zero_le _, Nat.zero_le _⟩ (k_int fun r_10 M_10 ir_10 hp_10 => ?_)
  obtain ⟨er_10, eM_10⟩ := hp_10; replace er_10 := er_10.symm; replace eM_10 := eM_10.symm; subst er_10; subst eM_10
  refine g_iret hX hR d_Plan_distanceAt_13 (by omega) ?_
  exact ⟨rfl, rfl⟩
theorem c_Plan_lengthAt {Γ : gX} {l : Launch} {M : mI} {w p : Int} (hw : 0 ≤ w ∧ w ≤ 2) (hp : 0 ≤ p ∧ p < 60) : Cn Γ l i_Plan_lengthAt R0 51 [.ref (gb Γ + 24), vI w, vI p] M (pI (fun r M' => r = M 26 (w * 60 + p) ∧ M' = M)) := by
  refine cn_intro (L := [some (.ref (gb Γ + 24)), some (vI w), some (vI p)]) yo_Plan_lengthAt.1 rfl (Nat.le_of_ble_eq_true rfl) rfl (fun X hX hR => ?_)
  refine g_aload_n hX d_Plan_lengthAt_0 rfl ?_
  refine g_getR hX fl_Plan_15 d_Plan_lengthAt_1 ⟨rfl, by decide⟩ rfl rfl ?_
  refine g_iload_n hX d_Plan_lengthAt_4 rfl ?_
  refine g_bipush hX d_Plan_lengthAt_5 rfl ?_
  refine g_imul hX d_Plan_lengthAt_7 ?_
  refine g_iload_n hX d_Plan_lengthAt_8 rfl ?_
  refine g_iadd hX d_Plan_lengthAt_9 ?_
  refine g_callSN (host := "WindowCopies") hX yo_WC_at (by unfold nestWs; simp) d_Plan_lengthAt_10 (c_WC_at (k := 26) rfl (by decide) (n := 180) (by omega)) rfl rfl (by decide) (Nat.le_of_ble_eq_true rfl) ⟨Nat.zero_le _, Nat.zero_le _⟩ (k_int fun r_10 M_10 ir_10 hp_10 => ?_)
  obtain ⟨er_10, eM_10⟩ := hp_10; replace er_10 := er_10.symm; replace eM_10 := eM_10.symm; subst er_10; subst eM_10
  refine g_iret hX hR d_Plan_lengthAt_13 (by omega) ?_
  exact ⟨rfl, rfl⟩
theorem c_Plan_beginOf {Γ : gX} {l : Launch} {M : mI} {i : Int} (hi : 0 ≤ i ∧ i < 60) : Cn Γ l i_Plan_beginOf R0 51 [.ref (gb Γ + 24), vI i] M (pI (fun r M' => r = M 29 i ∧ M' = M)) := by
  refine cn_intro (L := [some (.ref (gb Γ + 24)), some (vI i)]) yo_Plan_beginOf.1 rfl (Nat.le_of_ble_eq_true rfl) rfl (fun X hX hR => ?_)
  refine g_aload_n hX d_Plan_beginOf_0 rfl ?_
  refine g_getR hX fl_Plan_24 d_Plan_beginOf_1 ⟨rfl, by decide⟩ rfl rfl ?_
  refine g_iload_n hX d_Plan_beginOf_4 rfl ?_
  refine g_callSN (host := "WindowCopies") hX yo_WC_at (by unfold nestWs; simp) d_Plan_beginOf_5 (c_WC_at (k := 29) rfl (by decide) (n := 60) (by omega)) rfl rfl (by decide) (Nat.le_of_ble_eq_true rfl) ⟨Nat.zero_le _, Nat.zero_le _⟩ (k_int fun r_5 M_5 ir_5 hp_5 => ?_)
  obtain ⟨er_5, eM_5⟩ := hp_5; replace er_5 := er_5.symm; replace eM_5 := eM_5.symm; subst er_5; subst eM_5
  refine g_iret hX hR d_Plan_beginOf_8 (by omega) ?_
  exact ⟨rfl, rfl⟩
theorem c_Plan_parts {Γ : gX} {l : Launch} {M : mI} : Cn Γ l i_Plan_parts R0 51 [.ref (gb Γ + 24)] M (pI (fun r M' => r = M 24 7 ∧ M' = M)) := by
  refine cn_intro (L := [some (.ref (gb Γ + 24))]) yo_Plan_parts.1 rfl (Nat.le_of_ble_eq_true rfl) rfl (fun X hX hR => ?_)
  refine g_aload_n hX d_Plan_parts_0 rfl ?_
  refine g_getI hX fl_Plan_27 d_Plan_parts_1 7 ⟨rfl, by decide⟩ rfl rfl (fun r_1 => ?_)
  refine g_iret hX hR d_Plan_parts_4 (by omega) ?_
  exact ⟨rfl, rfl⟩
theorem c_Plan_copies {Γ : gX} {l : Launch} {M : mI} : Cn Γ l i_Plan_copies R0 51 [.ref (gb Γ + 24)] M (pI (fun r M' => r = M 24 8 ∧ M' = M)) := by
  refine cn_intro (L := [some (.ref (gb Γ + 24))]) yo_Plan_copies.1 rfl (Nat.le_of_ble_eq_true rfl) rfl (fun X hX hR => ?_)
  refine g_aload_n hX d_Plan_copies_0 rfl ?_
  refine g_getI hX fl_Plan_31 d_Plan_copies_1 8 ⟨rfl, by decide⟩ rfl rfl (fun r_1 => ?_)
  refine g_iret hX hR d_Plan_copies_4 (by omega) ?_
  exact ⟨rfl, rfl⟩
theorem c_Plan_copiedLetters {Γ : gX} {l : Launch} {M : mI} : Cn Γ l i_Plan_copiedLetters R0 51 [.ref (gb Γ + 24)] M (pI (fun r M' => r = M 24 9 ∧ M' = M)) := by
  refine cn_intro (L := [some (.ref (gb Γ + 24))]) yo_Plan_copiedLetters.1 rfl (Nat.le_of_ble_eq_true rfl) rfl (fun X hX hR => ?_)
  refine g_aload_n hX d_Plan_copiedLetters_0 rfl ?_
  refine g_getI hX fl_Plan_34 d_Plan_copiedLetters_1 9 ⟨rfl, by decide⟩ rfl rfl (fun r_1 => ?_)
  refine g_iret hX hR d_Plan_copiedLetters_4 (by omega) ?_
  exact ⟨rfl, rfl⟩
theorem c_Plan_longestCopy {Γ : gX} {l : Launch} {M : mI} : Cn Γ l i_Plan_longestCopy R0 51 [.ref (gb Γ + 24)] M (pI (fun r M' => r = M 24 10 ∧ M' = M)) := by
  refine cn_intro (L := [some (.ref (gb Γ + 24))]) yo_Plan_longestCopy.1 rfl (Nat.le_of_ble_eq_true rfl) rfl (fun X hX hR => ?_)
  refine g_aload_n hX d_Plan_longestCopy_0 rfl ?_
  refine g_getI hX fl_Plan_37 d_Plan_longestCopy_1 10 ⟨rfl, by decide⟩ rfl rfl (fun r_1 => ?_)
  refine g_iret hX hR d_Plan_longestCopy_4 (by omega) ?_
  exact ⟨rfl, rfl⟩
theorem c_Plan_countCopy {Γ : gX} {l : Launch} {M : mI} {c : Int} (h8 : iR (M 24 8 + 1)) (h9 : iR (M 24 9 + c)) (hc : iR c) : Cn Γ l i_Plan_countCopy R0 51 [.ref (gb Γ + 24), vI c] M (pV (fun M' => M' = mU (mU (mU M 24 8 (M 24 8 + 1)) 24 9 (M 24 9 + c)) 24 10 (max (M 24 10) c))) := by
  refine cn_intro (L := [some (.ref (gb Γ + 24)), some (vI c)]) yo_Plan_countCopy.1 rfl (Nat.le_of_ble_eq_true rfl) rfl (fun X hX hR => ?_)
  refine g_aload_n hX d_Plan_countCopy_0 rfl ?_
  refine g_dup hX d_Plan_countCopy_1 rfl ?_
  refine g_getI hX fl_Plan_31 d_Plan_countCopy_2 8 ⟨rfl, by decide⟩ rfl rfl (fun r_2 => ?_)
  refine g_iconst hX d_Plan_countCopy_5 ?_
  refine g_iadd hX d_Plan_countCopy_6 ?_
  refine g_putI hX fl_Plan_31 d_Plan_countCopy_7 8 ⟨rfl, by decide⟩ rfl rfl (fun q h => by cases h; rfl) rfl (by omega) ?_
  refine g_aload_n hX d_Plan_countCopy_10 rfl ?_
  refine g_dup hX d_Plan_countCopy_11 rfl ?_
  refine g_getI hX fl_Plan_34 d_Plan_countCopy_12 9 ⟨rfl, by decide⟩ rfl rfl (fun r_12 => ?_)
  rw [mU_slot (by omega)] at r_12 ⊢
  refine g_iload_n hX d_Plan_countCopy_15 rfl ?_
  refine g_iadd hX d_Plan_countCopy_16 ?_
  refine g_putI hX fl_Plan_34 d_Plan_countCopy_17 9 ⟨rfl, by decide⟩ rfl rfl (fun q h => by cases h; rfl) rfl (by omega) ?_
  refine g_aload_n hX d_Plan_countCopy_20 rfl ?_
  refine g_aload_n hX d_Plan_countCopy_21 rfl ?_
  refine g_getI hX fl_Plan_37 d_Plan_countCopy_22 10 ⟨rfl, by decide⟩ rfl rfl (fun r_22 => ?_)
  rw [mU_slot (by omega), mU_slot (by omega)] at r_22 ⊢
  refine g_iload_n hX d_Plan_countCopy_25 rfl ?_
  refine g_max hX d_Plan_countCopy_26 q_419 (by omega) (by omega) (by decide) (Nat.le_of_ble_eq_true rfl) ⟨Nat.zero_le _, Nat.zero_le _⟩ ?_
  refine g_putI hX fl_Plan_37 d_Plan_countCopy_29 10 ⟨rfl, by decide⟩ rfl rfl (fun q h => by cases h; rfl) rfl (by omega) ?_
  refine g_vret hX hR d_Plan_countCopy_32 ?_
  rfl
theorem c_Plan_cost {Γ : gX} {l : Launch} {M : mI} {n : Int} {x g : Int → Int} (hv : Sv M 1 n x g) (hg : Og g) (h8 : 0 ≤ M 24 8 ∧ M 24 8 ≤ M 24 7 ∧ M 24 7 ≤ 60) : Cn Γ l i_Plan_cost R0 51 [.ref (gb Γ + 24)] M (pI (fun r M' => r = (M 24 7 - M 24 8) * g 3 + M 24 8 * g 4 ∧ M' = M)) := by
  refine cn_intro (L := [some (.ref (gb Γ + 24))]) yo_Plan_cost.1 rfl (Nat.le_of_ble_eq_true rfl) rfl (fun X hX hR => ?_)
  obtain ⟨v1, v2, v3, v4, v5⟩ := id hv
  obtain ⟨⟨g0, g0'⟩, ⟨g1, g1'⟩, ⟨g2, g2'⟩, ⟨g3, g3'⟩, ⟨g4, g4'⟩⟩ := id hg
  have zm1 := mul_bd (a := M 24 7 - M 24 8) (b := g 3) (c := 60) (d := 60) (by omega) (by omega) (by omega) (by omega)
  have zm2 := mul_bd (a := M 24 8) (b := g 4) (c := 60) (d := 60) (by omega) (by omega) (by omega) (by omega)
  refine g_aload_n hX d_Plan_cost_0 rfl ?_
  refine g_getI hX fl_Plan_27 d_Plan_cost_1 7 ⟨rfl, by decide⟩ rfl rfl (fun r_1 => ?_)
  refine g_aload_n hX d_Plan_cost_4 rfl ?_
  refine g_getI hX fl_Plan_31 d_Plan_cost_5 8 ⟨rfl, by decide⟩ rfl rfl (fun r_5 => ?_)
  refine g_isub hX d_Plan_cost_8 ?_
  refine g_aload_n hX d_Plan_cost_9 rfl ?_
  refine g_getR hX fl_Plan_40 d_Plan_cost_10 ⟨rfl, by decide⟩ rfl rfl ?_
  refine g_iconst hX d_Plan_cost_13 ?_
  refine g_callV hX yo_State_setting q_417 d_Plan_cost_14 (c_State_setting st_1 (p := 3) (by omega)) rfl rfl ⟨rfl, by decide⟩ rfl (by decide) (Nat.le_of_ble_eq_true rfl) ⟨Nat.zero_le _, Nat.zero_le _⟩ (k_int fun r_14 M_14 ir_14 hp_14 => ?_)
  obtain ⟨er_14, eM_14⟩ := hp_14; replace er_14 := er_14.symm; replace eM_14 := eM_14.symm; subst er_14; subst eM_14
  rw [v5 3 (by omega) (by omega)] at ir_14 ⊢
  refine g_imul hX d_Plan_cost_17 ?_
  refine g_aload_n hX d_Plan_cost_18 rfl ?_
  refine g_getI hX fl_Plan_31 d_Plan_cost_19 8 ⟨rfl, by decide⟩ rfl rfl (fun r_19 => ?_)
  refine g_aload_n hX d_Plan_cost_22 rfl ?_
  refine g_getR hX fl_Plan_40 d_Plan_cost_23 ⟨rfl, by decide⟩ rfl rfl ?_
  refine g_iconst hX d_Plan_cost_26 ?_
  refine g_callV hX yo_State_setting q_417 d_Plan_cost_27 (c_State_setting st_1 (p := 4) (by omega)) rfl rfl ⟨rfl, by decide⟩ rfl (by decide) (Nat.le_of_ble_eq_true rfl) ⟨Nat.zero_le _, Nat.zero_le _⟩ (k_int fun r_27 M_27 ir_27 hp_27 => ?_)
  obtain ⟨er_27, eM_27⟩ := hp_27; replace er_27 := er_27.symm; replace eM_27 := eM_27.symm; subst er_27; subst eM_27
  rw [v5 4 (by omega) (by omega)] at ir_27 ⊢
  refine g_imul hX d_Plan_cost_30 ?_
  refine g_iadd hX d_Plan_cost_31 ?_
  refine g_iret hX hR d_Plan_cost_32 (by omega) ?_
  exact ⟨rfl, rfl⟩
theorem pP0_none {n : Int} {x g : Int → Int} {p : Int} (h : bD n x g p = -10004) : pD n x g 0 p = 0 ∧ pL n x g 0 p = 1 ∧ sv n x g p = 0 := by
  unfold pD pL pP sv
  rw [if_neg (by decide), if_pos h, if_pos h]
  exact ⟨rfl, rfl, rfl⟩
theorem pP0_some {n : Int} {x g : Int → Int} {p : Int} (h : bD n x g p ≠ -10004) : pD n x g 0 p = bD n x g p ∧ pL n x g 0 p = rc n x p (bD n x g p) ∧ sv n x g p = rc n x p (bD n x g p) * g 3 - g 4 := by
  unfold pD pL pP sv
  rw [if_neg (by decide), if_neg h, if_pos rfl, if_neg h]
  exact ⟨rfl, rfl, rfl⟩
theorem sv_bd {n : Int} {x g : Int → Int} {p : Int} (hg : Og g) (hp : 0 ≤ p) (hn : p ≤ n) : -60 ≤ sv n x g p ∧ sv n x g p ≤ 400 := by
  unfold sv
  split
  · omega
  · have hb := @rc_b n x p (bD n x g p) hn
    obtain ⟨⟨g0, g0'⟩, ⟨g1, g1'⟩, ⟨g2, g2'⟩, ⟨g3, g3'⟩, ⟨g4, g4'⟩⟩ := hg
    have zm1 := mul_bd (a := rc n x p (bD n x g p)) (b := g 3) (c := 20) (d := 20) (by omega) (by omega) (by omega) (by omega)
    omega
theorem c_Plan_planFound {Γ : gX} {l : Launch} {M : mI} {n p : Int} {x g : Int → Int} (hv : Sv M 1 n x g) (hg : Og g) (hc : Cp M n x g p) (hp : 0 ≤ p ∧ p < n) : Cn Γ l i_Plan_planFound R0 51 [.ref (gb Γ + 24), vI p] M (pV (fun M' => M' = mU (mU (mU M 25 (0 * 60 + p) (pD n x g 0 p)) 26 (0 * 60 + p) (pL n x g 0 p)) 27 p (sv n x g p))) := by
  refine cn_intro (L := [some (.ref (gb Γ + 24)), some (vI p), none, none]) yo_Plan_planFound.1 rfl (Nat.le_of_ble_eq_true rfl) rfl (fun X hX hR => ?_)
  obtain ⟨v1, v2, v3, v4, v5⟩ := id hv
  have zs1 := sv_bd (x := x) hg hp.1 (show p ≤ n by omega)
  refine g_aload_n hX d_Plan_planFound_0 rfl ?_
  refine g_getR hX fl_Plan_44 d_Plan_planFound_1 ⟨rfl, by decide⟩ rfl rfl ?_
  refine g_callV hX yo_Cand_best q_388 d_Plan_planFound_4 (c_Cand_best hv hc hg ⟨hp.1, by omega⟩) rfl rfl ⟨rfl, by decide⟩ rfl (by decide) (Nat.le_of_ble_eq_true rfl) ⟨Nat.zero_le _, Nat.zero_le _⟩ (k_int fun r_4 M_4 ir_4 hp_4 => ?_)
  obtain ⟨hp4, eM_4⟩ := hp_4; replace eM_4 := eM_4.symm; subst eM_4
  refine g_istore_n hX d_Plan_planFound_7 (by decide) ?_
  refine g_iload_n hX d_Plan_planFound_8 rfl ?_
  refine g_iconst hX d_Plan_planFound_9 ?_
  refine g_icmp_ne 31 hX d_Plan_planFound_10 (by decide) (by omega) (by omega) (fun h_10 => ?_) (fun h_10 => ?_)
  · obtain ⟨k, hk, hz1⟩ : ∃ k : Nat, (cs n x g p)[k]? = some (bD n x g p) ∧ r_4 = k := by rcases hp4 with ⟨_, hz1⟩ | hz1; exact absurd hz1 h_10; exact hz1
    subst hz1
    obtain ⟨e1, e2, e3⟩ := pP0_some (show bD n x g p ≠ -10004 by have := cs_at hk hp.1; omega)
    refine g_aload_n hX d_Plan_planFound_31 rfl ?_
    refine g_getR hX fl_Plan_44 d_Plan_planFound_32 ⟨rfl, by decide⟩ rfl rfl ?_
    refine g_iload_n hX d_Plan_planFound_35 rfl ?_
    refine g_callV hX yo_Cand_reach q_397 d_Plan_planFound_36 (c_Cand_reach hc hg hk ⟨hp.1, by omega, v3⟩) rfl rfl ⟨rfl, by decide⟩ rfl (by decide) (Nat.le_of_ble_eq_true rfl) ⟨Nat.zero_le _, Nat.zero_le _⟩ (k_int fun r_36 M_36 ir_36 hp_36 => ?_)
    obtain ⟨er_36, eM_36⟩ := hp_36; replace er_36 := er_36.symm; replace eM_36 := eM_36.symm; subst er_36; subst eM_36
    refine g_istore_n hX d_Plan_planFound_39 (by decide) ?_
    refine g_aload_n hX d_Plan_planFound_40 rfl ?_
    refine g_iconst hX d_Plan_planFound_41 ?_
    refine g_iload_n hX d_Plan_planFound_42 rfl ?_
    refine g_aload_n hX d_Plan_planFound_43 rfl ?_
    refine g_getR hX fl_Plan_44 d_Plan_planFound_44 ⟨rfl, by decide⟩ rfl rfl ?_
    refine g_iload_n hX d_Plan_planFound_47 rfl ?_
    refine g_callV hX yo_Cand_distance q_398 d_Plan_planFound_48 (c_Cand_distance hc hg hk) rfl rfl ⟨rfl, by decide⟩ rfl (by decide) (Nat.le_of_ble_eq_true rfl) ⟨Nat.zero_le _, Nat.zero_le _⟩ (k_int fun r_48 M_48 ir_48 hp_48 => ?_)
    obtain ⟨er_48, eM_48⟩ := hp_48; replace er_48 := er_48.symm; replace eM_48 := eM_48.symm; subst er_48; subst eM_48
    refine g_iload_n hX d_Plan_planFound_51 rfl ?_
    refine g_callV hX yo_Plan_planPart q_393 d_Plan_planFound_52 (c_Plan_planPart (by omega) (by omega) (by omega) (by omega)) rfl rfl ⟨rfl, by decide⟩ rfl (by decide) (Nat.le_of_ble_eq_true rfl) ⟨Nat.zero_le _, Nat.zero_le _⟩ (k_void fun M_52 hp_52 => ?_)
    replace hp_52 := hp_52.symm; subst hp_52
    refine g_aload_n hX d_Plan_planFound_55 rfl ?_
    refine g_getR hX fl_Plan_18 d_Plan_planFound_56 ⟨rfl, by decide⟩ rfl rfl ?_
    refine g_iload_n hX d_Plan_planFound_59 rfl ?_
    refine g_aload_n hX d_Plan_planFound_60 rfl ?_
    refine g_getR hX fl_Plan_40 d_Plan_planFound_61 ⟨rfl, by decide⟩ rfl rfl ?_
    refine g_iload_n hX d_Plan_planFound_64 rfl ?_
    refine g_callV hX yo_State_savingOf q_399 d_Plan_planFound_65 (c_State_savingOf st_1 (by rw [mU_cell (by omega), mU_cell (by omega), v5 3 (by omega) (by omega), v5 4 (by omega) (by omega), ← e3]; omega)) rfl rfl ⟨rfl, by decide⟩ rfl (by decide) (Nat.le_of_ble_eq_true rfl) ⟨Nat.zero_le _, Nat.zero_le _⟩ (k_int fun r_65 M_65 ir_65 hp_65 => ?_)
    obtain ⟨er_65, eM_65⟩ := hp_65; replace er_65 := er_65.symm; replace eM_65 := eM_65.symm; subst er_65; subst eM_65
    rw [mU_cell (by omega), mU_cell (by omega), v5 3 (by omega) (by omega), v5 4 (by omega) (by omega), ← e3] at ir_65 ⊢
    refine g_callSN (host := "WindowCopies") hX yo_WC_store (by unfold nestWs; simp) d_Plan_planFound_68 (c_WC_store (k := 27) rfl (by decide) (n := 62) (by omega) (by omega)) rfl rfl (by decide) (Nat.le_of_ble_eq_true rfl) ⟨Nat.zero_le _, Nat.zero_le _⟩ (k_void fun M_68 hp_68 => ?_)
    replace hp_68 := hp_68.symm; subst hp_68
    refine g_vret hX hR d_Plan_planFound_71 ?_
    first | rw [e1, e2, e3] | rw [e1, e2]
  · have hz0 : bD n x g p = -10004 := by rcases hp4 with ⟨hz1, _⟩ | ⟨k, hk, hz1⟩; exact hz1; omega
    obtain ⟨e1, e2, e3⟩ := pP0_none hz0
    refine g_aload_n hX d_Plan_planFound_13 rfl ?_
    refine g_iconst hX d_Plan_planFound_14 ?_
    refine g_iload_n hX d_Plan_planFound_15 rfl ?_
    refine g_callV hX yo_Plan_planLetter q_389 d_Plan_planFound_16 (c_Plan_planLetter (by omega) (by omega)) rfl rfl ⟨rfl, by decide⟩ rfl (by decide) (Nat.le_of_ble_eq_true rfl) ⟨Nat.zero_le _, Nat.zero_le _⟩ (k_void fun M_16 hp_16 => ?_)
    replace hp_16 := hp_16.symm; subst hp_16
    refine g_aload_n hX d_Plan_planFound_19 rfl ?_
    refine g_getR hX fl_Plan_18 d_Plan_planFound_20 ⟨rfl, by decide⟩ rfl rfl ?_
    refine g_iload_n hX d_Plan_planFound_23 rfl ?_
    refine g_iconst hX d_Plan_planFound_24 ?_
    refine g_callSN (host := "WindowCopies") hX yo_WC_store (by unfold nestWs; simp) d_Plan_planFound_25 (c_WC_store (k := 27) rfl (by decide) (n := 62) (by omega) (by omega)) rfl rfl (by decide) (Nat.le_of_ble_eq_true rfl) ⟨Nat.zero_le _, Nat.zero_le _⟩ (k_void fun M_25 hp_25 => ?_)
    replace hp_25 := hp_25.symm; subst hp_25
    refine g_goto 71 hX d_Plan_planFound_28 (by decide) ?_
    refine g_vret hX hR d_Plan_planFound_71 ?_
    first | rw [e1, e2, e3] | rw [e1, e2]
theorem pP1_yes {n : Int} {x g : Int → Int} {p : Int} (h : 0 < sv n x g p) (h2 : sv n x g (p + 1) ≤ sv n x g p) (h3 : sv n x g (p + 2) ≤ sv n x g p) : pD n x g 1 p = pD n x g 0 p ∧ pL n x g 1 p = pL n x g 0 p := by
  unfold pD pL pP
  rw [if_neg (show ¬ (1 : Int) = 2 by decide), if_neg (show ¬ (0 : Int) = 2 by decide)]
  by_cases hb : bD n x g p = -10004
  · simp only [if_pos hb, and_self]
  · simp [hb, h, h2, h3]
theorem pP1_no {n : Int} {x g : Int → Int} {p : Int} (h : ¬ (0 < sv n x g p ∧ sv n x g (p + 1) ≤ sv n x g p ∧ sv n x g (p + 2) ≤ sv n x g p)) : pD n x g 1 p = 0 ∧ pL n x g 1 p = 1 := by
  unfold pD pL pP
  rw [if_neg (by decide)]
  by_cases hb : bD n x g p = -10004
  · rw [if_pos hb]; exact ⟨rfl, rfl⟩
  · rw [if_neg hb, if_neg (by decide), if_neg h]; exact ⟨rfl, rfl⟩
theorem c_Plan_planWeighed {Γ : gX} {l : Launch} {M : mI} {n p : Int} {x g : Int → Int} (hg : Og g) (hp : 0 ≤ p ∧ p < n ∧ n ≤ 60) (h0 : M 27 p = sv n x g p) (h1 : M 27 (p + 1) = sv n x g (p + 1)) (h2 : M 27 (p + 2) = sv n x g (p + 2)) (hd : M 25 (0 * 60 + p) = pD n x g 0 p) (hl : M 26 (0 * 60 + p) = pL n x g 0 p) : Cn Γ l i_Plan_planWeighed R0 51 [.ref (gb Γ + 24), vI p] M (pV (fun M' => M' = mU (mU M 25 (1 * 60 + p) (pD n x g 1 p)) 26 (1 * 60 + p) (pL n x g 1 p))) := by
  refine cn_intro (L := [some (.ref (gb Γ + 24)), some (vI p), none, none]) yo_Plan_planWeighed.1 rfl (Nat.le_of_ble_eq_true rfl) rfl (fun X hX hR => ?_)
  refine g_aload_n hX d_Plan_planWeighed_0 rfl ?_
  refine g_getR hX fl_Plan_18 d_Plan_planWeighed_1 ⟨rfl, by decide⟩ rfl rfl ?_
  refine g_iload_n hX d_Plan_planWeighed_4 rfl ?_
  refine g_callSN (host := "WindowCopies") hX yo_WC_at (by unfold nestWs; simp) d_Plan_planWeighed_5 (c_WC_at (k := 27) rfl (by decide) (n := 62) (by omega)) rfl rfl (by decide) (Nat.le_of_ble_eq_true rfl) ⟨Nat.zero_le _, Nat.zero_le _⟩ (k_int fun r_5 M_5 ir_5 hp_5 => ?_)
  obtain ⟨er_5, eM_5⟩ := hp_5; replace er_5 := er_5.symm; replace eM_5 := eM_5.symm; subst er_5; subst eM_5
  rw [h0] at ir_5 ⊢
  refine g_istore_n hX d_Plan_planWeighed_8 (by decide) ?_
  refine g_aload_n hX d_Plan_planWeighed_9 rfl ?_
  refine g_getR hX fl_Plan_18 d_Plan_planWeighed_10 ⟨rfl, by decide⟩ rfl rfl ?_
  refine g_iload_n hX d_Plan_planWeighed_13 rfl ?_
  refine g_iconst hX d_Plan_planWeighed_14 ?_
  refine g_iadd hX d_Plan_planWeighed_15 ?_
  refine g_callSN (host := "WindowCopies") hX yo_WC_at (by unfold nestWs; simp) d_Plan_planWeighed_16 (c_WC_at (k := 27) rfl (by decide) (n := 62) (by omega)) rfl rfl (by decide) (Nat.le_of_ble_eq_true rfl) ⟨Nat.zero_le _, Nat.zero_le _⟩ (k_int fun r_16 M_16 ir_16 hp_16 => ?_)
  obtain ⟨er_16, eM_16⟩ := hp_16; replace er_16 := er_16.symm; replace eM_16 := eM_16.symm; subst er_16; subst eM_16
  rw [h1] at ir_16 ⊢
  refine g_iload_n hX d_Plan_planWeighed_19 rfl ?_
  refine g_icmp_gt 37 hX d_Plan_planWeighed_20 (by decide) (by omega) (by omega) (fun h_20 => ?_) (fun h_20 => ?_)
  · refine g_iconst hX d_Plan_planWeighed_37 ?_
    refine g_goto 42 hX d_Plan_planWeighed_38 (by decide) ?_
    refine g_istore_n hX d_Plan_planWeighed_42 (by decide) ?_
    refine g_iload_n hX d_Plan_planWeighed_43 rfl ?_
    refine g_if_le 72 hX d_Plan_planWeighed_44 (by decide) (by omega) (fun h_44 => ?_) (fun h_44 => ?_)
    · refine g_aload_n hX d_Plan_planWeighed_72 rfl ?_
      refine g_iconst hX d_Plan_planWeighed_73 ?_
      refine g_iload_n hX d_Plan_planWeighed_74 rfl ?_
      refine g_callV hX yo_Plan_planLetter q_389 d_Plan_planWeighed_75 (c_Plan_planLetter (by omega) (by omega)) rfl rfl ⟨rfl, by decide⟩ rfl (by decide) (Nat.le_of_ble_eq_true rfl) ⟨Nat.zero_le _, Nat.zero_le _⟩ (k_void fun M_75 hp_75 => ?_)
      replace hp_75 := hp_75.symm; subst hp_75
      refine g_vret hX hR d_Plan_planWeighed_78 ?_
      first | (obtain ⟨e1, e2⟩ := pP1_no (n := n) (x := x) (g := g) (p := p) (by omega); rw [e1, e2]; done) | (obtain ⟨e1, e2⟩ := pP1_yes (n := n) (x := x) (g := g) (p := p) (by omega) (by omega) (by omega); rw [e1, e2]; done) | omega
    · refine g_iload_n hX d_Plan_planWeighed_47 rfl ?_
      refine g_if_ne 72 hX d_Plan_planWeighed_48 (by decide) (by omega) (fun h_48 => ?_) (fun h_48 => ?_)
      · refine g_aload_n hX d_Plan_planWeighed_72 rfl ?_
        refine g_iconst hX d_Plan_planWeighed_73 ?_
        refine g_iload_n hX d_Plan_planWeighed_74 rfl ?_
        refine g_callV hX yo_Plan_planLetter q_389 d_Plan_planWeighed_75 (c_Plan_planLetter (by omega) (by omega)) rfl rfl ⟨rfl, by decide⟩ rfl (by decide) (Nat.le_of_ble_eq_true rfl) ⟨Nat.zero_le _, Nat.zero_le _⟩ (k_void fun M_75 hp_75 => ?_)
        replace hp_75 := hp_75.symm; subst hp_75
        refine g_vret hX hR d_Plan_planWeighed_78 ?_
        first | (obtain ⟨e1, e2⟩ := pP1_no (n := n) (x := x) (g := g) (p := p) (by omega); rw [e1, e2]; done) | (obtain ⟨e1, e2⟩ := pP1_yes (n := n) (x := x) (g := g) (p := p) (by omega) (by omega) (by omega); rw [e1, e2]; done) | omega
      · refine g_aload_n hX d_Plan_planWeighed_51 rfl ?_
        refine g_iconst hX d_Plan_planWeighed_52 ?_
        refine g_iload_n hX d_Plan_planWeighed_53 rfl ?_
        refine g_aload_n hX d_Plan_planWeighed_54 rfl ?_
        refine g_iconst hX d_Plan_planWeighed_55 ?_
        refine g_iload_n hX d_Plan_planWeighed_56 rfl ?_
        refine g_callV hX yo_Plan_distanceAt q_405 d_Plan_planWeighed_57 (c_Plan_distanceAt (by omega) (by omega)) rfl rfl ⟨rfl, by decide⟩ rfl (by decide) (Nat.le_of_ble_eq_true rfl) ⟨Nat.zero_le _, Nat.zero_le _⟩ (k_int fun r_57 M_57 ir_57 hp_57 => ?_)
        obtain ⟨er_57, eM_57⟩ := hp_57; replace er_57 := er_57.symm; replace eM_57 := eM_57.symm; subst er_57; subst eM_57
        rw [hd] at ir_57 ⊢
        refine g_aload_n hX d_Plan_planWeighed_60 rfl ?_
        refine g_iconst hX d_Plan_planWeighed_61 ?_
        refine g_iload_n hX d_Plan_planWeighed_62 rfl ?_
        refine g_callV hX yo_Plan_lengthAt q_409 d_Plan_planWeighed_63 (c_Plan_lengthAt (by omega) (by omega)) rfl rfl ⟨rfl, by decide⟩ rfl (by decide) (Nat.le_of_ble_eq_true rfl) ⟨Nat.zero_le _, Nat.zero_le _⟩ (k_int fun r_63 M_63 ir_63 hp_63 => ?_)
        obtain ⟨er_63, eM_63⟩ := hp_63; replace er_63 := er_63.symm; replace eM_63 := eM_63.symm; subst er_63; subst eM_63
        rw [hl] at ir_63 ⊢
        refine g_callV hX yo_Plan_planPart q_393 d_Plan_planWeighed_66 (c_Plan_planPart (by omega) (by omega) (by omega) (by omega)) rfl rfl ⟨rfl, by decide⟩ rfl (by decide) (Nat.le_of_ble_eq_true rfl) ⟨Nat.zero_le _, Nat.zero_le _⟩ (k_void fun M_66 hp_66 => ?_)
        replace hp_66 := hp_66.symm; subst hp_66
        refine g_goto 78 hX d_Plan_planWeighed_69 (by decide) ?_
        refine g_vret hX hR d_Plan_planWeighed_78 ?_
        first | (obtain ⟨e1, e2⟩ := pP1_no (n := n) (x := x) (g := g) (p := p) (by omega); rw [e1, e2]; done) | (obtain ⟨e1, e2⟩ := pP1_yes (n := n) (x := x) (g := g) (p := p) (by omega) (by omega) (by omega); rw [e1, e2]; done) | omega
  · refine g_aload_n hX d_Plan_planWeighed_23 rfl ?_
    refine g_getR hX fl_Plan_18 d_Plan_planWeighed_24 ⟨rfl, by decide⟩ rfl rfl ?_
    refine g_iload_n hX d_Plan_planWeighed_27 rfl ?_
    refine g_iconst hX d_Plan_planWeighed_28 ?_
    refine g_iadd hX d_Plan_planWeighed_29 ?_
    refine g_callSN (host := "WindowCopies") hX yo_WC_at (by unfold nestWs; simp) d_Plan_planWeighed_30 (c_WC_at (k := 27) rfl (by decide) (n := 62) (by omega)) rfl rfl (by decide) (Nat.le_of_ble_eq_true rfl) ⟨Nat.zero_le _, Nat.zero_le _⟩ (k_int fun r_30 M_30 ir_30 hp_30 => ?_)
    obtain ⟨er_30, eM_30⟩ := hp_30; replace er_30 := er_30.symm; replace eM_30 := eM_30.symm; subst er_30; subst eM_30
    rw [h2] at ir_30 ⊢
    refine g_iload_n hX d_Plan_planWeighed_33 rfl ?_
    refine g_icmp_le 41 hX d_Plan_planWeighed_34 (by decide) (by omega) (by omega) (fun h_34 => ?_) (fun h_34 => ?_)
    · refine g_iconst hX d_Plan_planWeighed_41 ?_
      refine g_istore_n hX d_Plan_planWeighed_42 (by decide) ?_
      refine g_iload_n hX d_Plan_planWeighed_43 rfl ?_
      refine g_if_le 72 hX d_Plan_planWeighed_44 (by decide) (by omega) (fun h_44 => ?_) (fun h_44 => ?_)
      · refine g_aload_n hX d_Plan_planWeighed_72 rfl ?_
        refine g_iconst hX d_Plan_planWeighed_73 ?_
        refine g_iload_n hX d_Plan_planWeighed_74 rfl ?_
        refine g_callV hX yo_Plan_planLetter q_389 d_Plan_planWeighed_75 (c_Plan_planLetter (by omega) (by omega)) rfl rfl ⟨rfl, by decide⟩ rfl (by decide) (Nat.le_of_ble_eq_true rfl) ⟨Nat.zero_le _, Nat.zero_le _⟩ (k_void fun M_75 hp_75 => ?_)
        replace hp_75 := hp_75.symm; subst hp_75
        refine g_vret hX hR d_Plan_planWeighed_78 ?_
        first | (obtain ⟨e1, e2⟩ := pP1_no (n := n) (x := x) (g := g) (p := p) (by omega); rw [e1, e2]; done) | (obtain ⟨e1, e2⟩ := pP1_yes (n := n) (x := x) (g := g) (p := p) (by omega) (by omega) (by omega); rw [e1, e2]; done) | omega
      · refine g_iload_n hX d_Plan_planWeighed_47 rfl ?_
        refine g_if_ne 72 hX d_Plan_planWeighed_48 (by decide) (by omega) (fun h_48 => ?_) (fun h_48 => ?_)
        · refine g_aload_n hX d_Plan_planWeighed_72 rfl ?_
          refine g_iconst hX d_Plan_planWeighed_73 ?_
          refine g_iload_n hX d_Plan_planWeighed_74 rfl ?_
          refine g_callV hX yo_Plan_planLetter q_389 d_Plan_planWeighed_75 (c_Plan_planLetter (by omega) (by omega)) rfl rfl ⟨rfl, by decide⟩ rfl (by decide) (Nat.le_of_ble_eq_true rfl) ⟨Nat.zero_le _, Nat.zero_le _⟩ (k_void fun M_75 hp_75 => ?_)
          replace hp_75 := hp_75.symm; subst hp_75
          refine g_vret hX hR d_Plan_planWeighed_78 ?_
          first | (obtain ⟨e1, e2⟩ := pP1_no (n := n) (x := x) (g := g) (p := p) (by omega); rw [e1, e2]; done) | (obtain ⟨e1, e2⟩ := pP1_yes (n := n) (x := x) (g := g) (p := p) (by omega) (by omega) (by omega); rw [e1, e2]; done) | omega
        · refine g_aload_n hX d_Plan_planWeighed_51 rfl ?_
          refine g_iconst hX d_Plan_planWeighed_52 ?_
          refine g_iload_n hX d_Plan_planWeighed_53 rfl ?_
          refine g_aload_n hX d_Plan_planWeighed_54 rfl ?_
          refine g_iconst hX d_Plan_planWeighed_55 ?_
          refine g_iload_n hX d_Plan_planWeighed_56 rfl ?_
          refine g_callV hX yo_Plan_distanceAt q_405 d_Plan_planWeighed_57 (c_Plan_distanceAt (by omega) (by omega)) rfl rfl ⟨rfl, by decide⟩ rfl (by decide) (Nat.le_of_ble_eq_true rfl) ⟨Nat.zero_le _, Nat.zero_le _⟩ (k_int fun r_57 M_57 ir_57 hp_57 => ?_)
          obtain ⟨er_57, eM_57⟩ := hp_57; replace er_57 := er_57.symm; replace eM_57 := eM_57.symm; subst er_57; subst eM_57
          rw [hd] at ir_57 ⊢
          refine g_aload_n hX d_Plan_planWeighed_60 rfl ?_
          refine g_iconst hX d_Plan_planWeighed_61 ?_
          refine g_iload_n hX d_Plan_planWeighed_62 rfl ?_
          refine g_callV hX yo_Plan_lengthAt q_409 d_Plan_planWeighed_63 (c_Plan_lengthAt (by omega) (by omega)) rfl rfl ⟨rfl, by decide⟩ rfl (by decide) (Nat.le_of_ble_eq_true rfl) ⟨Nat.zero_le _, Nat.zero_le _⟩ (k_int fun r_63 M_63 ir_63 hp_63 => ?_)
          obtain ⟨er_63, eM_63⟩ := hp_63; replace er_63 := er_63.symm; replace eM_63 := eM_63.symm; subst er_63; subst eM_63
          rw [hl] at ir_63 ⊢
          refine g_callV hX yo_Plan_planPart q_393 d_Plan_planWeighed_66 (c_Plan_planPart (by omega) (by omega) (by omega) (by omega)) rfl rfl ⟨rfl, by decide⟩ rfl (by decide) (Nat.le_of_ble_eq_true rfl) ⟨Nat.zero_le _, Nat.zero_le _⟩ (k_void fun M_66 hp_66 => ?_)
          replace hp_66 := hp_66.symm; subst hp_66
          refine g_goto 78 hX d_Plan_planWeighed_69 (by decide) ?_
          refine g_vret hX hR d_Plan_planWeighed_78 ?_
          first | (obtain ⟨e1, e2⟩ := pP1_no (n := n) (x := x) (g := g) (p := p) (by omega); rw [e1, e2]; done) | (obtain ⟨e1, e2⟩ := pP1_yes (n := n) (x := x) (g := g) (p := p) (by omega) (by omega) (by omega); rw [e1, e2]; done) | omega
    · refine g_iconst hX d_Plan_planWeighed_37 ?_
      refine g_goto 42 hX d_Plan_planWeighed_38 (by decide) ?_
      refine g_istore_n hX d_Plan_planWeighed_42 (by decide) ?_
      refine g_iload_n hX d_Plan_planWeighed_43 rfl ?_
      refine g_if_le 72 hX d_Plan_planWeighed_44 (by decide) (by omega) (fun h_44 => ?_) (fun h_44 => ?_)
      · refine g_aload_n hX d_Plan_planWeighed_72 rfl ?_
        refine g_iconst hX d_Plan_planWeighed_73 ?_
        refine g_iload_n hX d_Plan_planWeighed_74 rfl ?_
        refine g_callV hX yo_Plan_planLetter q_389 d_Plan_planWeighed_75 (c_Plan_planLetter (by omega) (by omega)) rfl rfl ⟨rfl, by decide⟩ rfl (by decide) (Nat.le_of_ble_eq_true rfl) ⟨Nat.zero_le _, Nat.zero_le _⟩ (k_void fun M_75 hp_75 => ?_)
        replace hp_75 := hp_75.symm; subst hp_75
        refine g_vret hX hR d_Plan_planWeighed_78 ?_
        first | (obtain ⟨e1, e2⟩ := pP1_no (n := n) (x := x) (g := g) (p := p) (by omega); rw [e1, e2]; done) | (obtain ⟨e1, e2⟩ := pP1_yes (n := n) (x := x) (g := g) (p := p) (by omega) (by omega) (by omega); rw [e1, e2]; done) | omega
      · refine g_iload_n hX d_Plan_planWeighed_47 rfl ?_
        refine g_if_ne 72 hX d_Plan_planWeighed_48 (by decide) (by omega) (fun h_48 => ?_) (fun h_48 => ?_)
        · refine g_aload_n hX d_Plan_planWeighed_72 rfl ?_
          refine g_iconst hX d_Plan_planWeighed_73 ?_
          refine g_iload_n hX d_Plan_planWeighed_74 rfl ?_
          refine g_callV hX yo_Plan_planLetter q_389 d_Plan_planWeighed_75 (c_Plan_planLetter (by omega) (by omega)) rfl rfl ⟨rfl, by decide⟩ rfl (by decide) (Nat.le_of_ble_eq_true rfl) ⟨Nat.zero_le _, Nat.zero_le _⟩ (k_void fun M_75 hp_75 => ?_)
          replace hp_75 := hp_75.symm; subst hp_75
          refine g_vret hX hR d_Plan_planWeighed_78 ?_
          first | (obtain ⟨e1, e2⟩ := pP1_no (n := n) (x := x) (g := g) (p := p) (by omega); rw [e1, e2]; done) | (obtain ⟨e1, e2⟩ := pP1_yes (n := n) (x := x) (g := g) (p := p) (by omega) (by omega) (by omega); rw [e1, e2]; done) | omega
        · refine g_aload_n hX d_Plan_planWeighed_51 rfl ?_
          refine g_iconst hX d_Plan_planWeighed_52 ?_
          refine g_iload_n hX d_Plan_planWeighed_53 rfl ?_
          refine g_aload_n hX d_Plan_planWeighed_54 rfl ?_
          refine g_iconst hX d_Plan_planWeighed_55 ?_
          refine g_iload_n hX d_Plan_planWeighed_56 rfl ?_
          refine g_callV hX yo_Plan_distanceAt q_405 d_Plan_planWeighed_57 (c_Plan_distanceAt (by omega) (by omega)) rfl rfl ⟨rfl, by decide⟩ rfl (by decide) (Nat.le_of_ble_eq_true rfl) ⟨Nat.zero_le _, Nat.zero_le _⟩ (k_int fun r_57 M_57 ir_57 hp_57 => ?_)
          obtain ⟨er_57, eM_57⟩ := hp_57; replace er_57 := er_57.symm; replace eM_57 := eM_57.symm; subst er_57; subst eM_57
          rw [hd] at ir_57 ⊢
          refine g_aload_n hX d_Plan_planWeighed_60 rfl ?_
          refine g_iconst hX d_Plan_planWeighed_61 ?_
          refine g_iload_n hX d_Plan_planWeighed_62 rfl ?_
          refine g_callV hX yo_Plan_lengthAt q_409 d_Plan_planWeighed_63 (c_Plan_lengthAt (by omega) (by omega)) rfl rfl ⟨rfl, by decide⟩ rfl (by decide) (Nat.le_of_ble_eq_true rfl) ⟨Nat.zero_le _, Nat.zero_le _⟩ (k_int fun r_63 M_63 ir_63 hp_63 => ?_)
          obtain ⟨er_63, eM_63⟩ := hp_63; replace er_63 := er_63.symm; replace eM_63 := eM_63.symm; subst er_63; subst eM_63
          rw [hl] at ir_63 ⊢
          refine g_callV hX yo_Plan_planPart q_393 d_Plan_planWeighed_66 (c_Plan_planPart (by omega) (by omega) (by omega) (by omega)) rfl rfl ⟨rfl, by decide⟩ rfl (by decide) (Nat.le_of_ble_eq_true rfl) ⟨Nat.zero_le _, Nat.zero_le _⟩ (k_void fun M_66 hp_66 => ?_)
          replace hp_66 := hp_66.symm; subst hp_66
          refine g_goto 78 hX d_Plan_planWeighed_69 (by decide) ?_
          refine g_vret hX hR d_Plan_planWeighed_78 ?_
          first | (obtain ⟨e1, e2⟩ := pP1_no (n := n) (x := x) (g := g) (p := p) (by omega); rw [e1, e2]; done) | (obtain ⟨e1, e2⟩ := pP1_yes (n := n) (x := x) (g := g) (p := p) (by omega) (by omega) (by omega); rw [e1, e2]; done) | omega
theorem pP2 (n : Int) (x g : Int → Int) (p : Int) : pD n x g 2 p = (w2 n x g (cC n x g) p).2.2 ∧ pL n x g 2 p = (w2 n x g (cC n x g) p).2.1 := by
  unfold pD pL pP
  rw [if_pos rfl]
  exact ⟨rfl, rfl⟩
def mS (M : mI) (p : Int) (s : Int × Int × Int) : mI := mU (mU M 25 (2 * 60 + p) s.2.2) 26 (2 * 60 + p) s.2.1
theorem mS_o {M : mI} {p : Int} {s : Int × Int × Int} {a : Nat} (h1 : a ≠ 25) (h2 : a ≠ 26) : mS M p s a = M a := by
  unfold mS
  rw [mU_cell h2, mU_cell h1]
theorem c_Plan_planCheapest {Γ : gX} {l : Launch} {M : mI} {n p : Int} {x g : Int → Int} (hv : Sv M 1 n x g) (hg : Og g) (hc : Cp M n x g p) (hp : 0 ≤ p ∧ p < n) (hC : ∀ q, p < q → q ≤ n → M 28 q = cC n x g q) : Cn Γ l i_Plan_planCheapest R0 51 [.ref (gb Γ + 24), vI p] M (pV (fun M' => M' = mU (mU (mU M 25 (2 * 60 + p) (pD n x g 2 p)) 26 (2 * 60 + p) (pL n x g 2 p)) 28 p (cC n x g p))) := by
  refine cn_intro (L := [some (.ref (gb Γ + 24)), some (vI p), none, none, none, none, none, none]) yo_Plan_planCheapest.1 rfl (Nat.le_of_ble_eq_true rfl) rfl (fun X hX hR => ?_)
  obtain ⟨v1, v2, v3, v4, v5⟩ := id hv
  obtain ⟨⟨g0, g0'⟩, ⟨g1, g1'⟩, ⟨g2, g2'⟩, ⟨g3, g3'⟩, ⟨g4, g4'⟩⟩ := id hg
  obtain ⟨zp1, zp2⟩ := pP2 n x g p
  have zc1 := hc.2.2.2.1
  have zc2 : ((cs n x g p).length : Int) ≤ g 2 := (cl_len n x g p p.toNat g2).1
  have hcS : ∀ s, Cp (mS M p s) n x g p := fun s => hc.to (mS_o (by decide) (by decide)) (mS_o (by decide) (by decide)) (mS_o (by decide) (by decide))
  have OUT : ∀ (q : Nat) (i : Nat) (s : Int × Int × Int) (sh : Int), i + q = (cs n x g p).length → ((cs n x g p).drop i).foldl (fun s d => wI (cC n x g) (g 4) p d s (rc n x p d) (rc n x p d - g 1 + 1).toNat) s = w2 n x g (cC n x g) p → g 1 ≤ sh → sh ≤ 21 → (∀ j, g 1 ≤ j → j < sh → s.1 ≤ g 4 + cC n x g (p + j)) → 0 ≤ s.1 ∧ s.1 ≤ 1300 → G Γ X 8 (R0, 51, 0, 0) 48 [some (.ref (gb Γ + 24)), some (vI p), some (vI s.1), some (vI sh), some (vI (g 4)), some (vI i), none, none] [] (mS M p s) := by
    intro q
    induction q with
    | zero =>
      intro i s sh hq hf h1 h2 h3 h4
      rw [List.drop_eq_nil_of_le (by omega), List.foldl_nil] at hf
      have zt1 : (mS M p s) 21 5 = M 21 5 := by rw [mS_o (by decide) (by decide)]
      refine g_iload hX d_Plan_planCheapest_48 rfl ?_
      refine g_aload_n hX d_Plan_planCheapest_50 rfl ?_
      refine g_getR hX fl_Plan_44 d_Plan_planCheapest_51 ⟨rfl, by decide⟩ rfl rfl ?_
      refine g_callV hX yo_Cand_lookedAt q_418 d_Plan_planCheapest_54 c_Cand_lookedAt rfl rfl ⟨rfl, by decide⟩ rfl (by decide) (Nat.le_of_ble_eq_true rfl) ⟨Nat.zero_le _, Nat.zero_le _⟩ (k_int fun r_54 M_54 ir_54 hp_54 => ?_)
      obtain ⟨er_54, eM_54⟩ := hp_54; replace er_54 := er_54.symm; replace eM_54 := eM_54.symm; subst er_54; subst eM_54
      rw [zt1] at ir_54 ⊢
      refine g_icmp_ge 147 hX d_Plan_planCheapest_57 (by decide) (by omega) (by omega) (fun h_57 => ?_) (fun h_57 => ?_)
      · refine g_aload_n hX d_Plan_planCheapest_147 rfl ?_
        refine g_getR hX fl_Plan_21 d_Plan_planCheapest_148 ⟨rfl, by decide⟩ rfl rfl ?_
        refine g_iload_n hX d_Plan_planCheapest_151 rfl ?_
        refine g_iload_n hX d_Plan_planCheapest_152 rfl ?_
        refine g_callSN (host := "WindowCopies") hX yo_WC_store (by unfold nestWs; simp) d_Plan_planCheapest_153 (c_WC_store (k := 28) rfl (by decide) (n := 61) (by omega) (by omega)) rfl rfl (by decide) (Nat.le_of_ble_eq_true rfl) ⟨Nat.zero_le _, Nat.zero_le _⟩ (k_void fun M_153 hp_153 => ?_)
        replace hp_153 := hp_153.symm; subst hp_153
        refine g_vret hX hR d_Plan_planCheapest_156 ?_
        rw [zp1, zp2, cC_at hg hp.1 hp.2, hf]; rfl
      · exact absurd h_57 (by omega)
    | succ q ih =>
      intro i s sh hq hf h1 h2 h3 h4
      have hl : (cs n x g p)[i]? = some ((cs n x g p).getD i 0) := by
        rw [List.getD_eq_getElem?_getD, List.getElem?_eq_getElem (by omega)]; rfl
      have hdr : (cs n x g p).drop i = (cs n x g p).getD i 0 :: (cs n x g p).drop (i + 1) := by
        rw [List.drop_eq_getElem_cons (by omega), List.getD_eq_getElem?_getD, List.getElem?_eq_getElem (by omega)]; rfl
      rw [hdr, List.foldl_cons] at hf
      generalize hd : (cs n x g p).getD i 0 = d at hl hf
      have zd := cs_at hl hp.1
      have zr := @rc_b n x p d (by omega)
      have zt1 : (mS M p s) 21 5 = M 21 5 := by rw [mS_o (by decide) (by decide)]
      rw [wI_skip h1 h3] at hf
      have zle := wI_least (T := cC n x g) (c := g 4) (p := p) (d := d) (rc n x p d - sh + 1).toNat s (rc n x p d)
      have zge := wI_b (T := cC n x g) (c := g 4) (p := p) (d := d) (by omega) (rc n x p d - sh + 1).toNat s (rc n x p d) h4.1 (fun j q1 q2 => (cC_bound (x := x) hg (show 0 ≤ p + j by omega) (by omega) v3).1)
      generalize hs' : wI (cC n x g) (g 4) p d s (rc n x p d) (rc n x p d - sh + 1).toNat = s' at hf zle zge
      have EX : G Γ X 8 (R0, 51, 0, 0) 125 [some (.ref (gb Γ + 24)), some (vI p), some (vI s'.1), some (vI sh), some (vI (g 4)), some (vI i), none, none] [] (mS M p s') := by
        refine g_iload_n hX d_Plan_planCheapest_125 rfl ?_
        refine g_aload_n hX d_Plan_planCheapest_126 rfl ?_
        refine g_getR hX fl_Plan_44 d_Plan_planCheapest_127 ⟨rfl, by decide⟩ rfl rfl ?_
        refine g_iload hX d_Plan_planCheapest_130 rfl ?_
        refine g_callV hX yo_Cand_reach q_397 d_Plan_planCheapest_132 (c_Cand_reach (hcS s') hg hl ⟨hp.1, by omega, v3⟩) rfl rfl ⟨rfl, by decide⟩ rfl (by decide) (Nat.le_of_ble_eq_true rfl) ⟨Nat.zero_le _, Nat.zero_le _⟩ (k_int fun r_132 M_132 ir_132 hp_132 => ?_)
        obtain ⟨er_132, eM_132⟩ := hp_132; replace er_132 := er_132.symm; replace eM_132 := eM_132.symm; subst er_132; subst eM_132
        refine g_iconst hX d_Plan_planCheapest_135 ?_
        refine g_iadd hX d_Plan_planCheapest_136 ?_
        refine g_max hX d_Plan_planCheapest_137 q_419 (by omega) (by omega) (by decide) (Nat.le_of_ble_eq_true rfl) ⟨Nat.zero_le _, Nat.zero_le _⟩ ?_
        refine g_istore_n hX d_Plan_planCheapest_140 (by decide) ?_
        refine g_iinc hX d_Plan_planCheapest_141 rfl (by decide) ?_
        refine g_goto 48 hX d_Plan_planCheapest_144 (by decide) ?_
        refine ih (i + 1) s' (max sh (rc n x p d + 1)) (by omega) hf (by omega) (by omega) (fun j q1 q2 => ?_) ⟨zge.1, by omega⟩
        by_cases q3 : j < sh
        · have zq := h3 j q1 q3; omega
        · exact zle.2 j (by omega) (by omega)
      have INN : ∀ (k : Nat) (l : Int) (s : Int × Int × Int), (l - sh + 1).toNat = k → l ≤ rc n x p d → 1 ≤ l + 1 → wI (cC n x g) (g 4) p d s l k = s' → 0 ≤ s.1 ∧ s.1 ≤ 1300 → G Γ X 8 (R0, 51, 0, 0) 71 [some (.ref (gb Γ + 24)), some (vI p), some (vI s.1), some (vI sh), some (vI (g 4)), some (vI i), some (vI l), none] [] (mS M p s) := by
        intro k
        induction k with
        | zero =>
          intro l s q1 q2 q3 q4 q5
          have q6 : s = s' := q4
          subst q6
          refine g_iload hX d_Plan_planCheapest_71 rfl ?_
          refine g_iload_n hX d_Plan_planCheapest_73 rfl ?_
          refine g_icmp_lt 125 hX d_Plan_planCheapest_74 (by decide) (by omega) (by omega) (fun h_74 => ?_) (fun h_74 => ?_)
          · refine g_drop 6 ?_
            exact EX
          · exact absurd h_74 (by omega)
        | succ k ih2 =>
          intro l s q1 q2 q3 q4 q5
          rw [wI_succ] at q4
          have zb := cC_bound (x := x) hg (show 0 ≤ p + l by omega) (by omega) v3
          have zt2 : (mS M p s) 28 (p + l) = cC n x g (p + l) := by rw [mS_o (by decide) (by decide)]; exact hC _ (by omega) (by omega)
          refine g_iload hX d_Plan_planCheapest_71 rfl ?_
          refine g_iload_n hX d_Plan_planCheapest_73 rfl ?_
          refine g_icmp_lt 125 hX d_Plan_planCheapest_74 (by decide) (by omega) (by omega) (fun h_74 => ?_) (fun h_74 => ?_)
          · exact absurd h_74 (by omega)
          · refine g_iload hX d_Plan_planCheapest_77 rfl ?_
            refine g_aload_n hX d_Plan_planCheapest_79 rfl ?_
            refine g_getR hX fl_Plan_21 d_Plan_planCheapest_80 ⟨rfl, by decide⟩ rfl rfl ?_
            refine g_iload_n hX d_Plan_planCheapest_83 rfl ?_
            refine g_iload hX d_Plan_planCheapest_84 rfl ?_
            refine g_iadd hX d_Plan_planCheapest_86 ?_
            refine g_callSN (host := "WindowCopies") hX yo_WC_at (by unfold nestWs; simp) d_Plan_planCheapest_87 (c_WC_at (k := 28) rfl (by decide) (n := 61) (by omega)) rfl rfl (by decide) (Nat.le_of_ble_eq_true rfl) ⟨Nat.zero_le _, Nat.zero_le _⟩ (k_int fun r_87 M_87 ir_87 hp_87 => ?_)
            obtain ⟨er_87, eM_87⟩ := hp_87; replace er_87 := er_87.symm; replace eM_87 := eM_87.symm; subst er_87; subst eM_87
            rw [zt2] at ir_87 ⊢
            refine g_iadd hX d_Plan_planCheapest_90 ?_
            refine g_istore hX d_Plan_planCheapest_91 (by decide) ?_
            refine g_iload hX d_Plan_planCheapest_93 rfl ?_
            refine g_iload_n hX d_Plan_planCheapest_95 rfl ?_
            refine g_icmp_ge 119 hX d_Plan_planCheapest_96 (by decide) (by omega) (by omega) (fun h_96 => ?_) (fun h_96 => ?_)
            · rw [if_neg (by omega)] at q4
              have zm : mS M p s = mS M p s := rfl
              refine g_iinc hX d_Plan_planCheapest_119 rfl (by decide) ?_
              refine g_goto 71 hX d_Plan_planCheapest_122 (by decide) ?_
              refine g_drop 7 ?_
              rw [zm]
              exact ih2 (l + -1) _ (by omega) (by omega) (by omega) q4 (by first | exact q5 | exact ⟨by show 0 ≤ g 4 + cC n x g (p + l); omega, by show g 4 + cC n x g (p + l) ≤ 1300; omega⟩)
            · rw [if_pos (by omega)] at q4
              have zm : mU (mU (mS M p s) 25 (2 * 60 + p) d) 26 (2 * 60 + p) l = mS M p (g 4 + cC n x g (p + l), l, d) := mU_over2 M 25 26 _ _ _ _ _ (by decide)
              refine g_iload hX d_Plan_planCheapest_99 rfl ?_
              refine g_istore_n hX d_Plan_planCheapest_101 (by decide) ?_
              refine g_aload_n hX d_Plan_planCheapest_102 rfl ?_
              refine g_iconst hX d_Plan_planCheapest_103 ?_
              refine g_iload_n hX d_Plan_planCheapest_104 rfl ?_
              refine g_aload_n hX d_Plan_planCheapest_105 rfl ?_
              refine g_getR hX fl_Plan_44 d_Plan_planCheapest_106 ⟨rfl, by decide⟩ rfl rfl ?_
              refine g_iload hX d_Plan_planCheapest_109 rfl ?_
              refine g_callV hX yo_Cand_distance q_398 d_Plan_planCheapest_111 (c_Cand_distance (hcS s) hg hl) rfl rfl ⟨rfl, by decide⟩ rfl (by decide) (Nat.le_of_ble_eq_true rfl) ⟨Nat.zero_le _, Nat.zero_le _⟩ (k_int fun r_111 M_111 ir_111 hp_111 => ?_)
              obtain ⟨er_111, eM_111⟩ := hp_111; replace er_111 := er_111.symm; replace eM_111 := eM_111.symm; subst er_111; subst eM_111
              refine g_iload hX d_Plan_planCheapest_114 rfl ?_
              refine g_callV hX yo_Plan_planPart q_393 d_Plan_planCheapest_116 (c_Plan_planPart (by omega) (by omega) (by omega) (by omega)) rfl rfl ⟨rfl, by decide⟩ rfl (by decide) (Nat.le_of_ble_eq_true rfl) ⟨Nat.zero_le _, Nat.zero_le _⟩ (k_void fun M_116 hp_116 => ?_)
              replace hp_116 := hp_116.symm; subst hp_116
              refine g_iinc hX d_Plan_planCheapest_119 rfl (by decide) ?_
              refine g_goto 71 hX d_Plan_planCheapest_122 (by decide) ?_
              refine g_drop 7 ?_
              rw [zm]
              exact ih2 (l + -1) _ (by omega) (by omega) (by omega) q4 (by first | exact q5 | exact ⟨by show 0 ≤ g 4 + cC n x g (p + l); omega, by show g 4 + cC n x g (p + l) ≤ 1300; omega⟩)
      refine g_iload hX d_Plan_planCheapest_48 rfl ?_
      refine g_aload_n hX d_Plan_planCheapest_50 rfl ?_
      refine g_getR hX fl_Plan_44 d_Plan_planCheapest_51 ⟨rfl, by decide⟩ rfl rfl ?_
      refine g_callV hX yo_Cand_lookedAt q_418 d_Plan_planCheapest_54 c_Cand_lookedAt rfl rfl ⟨rfl, by decide⟩ rfl (by decide) (Nat.le_of_ble_eq_true rfl) ⟨Nat.zero_le _, Nat.zero_le _⟩ (k_int fun r_54 M_54 ir_54 hp_54 => ?_)
      obtain ⟨er_54, eM_54⟩ := hp_54; replace er_54 := er_54.symm; replace eM_54 := eM_54.symm; subst er_54; subst eM_54
      rw [zt1] at ir_54 ⊢
      refine g_icmp_ge 147 hX d_Plan_planCheapest_57 (by decide) (by omega) (by omega) (fun h_57 => ?_) (fun h_57 => ?_)
      · exact absurd h_57 (by omega)
      · refine g_aload_n hX d_Plan_planCheapest_60 rfl ?_
        refine g_getR hX fl_Plan_44 d_Plan_planCheapest_61 ⟨rfl, by decide⟩ rfl rfl ?_
        refine g_iload hX d_Plan_planCheapest_64 rfl ?_
        refine g_callV hX yo_Cand_reach q_397 d_Plan_planCheapest_66 (c_Cand_reach (hcS s) hg hl ⟨hp.1, by omega, v3⟩) rfl rfl ⟨rfl, by decide⟩ rfl (by decide) (Nat.le_of_ble_eq_true rfl) ⟨Nat.zero_le _, Nat.zero_le _⟩ (k_int fun r_66 M_66 ir_66 hp_66 => ?_)
        obtain ⟨er_66, eM_66⟩ := hp_66; replace er_66 := er_66.symm; replace eM_66 := eM_66.symm; subst er_66; subst eM_66
        refine g_istore hX d_Plan_planCheapest_69 (by decide) ?_
        exact INN _ _ s rfl (by omega) (by omega) hs' h4
  have zb1 := cC_bound (x := x) hg (show 0 ≤ p + 1 by omega) (by omega) v3
  refine g_aload_n hX d_Plan_planCheapest_0 rfl ?_
  refine g_getR hX fl_Plan_40 d_Plan_planCheapest_1 ⟨rfl, by decide⟩ rfl rfl ?_
  refine g_iconst hX d_Plan_planCheapest_4 ?_
  refine g_callV hX yo_State_setting q_417 d_Plan_planCheapest_5 (c_State_setting st_1 (p := 3) (by omega)) rfl rfl ⟨rfl, by decide⟩ rfl (by decide) (Nat.le_of_ble_eq_true rfl) ⟨Nat.zero_le _, Nat.zero_le _⟩ (k_int fun r_5 M_5 ir_5 hp_5 => ?_)
  obtain ⟨er_5, eM_5⟩ := hp_5; replace er_5 := er_5.symm; replace eM_5 := eM_5.symm; subst er_5; subst eM_5
  rw [v5 3 (by omega) (by omega)] at ir_5 ⊢
  refine g_aload_n hX d_Plan_planCheapest_8 rfl ?_
  refine g_getR hX fl_Plan_21 d_Plan_planCheapest_9 ⟨rfl, by decide⟩ rfl rfl ?_
  refine g_iload_n hX d_Plan_planCheapest_12 rfl ?_
  refine g_iconst hX d_Plan_planCheapest_13 ?_
  refine g_iadd hX d_Plan_planCheapest_14 ?_
  refine g_callSN (host := "WindowCopies") hX yo_WC_at (by unfold nestWs; simp) d_Plan_planCheapest_15 (c_WC_at (k := 28) rfl (by decide) (n := 61) (by omega)) rfl rfl (by decide) (Nat.le_of_ble_eq_true rfl) ⟨Nat.zero_le _, Nat.zero_le _⟩ (k_int fun r_15 M_15 ir_15 hp_15 => ?_)
  obtain ⟨er_15, eM_15⟩ := hp_15; replace er_15 := er_15.symm; replace eM_15 := eM_15.symm; subst er_15; subst eM_15
  rw [hC (p + 1) (by omega) (by omega)] at ir_15 ⊢
  refine g_iadd hX d_Plan_planCheapest_18 ?_
  refine g_istore_n hX d_Plan_planCheapest_19 (by decide) ?_
  refine g_aload_n hX d_Plan_planCheapest_20 rfl ?_
  refine g_iconst hX d_Plan_planCheapest_21 ?_
  refine g_iload_n hX d_Plan_planCheapest_22 rfl ?_
  refine g_callV hX yo_Plan_planLetter q_389 d_Plan_planCheapest_23 (c_Plan_planLetter (by omega) (by omega)) rfl rfl ⟨rfl, by decide⟩ rfl (by decide) (Nat.le_of_ble_eq_true rfl) ⟨Nat.zero_le _, Nat.zero_le _⟩ (k_void fun M_23 hp_23 => ?_)
  replace hp_23 := hp_23.symm; subst hp_23
  refine g_aload_n hX d_Plan_planCheapest_26 rfl ?_
  refine g_getR hX fl_Plan_40 d_Plan_planCheapest_27 ⟨rfl, by decide⟩ rfl rfl ?_
  refine g_iconst hX d_Plan_planCheapest_30 ?_
  refine g_callV hX yo_State_setting q_417 d_Plan_planCheapest_31 (c_State_setting st_1 (p := 1) (by omega)) rfl rfl ⟨rfl, by decide⟩ rfl (by decide) (Nat.le_of_ble_eq_true rfl) ⟨Nat.zero_le _, Nat.zero_le _⟩ (k_int fun r_31 M_31 ir_31 hp_31 => ?_)
  obtain ⟨er_31, eM_31⟩ := hp_31; replace er_31 := er_31.symm; replace eM_31 := eM_31.symm; subst er_31; subst eM_31
  rw [mU_cell (by omega), mU_cell (by omega), v5 1 (by omega) (by omega)] at ir_31 ⊢
  refine g_istore_n hX d_Plan_planCheapest_34 (by decide) ?_
  refine g_aload_n hX d_Plan_planCheapest_35 rfl ?_
  refine g_getR hX fl_Plan_40 d_Plan_planCheapest_36 ⟨rfl, by decide⟩ rfl rfl ?_
  refine g_iconst hX d_Plan_planCheapest_39 ?_
  refine g_callV hX yo_State_setting q_417 d_Plan_planCheapest_40 (c_State_setting st_1 (p := 4) (by omega)) rfl rfl ⟨rfl, by decide⟩ rfl (by decide) (Nat.le_of_ble_eq_true rfl) ⟨Nat.zero_le _, Nat.zero_le _⟩ (k_int fun r_40 M_40 ir_40 hp_40 => ?_)
  obtain ⟨er_40, eM_40⟩ := hp_40; replace er_40 := er_40.symm; replace eM_40 := eM_40.symm; subst er_40; subst eM_40
  rw [mU_cell (by omega), mU_cell (by omega), v5 4 (by omega) (by omega)] at ir_40 ⊢
  refine g_istore hX d_Plan_planCheapest_43 (by decide) ?_
  refine g_iconst hX d_Plan_planCheapest_45 ?_
  refine g_istore hX d_Plan_planCheapest_46 (by decide) ?_
  exact OUT _ 0 (g 3 + cC n x g (p + 1), 1, 0) (g 1) (Nat.zero_add _) rfl (Int.le_refl _) (by omega) (fun j q1 q2 => by omega) ⟨by show 0 ≤ g 3 + cC n x g (p + 1); omega, by show g 3 + cC n x g (p + 1) ≤ 1300; omega⟩
/-- from place p on all three ways are planned -/
def Pp (M : mI) (n : Int) (x g : Int → Int) (p : Int) : Prop := (∀ w q, 0 ≤ w → w ≤ 2 → p ≤ q → q < n → M 25 (w * 60 + q) = pD n x g w q ∧ M 26 (w * 60 + q) = pL n x g w q) ∧ (∀ q, p ≤ q → q ≤ n + 1 → M 27 q = sv n x g q) ∧ ∀ q, p ≤ q → q ≤ n → M 28 q = cC n x g q
theorem Pp.to {M M' : mI} {n : Int} {x g : Int → Int} {p : Int} (h : Pp M n x g p) (h5 : M' 25 = M 25) (h6 : M' 26 = M 26) (h7 : M' 27 = M 27) (h8 : M' 28 = M 28) : Pp M' n x g p := by
  unfold Pp
  rw [h5, h6, h7, h8]
  exact h
theorem c_Plan_make {Γ : gX} {l : Launch} {M : mI} {n : Int} {x g : Int → Int} (hv : Sv M 1 n x g) (hg : Og g) : Cn Γ l i_Plan_make R0 51 [.ref (gb Γ + 24)] M (pV (fun M' => Pp M' n x g 0 ∧ ∀ a, a ≠ 21 → a ≠ 22 → a ≠ 23 → a ≠ 25 → a ≠ 26 → a ≠ 27 → a ≠ 28 → M' a = M a)) := by
  refine cn_intro (L := [some (.ref (gb Γ + 24)), none, none]) yo_Plan_make.1 rfl (Nat.le_of_ble_eq_true rfl) rfl (fun X hX hR => ?_)
  obtain ⟨v1, v2, v3, v4, v5⟩ := id hv
  have LOOP : ∀ (q : Nat) (j : Int) (M1 : mI), (j + 1).toNat = q → -1 ≤ j → j < n → Cp M1 n x g (j + 1) → Pp M1 n x g (j + 1) → (∀ a, a ≠ 21 → a ≠ 22 → a ≠ 23 → a ≠ 25 → a ≠ 26 → a ≠ 27 → a ≠ 28 → M1 a = M a) → G Γ X 3 (R0, 51, 0, 0) 48 [some (.ref (gb Γ + 24)), some (vI n), some (vI j)] [] M1 := by
    intro q
    induction q with
    | zero =>
      intro j M1 hq h0 h1 h2 h3 h4
      refine g_iload_n hX d_Plan_make_48 rfl ?_
      refine g_if_lt 80 hX d_Plan_make_49 (by decide) (by omega) (fun h_49 => ?_) (fun h_49 => ?_)
      · refine g_vret hX hR d_Plan_make_80 ?_
        rw [show j + 1 = 0 by omega] at h3
        exact ⟨h3, h4⟩
      · exact absurd h_49 (by omega)
    | succ q ih =>
      intro j M1 hq h0 h1 h2 h3 h4
      have hv1 : Sv M1 1 n x g := hv.to (h4 1 (by decide) (by decide) (by decide) (by decide) (by decide) (by decide) (by decide)) (h4 2 (by decide) (by decide) (by decide) (by decide) (by decide) (by decide) (by decide)) (h4 3 (by decide) (by decide) (by decide) (by decide) (by decide) (by decide) (by decide))
      obtain ⟨y1, y2, y3⟩ := h3
      refine g_iload_n hX d_Plan_make_48 rfl ?_
      refine g_if_lt 80 hX d_Plan_make_49 (by decide) (by omega) (fun h_49 => ?_) (fun h_49 => ?_)
      · exact absurd h_49 (by omega)
      · refine g_aload_n hX d_Plan_make_52 rfl ?_
        refine g_getR hX fl_Plan_44 d_Plan_make_53 ⟨rfl, by decide⟩ rfl rfl ?_
        refine g_callV hX yo_Cand_stepAhead q_383 d_Plan_make_56 (c_Cand_stepAhead (p := j) hv1 hg h2 (by omega)) rfl rfl ⟨rfl, by decide⟩ rfl (by decide) (Nat.le_of_ble_eq_true rfl) ⟨Nat.zero_le _, Nat.zero_le _⟩ (k_void fun M_56 hp_56 => ?_)
        obtain ⟨p1, p2⟩ := hp_56
        have hv2 : Sv M_56 1 n x g := hv1.to (p2 1 (by decide) (by decide) (by decide)) (p2 2 (by decide) (by decide) (by decide)) (p2 3 (by decide) (by decide) (by decide))
        have e5 := p2 25 (by decide) (by decide) (by decide)
        have e6 := p2 26 (by decide) (by decide) (by decide)
        have e7 := p2 27 (by decide) (by decide) (by decide)
        have e8 := p2 28 (by decide) (by decide) (by decide)
        rw [← e5, ← e6] at y1
        rw [← e7] at y2
        rw [← e8] at y3
        refine g_aload_n hX d_Plan_make_59 rfl ?_
        refine g_iload_n hX d_Plan_make_60 rfl ?_
        refine g_callV hX yo_Plan_planFound q_384 d_Plan_make_61 (c_Plan_planFound hv2 hg p1 (by omega)) rfl rfl ⟨rfl, by decide⟩ rfl (by decide) (Nat.le_of_ble_eq_true rfl) ⟨Nat.zero_le _, Nat.zero_le _⟩ (k_void fun M_61 hp_61 => ?_)
        obtain ⟨M_61', zM61⟩ : ∃ M_61', M_61' = M_61 := ⟨_, rfl⟩
        subst zM61
        refine g_aload_n hX d_Plan_make_64 rfl ?_
        refine g_iload_n hX d_Plan_make_65 rfl ?_
        refine g_callV hX yo_Plan_planWeighed q_400 d_Plan_make_66 (c_Plan_planWeighed (n := n) (x := x) hg (by omega) (by rw [hp_61, mU_self]) (by rw [hp_61, mU_slot (by omega), mU_cell (by omega), mU_cell (by omega)]; exact y2 _ (by omega) (by omega)) (by rw [hp_61, mU_slot (by omega), mU_cell (by omega), mU_cell (by omega)]; exact y2 _ (by omega) (by omega)) (by rw [hp_61, mU_cell (by omega), mU_cell (by omega), mU_self]) (by rw [hp_61, mU_cell (by omega), mU_self])) rfl rfl ⟨rfl, by decide⟩ rfl (by decide) (Nat.le_of_ble_eq_true rfl) ⟨Nat.zero_le _, Nat.zero_le _⟩ (k_void fun M_66 hp_66 => ?_)
        have ho66 : ∀ a, a ≠ 25 → a ≠ 26 → a ≠ 27 → M_66 a = M_56 a := fun a u v w => by rw [hp_66, mU_cell v, mU_cell u, hp_61, mU_cell w, mU_cell v, mU_cell u]
        refine g_aload_n hX d_Plan_make_69 rfl ?_
        refine g_iload_n hX d_Plan_make_70 rfl ?_
        refine g_callV hX yo_Plan_planCheapest q_413 d_Plan_make_71 (c_Plan_planCheapest (n := n) (x := x) (g := g) (hv2.to (ho66 1 (by decide) (by decide) (by decide)) (ho66 2 (by decide) (by decide) (by decide)) (ho66 3 (by decide) (by decide) (by decide))) hg (p1.to (ho66 21 (by decide) (by decide) (by decide)) (ho66 22 (by decide) (by decide) (by decide)) (ho66 23 (by decide) (by decide) (by decide))) (by omega) (fun q u v => by rw [ho66 28 (by decide) (by decide) (by decide)]; exact y3 q (by omega) v)) rfl rfl ⟨rfl, by decide⟩ rfl (by decide) (Nat.le_of_ble_eq_true rfl) ⟨Nat.zero_le _, Nat.zero_le _⟩ (k_void fun M_71 hp_71 => ?_)
        have ho71 : ∀ a, a ≠ 25 → a ≠ 26 → a ≠ 27 → a ≠ 28 → M_71 a = M_56 a := fun a u v w t => by rw [hp_71, mU_cell t, mU_cell v, mU_cell u]; exact ho66 a u v w
        refine g_iinc hX d_Plan_make_74 rfl (by decide) ?_
        refine g_goto 48 hX d_Plan_make_77 (by decide) ?_
        refine ih (j + -1) _ (by omega) (by omega) (by omega) ?_ ⟨fun w q u v s t => ?_, fun q u v => ?_, fun q u v => ?_⟩ (fun a t1 t2 t3 t4 t5 t6 t7 => by rw [ho71 a t4 t5 t6 t7, p2 a t1 t2 t3]; exact h4 a t1 t2 t3 t4 t5 t6 t7)
        · rw [show j + -1 + 1 = j by omega]
          exact p1.to (ho71 21 (by decide) (by decide) (by decide) (by decide)) (ho71 22 (by decide) (by decide) (by decide) (by decide)) (ho71 23 (by decide) (by decide) (by decide) (by decide))
        · rw [show j + -1 + 1 = j by omega] at s
          by_cases hj : q = j
          · subst hj
            rcases (show w = 0 ∨ w = 1 ∨ w = 2 by omega) with hw | hw | hw
            · subst hw; exact ⟨by rw [hp_71, mU_cell (by omega), mU_cell (by omega), mU_slot (by omega), hp_66, mU_cell (by omega), mU_slot (by omega), hp_61, mU_cell (by omega), mU_cell (by omega), mU_self], by rw [hp_71, mU_cell (by omega), mU_slot (by omega), mU_cell (by omega), hp_66, mU_slot (by omega), mU_cell (by omega), hp_61, mU_cell (by omega), mU_self]⟩
            · subst hw; exact ⟨by rw [hp_71, mU_cell (by omega), mU_cell (by omega), mU_slot (by omega), hp_66, mU_cell (by omega), mU_self], by rw [hp_71, mU_cell (by omega), mU_slot (by omega), mU_cell (by omega), hp_66, mU_self]⟩
            · subst hw; exact ⟨by rw [hp_71, mU_cell (by omega), mU_cell (by omega), mU_self], by rw [hp_71, mU_cell (by omega), mU_self]⟩
          · have zq := y1 w q u v (by omega) t
            exact ⟨by rw [hp_71, mU_cell (by omega), mU_cell (by omega), mU_slot (by omega), hp_66, mU_cell (by omega), mU_slot (by omega), hp_61, mU_cell (by omega), mU_cell (by omega), mU_slot (by omega)]; exact zq.1, by rw [hp_71, mU_cell (by omega), mU_slot (by omega), mU_cell (by omega), hp_66, mU_slot (by omega), mU_cell (by omega), hp_61, mU_cell (by omega), mU_slot (by omega), mU_cell (by omega)]; exact zq.2⟩
        · rw [hp_71, mU_cell (by omega), mU_cell (by omega), mU_cell (by omega), hp_66, mU_cell (by omega), mU_cell (by omega), hp_61]
          by_cases hj : q = j
          · subst hj; rw [mU_self]
          · rw [mU_slot hj, mU_cell (by omega), mU_cell (by omega)]; exact y2 q (by omega) v
        · rw [hp_71]
          by_cases hj : q = j
          · subst hj; rw [mU_self]
          · rw [mU_slot hj, mU_cell (by omega), mU_cell (by omega), ho66 28 (by decide) (by decide) (by decide)]; exact y3 q (by omega) v
  refine g_aload_n hX d_Plan_make_0 rfl ?_
  refine g_getR hX fl_Plan_40 d_Plan_make_1 ⟨rfl, by decide⟩ rfl rfl ?_
  refine g_callV hX yo_State_size q_380 d_Plan_make_4 (c_State_size st_1) rfl rfl ⟨rfl, by decide⟩ rfl (by decide) (Nat.le_of_ble_eq_true rfl) ⟨Nat.zero_le _, Nat.zero_le _⟩ (k_int fun r_4 M_4 ir_4 hp_4 => ?_)
  obtain ⟨er_4, eM_4⟩ := hp_4; replace er_4 := er_4.symm; replace eM_4 := eM_4.symm; subst er_4; subst eM_4
  rw [v1] at ir_4 ⊢
  refine g_istore_n hX d_Plan_make_7 (by decide) ?_
  refine g_aload_n hX d_Plan_make_8 rfl ?_
  refine g_getR hX fl_Plan_18 d_Plan_make_9 ⟨rfl, by decide⟩ rfl rfl ?_
  refine g_iload_n hX d_Plan_make_12 rfl ?_
  refine g_iconst hX d_Plan_make_13 ?_
  refine g_callSN (host := "WindowCopies") hX yo_WC_store (by unfold nestWs; simp) d_Plan_make_14 (c_WC_store (k := 27) rfl (by decide) (n := 62) (by omega) (by omega)) rfl rfl (by decide) (Nat.le_of_ble_eq_true rfl) ⟨Nat.zero_le _, Nat.zero_le _⟩ (k_void fun M_14 hp_14 => ?_)
  replace hp_14 := hp_14.symm; subst hp_14
  refine g_aload_n hX d_Plan_make_17 rfl ?_
  refine g_getR hX fl_Plan_18 d_Plan_make_18 ⟨rfl, by decide⟩ rfl rfl ?_
  refine g_iload_n hX d_Plan_make_21 rfl ?_
  refine g_iconst hX d_Plan_make_22 ?_
  refine g_iadd hX d_Plan_make_23 ?_
  refine g_iconst hX d_Plan_make_24 ?_
  refine g_callSN (host := "WindowCopies") hX yo_WC_store (by unfold nestWs; simp) d_Plan_make_25 (c_WC_store (k := 27) rfl (by decide) (n := 62) (by omega) (by omega)) rfl rfl (by decide) (Nat.le_of_ble_eq_true rfl) ⟨Nat.zero_le _, Nat.zero_le _⟩ (k_void fun M_25 hp_25 => ?_)
  replace hp_25 := hp_25.symm; subst hp_25
  refine g_aload_n hX d_Plan_make_28 rfl ?_
  refine g_getR hX fl_Plan_21 d_Plan_make_29 ⟨rfl, by decide⟩ rfl rfl ?_
  refine g_iload_n hX d_Plan_make_32 rfl ?_
  refine g_iconst hX d_Plan_make_33 ?_
  refine g_callSN (host := "WindowCopies") hX yo_WC_store (by unfold nestWs; simp) d_Plan_make_34 (c_WC_store (k := 28) rfl (by decide) (n := 61) (by omega) (by omega)) rfl rfl (by decide) (Nat.le_of_ble_eq_true rfl) ⟨Nat.zero_le _, Nat.zero_le _⟩ (k_void fun M_34 hp_34 => ?_)
  replace hp_34 := hp_34.symm; subst hp_34
  refine g_aload_n hX d_Plan_make_37 rfl ?_
  refine g_getR hX fl_Plan_44 d_Plan_make_38 ⟨rfl, by decide⟩ rfl rfl ?_
  refine g_callV hX yo_Cand_beginBehindRow q_382 d_Plan_make_41 (c_Cand_beginBehindRow (n := n) (x := x) (g := g) (hv.to (by rw [mU_cell (by omega), mU_cell (by omega), mU_cell (by omega)]) (by rw [mU_cell (by omega), mU_cell (by omega), mU_cell (by omega)]) (by rw [mU_cell (by omega), mU_cell (by omega), mU_cell (by omega)]))) rfl rfl ⟨rfl, by decide⟩ rfl (by decide) (Nat.le_of_ble_eq_true rfl) ⟨Nat.zero_le _, Nat.zero_le _⟩ (k_void fun M_41 hp_41 => ?_)
  obtain ⟨p1, p2⟩ := hp_41
  refine g_iload_n hX d_Plan_make_44 rfl ?_
  refine g_iconst hX d_Plan_make_45 ?_
  refine g_isub hX d_Plan_make_46 ?_
  refine g_istore_n hX d_Plan_make_47 (by decide) ?_
  refine LOOP _ (n - 1) M_41 rfl (by omega) (by omega) (by rw [show n - 1 + 1 = n by omega]; exact p1) ⟨fun w q u v s t => by omega, fun q u v => ?_, fun q u v => ?_⟩ (fun a t1 t2 t3 t4 t5 t6 t7 => by rw [p2 a t1 t2 t3, mU_cell t7, mU_cell t6, mU_cell t6])
  · rw [p2 27 (by decide) (by decide) (by decide), mU_cell (by omega), sv_past n x g (by omega)]
    by_cases hq : q = n + 1
    · subst hq; rw [mU_self]
    · rw [mU_slot hq, show q = n by omega, mU_self]
  · rw [p2 28 (by decide) (by decide) (by decide), show q = n by omega, mU_self, cC_end n x g v2]
theorem pL_b {n : Int} {x g : Int → Int} (hg : Og g) (w p : Int) (hp : 0 ≤ p) (hn : p < n) : 1 ≤ pL n x g w p ∧ pL n x g w p ≤ 20 ∧ p + pL n x g w p ≤ n ∧ 0 ≤ pD n x g w p ∧ pD n x g w p ≤ p ∧ pD n x g w p ≤ g 0 := by
  have zo := pP_ok (x := x) (w := w) hg hp hn
  exact ⟨zo.1, zo.2.1, zo.2.2.1, zo.2.2.2.1, zo.2.2.2.2.1, zo.2.2.2.2.2.1⟩
theorem ly_step {L : Int → Int} {n p : Int} (hL : ∀ q, 0 ≤ q → q < n → 1 ≤ L q) (h0 : 0 ≤ p) (hp : p < n) : ly L n n.toNat p = p :: ly L n n.toNat (p + L p) := by
  obtain ⟨k, hk⟩ : ∃ k : Nat, n.toNat = k + 1 := ⟨n.toNat - 1, by omega⟩
  have zl := hL p h0 hp
  rw [hk, ly_succ, if_pos hp]
  congr 1
  exact (ly_more hL k 1 (p + L p) (by omega) (by omega)).symm
/-- the parts of way w are listed and counted -/
def Lp (M : mI) (n : Int) (x g : Int → Int) (w : Int) : Prop := M 24 7 = ((bgs n x g w).length : Int) ∧ (∀ (i : Nat) (b : Int), (bgs n x g w)[i]? = some b → M 29 i = b) ∧ M 24 8 = (sts n x g w).1 ∧ M 24 9 = (sts n x g w).2.1 ∧ M 24 10 = (sts n x g w).2.2
theorem Lp.to {M M' : mI} {n : Int} {x g : Int → Int} {w : Int} (h : Lp M n x g w) (h4 : M' 24 = M 24) (h9 : M' 29 = M 29) : Lp M' n x g w := by
  unfold Lp
  rw [h4, h9]
  exact h
theorem row_snoc {M : mI} {k : Nat} {bs : List Int} {b v : Int} (h : ∀ (i : Nat) (c : Int), bs[i]? = some c → M k i = c) (hb : b = bs.length) : ∀ (i : Nat) (c : Int), (bs ++ [v])[i]? = some c → mU M k b v k i = c := by
  intro i c hc
  subst hb
  by_cases hi : i < bs.length
  · rw [List.getElem?_append_left hi] at hc
    rw [mU_slot (by omega)]
    exact h i c hc
  · have hi2 : i = bs.length := by
      have zz := (List.getElem?_eq_some_iff.mp hc).1
      simp at zz
      omega
    subst hi2
    rw [mU_self]
    simpa using hc
/-- what layOut has counted, of the parts bs -/
def Lq (M : mI) (D L : Int → Int) (bs : List Int) : Prop := M 24 7 = (bs.length : Int) ∧ (∀ (i : Nat) (b : Int), bs[i]? = some b → M 29 i = b) ∧ M 24 8 = (stF D L bs).1 ∧ M 24 9 = (stF D L bs).2.1 ∧ M 24 10 = (stF D L bs).2.2
theorem stS_0 {D L : Int → Int} {s : Int × Int × Int} {q : Int} (h : D q = 0) : stS D L s q = s := by unfold stS; rw [if_neg (by omega)]
theorem stS_1 {D L : Int → Int} {s : Int × Int × Int} {q : Int} (h : D q ≠ 0) : stS D L s q = (s.1 + 1, s.2.1 + L q, max s.2.2 (L q)) := by unfold stS; rw [if_pos h]
theorem c_Plan_layOut {Γ : gX} {l : Launch} {M : mI} {n w : Int} {x g : Int → Int} (hv : Sv M 1 n x g) (hg : Og g) (hw : 0 ≤ w ∧ w ≤ 2) (hP : Pp M n x g 0) : Cn Γ l i_Plan_layOut R0 51 [.ref (gb Γ + 24), vI w] M (pV (fun M' => Lp M' n x g w ∧ ∀ a, a ≠ 24 → a ≠ 29 → M' a = M a)) := by
  refine cn_intro (L := [some (.ref (gb Γ + 24)), some (vI w), none, none]) yo_Plan_layOut.1 rfl (Nat.le_of_ble_eq_true rfl) rfl (fun X hX hR => ?_)
  obtain ⟨v1, v2, v3, v4, v5⟩ := id hv
  have hL1 : ∀ q, 0 ≤ q → q < n → 1 ≤ pL n x g w q := fun q u v => (pL_b hg w q u v).1
  have LOOP : ∀ (q : Nat) (p nx : Int) (bs : List Int) (M1 : mI), (n - p).toNat = q → 0 ≤ p → p ≤ n → p ≤ nx → nx ≤ n → bs ++ ly (pL n x g w) n n.toNat nx = bgs n x g w → (bs.length : Int) ≤ p → Lq M1 (pD n x g w) (pL n x g w) bs → 0 ≤ M1 24 8 ∧ M1 24 8 ≤ bs.length → 0 ≤ M1 24 9 ∧ M1 24 9 ≤ nx → 0 ≤ M1 24 10 ∧ M1 24 10 ≤ 20 → (∀ a, a ≠ 24 → a ≠ 29 → M1 a = M a) → G Γ X 4 (R0, 51, 0, 0) 24 [some (.ref (gb Γ + 24)), some (vI w), some (vI nx), some (vI p)] [] M1 := by
    intro q
    induction q with
    | zero =>
      intro p nx bs M1 hq h0 h1 h2 h3 h4 h5 h6 h7 h8 h9 h10
      have e1 : M1 1 2 = n := by rw [h10 1 (by decide) (by decide)]; exact v1
      refine g_iload_n hX d_Plan_layOut_24 rfl ?_
      refine g_aload_n hX d_Plan_layOut_25 rfl ?_
      refine g_getR hX fl_Plan_40 d_Plan_layOut_26 ⟨rfl, by decide⟩ rfl rfl ?_
      refine g_callV hX yo_State_size q_380 d_Plan_layOut_29 (c_State_size st_1) rfl rfl ⟨rfl, by decide⟩ rfl (by decide) (Nat.le_of_ble_eq_true rfl) ⟨Nat.zero_le _, Nat.zero_le _⟩ (k_int fun r_29 M_29 ir_29 hp_29 => ?_)
      obtain ⟨er_29, eM_29⟩ := hp_29; replace er_29 := er_29.symm; replace eM_29 := eM_29.symm; subst er_29; subst eM_29
      refine g_icmp_ge 96 hX d_Plan_layOut_32 (by decide) (by omega) (by omega) (fun h_32 => ?_) (fun h_32 => ?_)
      · refine g_vret hX hR d_Plan_layOut_96 ?_
        rw [ly_end _ _ _ _ (by omega), List.append_nil] at h4
        subst h4
        exact ⟨h6, h10⟩
      · exact absurd h_32 (by omega)
    | succ q ih =>
      intro p nx bs M1 hq h0 h1 h2 h3 h4 h5 h6 h7 h8 h9 h10
      have e1 : M1 1 2 = n := by rw [h10 1 (by decide) (by decide)]; exact v1
      have zl := pL_b (n := n) (x := x) hg w p h0 (by omega)
      obtain ⟨zP, -, -⟩ := hP
      have zp := zP w p hw.1 hw.2 h0 (by omega)
      obtain ⟨l1, l2, l3, l4, l5⟩ := id h6
      refine g_iload_n hX d_Plan_layOut_24 rfl ?_
      refine g_aload_n hX d_Plan_layOut_25 rfl ?_
      refine g_getR hX fl_Plan_40 d_Plan_layOut_26 ⟨rfl, by decide⟩ rfl rfl ?_
      refine g_callV hX yo_State_size q_380 d_Plan_layOut_29 (c_State_size st_1) rfl rfl ⟨rfl, by decide⟩ rfl (by decide) (Nat.le_of_ble_eq_true rfl) ⟨Nat.zero_le _, Nat.zero_le _⟩ (k_int fun r_29 M_29 ir_29 hp_29 => ?_)
      obtain ⟨er_29, eM_29⟩ := hp_29; replace er_29 := er_29.symm; replace eM_29 := eM_29.symm; subst er_29; subst eM_29
      refine g_icmp_ge 96 hX d_Plan_layOut_32 (by decide) (by omega) (by omega) (fun h_32 => ?_) (fun h_32 => ?_)
      · exact absurd h_32 (by omega)
      · refine g_iload_n hX d_Plan_layOut_35 rfl ?_
        refine g_iload_n hX d_Plan_layOut_36 rfl ?_
        refine g_icmp_ne 90 hX d_Plan_layOut_37 (by decide) (by omega) (by omega) (fun h_37 => ?_) (fun h_37 => ?_)
        · have zz90 := h_37
          refine g_iinc hX d_Plan_layOut_90 rfl (by decide) ?_
          refine g_goto 24 hX d_Plan_layOut_93 (by decide) ?_
          first | (exact ih (p + 1) nx bs M1 (by omega) (by omega) (by omega) (by omega) h3 h4 (by omega) h6 h7 h8 h9 h10) | (rw [stS_1 h_68] at zst; exact ih (p + 1) (p + pL n x g w p) (bs ++ [p]) _ (by omega) (by omega) (by omega) (by omega) (by omega) (by rw [← h4]; simp) (by simp; omega) ⟨by rw [mU_slot (by omega), mU_slot (by omega), mU_slot (by omega), mU_self]; simp; omega, fun i b hb => by rw [mU_cell (by omega), mU_cell (by omega), mU_cell (by omega), mU_cell (by omega)]; exact l2' i b hb, by rw [mU_slot (by omega), mU_slot (by omega), mU_self, zst, l3], by rw [mU_slot (by omega), mU_self, zst, l4], by rw [mU_self, zst, l5]⟩ (by rw [mU_slot (by omega), mU_slot (by omega), mU_self]; simp; omega) (by rw [mU_slot (by omega), mU_self]; omega) (by rw [mU_self]; omega) f6) | (rw [stS_0 h_68] at zst; exact ih (p + 1) (p + pL n x g w p) (bs ++ [p]) _ (by omega) (by omega) (by omega) (by omega) (by omega) (by rw [← h4]; simp) (by simp; omega) ⟨by rw [mU_self]; simp; omega, fun i b hb => by rw [mU_cell (by omega)]; exact l2' i b hb, by rw [mU_slot (by omega), mU_cell (by omega), zst]; exact l3, by rw [mU_slot (by omega), mU_cell (by omega), zst]; exact l4, by rw [mU_slot (by omega), mU_cell (by omega), zst]; exact l5⟩ (by rw [mU_slot (by omega), mU_cell (by omega)]; simp; omega) (by rw [mU_slot (by omega), mU_cell (by omega)]; omega) (by rw [mU_slot (by omega), mU_cell (by omega)]; omega) f6)
        · have zz40 := h_37
          subst zz40
          rw [ly_step hL1 h0 (by omega)] at h4
          have f5 : ∀ a, a ≠ 24 → a ≠ 29 → mU (mU M1 29 (M1 24 7) p) 24 7 (M1 24 7 + 1) a = M a := fun a u v => by rw [mU_cell u, mU_cell v]; exact h10 a u v
          have zst := stF_app (pD n x g w) (pL n x g w) bs p
          have l2' := row_snoc (v := p) l2 l1
          refine g_aload_n hX d_Plan_layOut_40 rfl ?_
          refine g_getR hX fl_Plan_24 d_Plan_layOut_41 ⟨rfl, by decide⟩ rfl rfl ?_
          refine g_aload_n hX d_Plan_layOut_44 rfl ?_
          refine g_getI hX fl_Plan_27 d_Plan_layOut_45 7 ⟨rfl, by decide⟩ rfl rfl (fun r_45 => ?_)
          refine g_iload_n hX d_Plan_layOut_48 rfl ?_
          refine g_callSN (host := "WindowCopies") hX yo_WC_store (by unfold nestWs; simp) d_Plan_layOut_49 (c_WC_store (k := 29) rfl (by decide) (n := 60) (by omega) (by omega)) rfl rfl (by decide) (Nat.le_of_ble_eq_true rfl) ⟨Nat.zero_le _, Nat.zero_le _⟩ (k_void fun M_49 hp_49 => ?_)
          replace hp_49 := hp_49.symm; subst hp_49
          refine g_aload_n hX d_Plan_layOut_52 rfl ?_
          refine g_dup hX d_Plan_layOut_53 rfl ?_
          refine g_getI hX fl_Plan_27 d_Plan_layOut_54 7 ⟨rfl, by decide⟩ rfl rfl (fun r_54 => ?_)
          rw [mU_cell (by omega)] at r_54 ⊢
          refine g_iconst hX d_Plan_layOut_57 ?_
          refine g_iadd hX d_Plan_layOut_58 ?_
          refine g_putI hX fl_Plan_27 d_Plan_layOut_59 7 ⟨rfl, by decide⟩ rfl rfl (fun q h => by cases h; rfl) rfl (by omega) ?_
          refine g_aload_n hX d_Plan_layOut_62 rfl ?_
          refine g_iload_n hX d_Plan_layOut_63 rfl ?_
          refine g_iload_n hX d_Plan_layOut_64 rfl ?_
          refine g_callV hX yo_Plan_distanceAt q_405 d_Plan_layOut_65 (c_Plan_distanceAt hw (by omega)) rfl rfl ⟨rfl, by decide⟩ rfl (by decide) (Nat.le_of_ble_eq_true rfl) ⟨Nat.zero_le _, Nat.zero_le _⟩ (k_int fun r_65 M_65 ir_65 hp_65 => ?_)
          obtain ⟨er_65, eM_65⟩ := hp_65; replace er_65 := er_65.symm; replace eM_65 := eM_65.symm; subst er_65; subst eM_65
          rw [f5 25 (by decide) (by decide), zp.1] at ir_65 ⊢
          refine g_if_eq 81 hX d_Plan_layOut_68 (by decide) (by omega) (fun h_68 => ?_) (fun h_68 => ?_)
          · have f6 := f5
            refine g_iload_n hX d_Plan_layOut_81 rfl ?_
            refine g_aload_n hX d_Plan_layOut_82 rfl ?_
            refine g_iload_n hX d_Plan_layOut_83 rfl ?_
            refine g_iload_n hX d_Plan_layOut_84 rfl ?_
            refine g_callV hX yo_Plan_lengthAt q_409 d_Plan_layOut_85 (c_Plan_lengthAt hw (by omega)) rfl rfl ⟨rfl, by decide⟩ rfl (by decide) (Nat.le_of_ble_eq_true rfl) ⟨Nat.zero_le _, Nat.zero_le _⟩ (k_int fun r_85 M_85 ir_85 hp_85 => ?_)
            obtain ⟨er_85, eM_85⟩ := hp_85; replace er_85 := er_85.symm; replace eM_85 := eM_85.symm; subst er_85; subst eM_85
            rw [f6 26 (by decide) (by decide), zp.2] at ir_85 ⊢
            refine g_iadd hX d_Plan_layOut_88 ?_
            refine g_istore_n hX d_Plan_layOut_89 (by decide) ?_
            refine g_iinc hX d_Plan_layOut_90 rfl (by decide) ?_
            refine g_goto 24 hX d_Plan_layOut_93 (by decide) ?_
            first | (exact ih (p + 1) nx bs M1 (by omega) (by omega) (by omega) (by omega) h3 h4 (by omega) h6 h7 h8 h9 h10) | (rw [stS_1 h_68] at zst; exact ih (p + 1) (p + pL n x g w p) (bs ++ [p]) _ (by omega) (by omega) (by omega) (by omega) (by omega) (by rw [← h4]; simp) (by simp; omega) ⟨by rw [mU_slot (by omega), mU_slot (by omega), mU_slot (by omega), mU_self]; simp; omega, fun i b hb => by rw [mU_cell (by omega), mU_cell (by omega), mU_cell (by omega), mU_cell (by omega)]; exact l2' i b hb, by rw [mU_slot (by omega), mU_slot (by omega), mU_self, zst, l3], by rw [mU_slot (by omega), mU_self, zst, l4], by rw [mU_self, zst, l5]⟩ (by rw [mU_slot (by omega), mU_slot (by omega), mU_self]; simp; omega) (by rw [mU_slot (by omega), mU_self]; omega) (by rw [mU_self]; omega) f6) | (rw [stS_0 h_68] at zst; exact ih (p + 1) (p + pL n x g w p) (bs ++ [p]) _ (by omega) (by omega) (by omega) (by omega) (by omega) (by rw [← h4]; simp) (by simp; omega) ⟨by rw [mU_self]; simp; omega, fun i b hb => by rw [mU_cell (by omega)]; exact l2' i b hb, by rw [mU_slot (by omega), mU_cell (by omega), zst]; exact l3, by rw [mU_slot (by omega), mU_cell (by omega), zst]; exact l4, by rw [mU_slot (by omega), mU_cell (by omega), zst]; exact l5⟩ (by rw [mU_slot (by omega), mU_cell (by omega)]; simp; omega) (by rw [mU_slot (by omega), mU_cell (by omega)]; omega) (by rw [mU_slot (by omega), mU_cell (by omega)]; omega) f6)
          · refine g_aload_n hX d_Plan_layOut_71 rfl ?_
            refine g_aload_n hX d_Plan_layOut_72 rfl ?_
            refine g_iload_n hX d_Plan_layOut_73 rfl ?_
            refine g_iload_n hX d_Plan_layOut_74 rfl ?_
            refine g_callV hX yo_Plan_lengthAt q_409 d_Plan_layOut_75 (c_Plan_lengthAt hw (by omega)) rfl rfl ⟨rfl, by decide⟩ rfl (by decide) (Nat.le_of_ble_eq_true rfl) ⟨Nat.zero_le _, Nat.zero_le _⟩ (k_int fun r_75 M_75 ir_75 hp_75 => ?_)
            obtain ⟨er_75, eM_75⟩ := hp_75; replace er_75 := er_75.symm; replace eM_75 := eM_75.symm; subst er_75; subst eM_75
            rw [f5 26 (by decide) (by decide), zp.2] at ir_75 ⊢
            refine g_callV hX yo_Plan_countCopy q_424 d_Plan_layOut_78 (c_Plan_countCopy (by rw [mU_slot (by omega), mU_cell (by omega)]; omega) (by rw [mU_slot (by omega), mU_cell (by omega)]; omega) (by omega)) rfl rfl ⟨rfl, by decide⟩ rfl (by decide) (Nat.le_of_ble_eq_true rfl) ⟨Nat.zero_le _, Nat.zero_le _⟩ (k_void fun M_78 hp_78 => ?_)
            rw [mU_slot (show (8 : Int) ≠ 7 by omega), mU_cell (show (24 : Nat) ≠ 29 by omega), mU_slot (show (9 : Int) ≠ 7 by omega), mU_slot (show (10 : Int) ≠ 7 by omega), mU_cell (show (24 : Nat) ≠ 29 by omega)] at hp_78
            replace hp_78 := hp_78.symm; subst hp_78
            have f6 : ∀ a, a ≠ 24 → a ≠ 29 → mU (mU (mU (mU (mU M1 29 (M1 24 7) p) 24 7 (M1 24 7 + 1)) 24 8 (M1 24 8 + 1)) 24 9 (M1 24 9 + pL n x g w p)) 24 10 (max (M1 24 10) (pL n x g w p)) a = M a := fun a u v => by rw [mU_cell u, mU_cell u, mU_cell u]; exact f5 a u v
            refine g_iload_n hX d_Plan_layOut_81 rfl ?_
            refine g_aload_n hX d_Plan_layOut_82 rfl ?_
            refine g_iload_n hX d_Plan_layOut_83 rfl ?_
            refine g_iload_n hX d_Plan_layOut_84 rfl ?_
            refine g_callV hX yo_Plan_lengthAt q_409 d_Plan_layOut_85 (c_Plan_lengthAt hw (by omega)) rfl rfl ⟨rfl, by decide⟩ rfl (by decide) (Nat.le_of_ble_eq_true rfl) ⟨Nat.zero_le _, Nat.zero_le _⟩ (k_int fun r_85 M_85 ir_85 hp_85 => ?_)
            obtain ⟨er_85, eM_85⟩ := hp_85; replace er_85 := er_85.symm; replace eM_85 := eM_85.symm; subst er_85; subst eM_85
            rw [f6 26 (by decide) (by decide), zp.2] at ir_85 ⊢
            refine g_iadd hX d_Plan_layOut_88 ?_
            refine g_istore_n hX d_Plan_layOut_89 (by decide) ?_
            refine g_iinc hX d_Plan_layOut_90 rfl (by decide) ?_
            refine g_goto 24 hX d_Plan_layOut_93 (by decide) ?_
            first | (exact ih (p + 1) nx bs M1 (by omega) (by omega) (by omega) (by omega) h3 h4 (by omega) h6 h7 h8 h9 h10) | (rw [stS_1 h_68] at zst; exact ih (p + 1) (p + pL n x g w p) (bs ++ [p]) _ (by omega) (by omega) (by omega) (by omega) (by omega) (by rw [← h4]; simp) (by simp; omega) ⟨by rw [mU_slot (by omega), mU_slot (by omega), mU_slot (by omega), mU_self]; simp; omega, fun i b hb => by rw [mU_cell (by omega), mU_cell (by omega), mU_cell (by omega), mU_cell (by omega)]; exact l2' i b hb, by rw [mU_slot (by omega), mU_slot (by omega), mU_self, zst, l3], by rw [mU_slot (by omega), mU_self, zst, l4], by rw [mU_self, zst, l5]⟩ (by rw [mU_slot (by omega), mU_slot (by omega), mU_self]; simp; omega) (by rw [mU_slot (by omega), mU_self]; omega) (by rw [mU_self]; omega) f6) | (rw [stS_0 h_68] at zst; exact ih (p + 1) (p + pL n x g w p) (bs ++ [p]) _ (by omega) (by omega) (by omega) (by omega) (by omega) (by rw [← h4]; simp) (by simp; omega) ⟨by rw [mU_self]; simp; omega, fun i b hb => by rw [mU_cell (by omega)]; exact l2' i b hb, by rw [mU_slot (by omega), mU_cell (by omega), zst]; exact l3, by rw [mU_slot (by omega), mU_cell (by omega), zst]; exact l4, by rw [mU_slot (by omega), mU_cell (by omega), zst]; exact l5⟩ (by rw [mU_slot (by omega), mU_cell (by omega)]; simp; omega) (by rw [mU_slot (by omega), mU_cell (by omega)]; omega) (by rw [mU_slot (by omega), mU_cell (by omega)]; omega) f6)
  refine g_aload_n hX d_Plan_layOut_0 rfl ?_
  refine g_iconst hX d_Plan_layOut_1 ?_
  refine g_putI hX fl_Plan_27 d_Plan_layOut_2 7 ⟨rfl, by decide⟩ rfl rfl (fun q h => by cases h; rfl) rfl (by omega) ?_
  refine g_aload_n hX d_Plan_layOut_5 rfl ?_
  refine g_iconst hX d_Plan_layOut_6 ?_
  refine g_putI hX fl_Plan_31 d_Plan_layOut_7 8 ⟨rfl, by decide⟩ rfl rfl (fun q h => by cases h; rfl) rfl (by omega) ?_
  refine g_aload_n hX d_Plan_layOut_10 rfl ?_
  refine g_iconst hX d_Plan_layOut_11 ?_
  refine g_putI hX fl_Plan_34 d_Plan_layOut_12 9 ⟨rfl, by decide⟩ rfl rfl (fun q h => by cases h; rfl) rfl (by omega) ?_
  refine g_aload_n hX d_Plan_layOut_15 rfl ?_
  refine g_iconst hX d_Plan_layOut_16 ?_
  refine g_putI hX fl_Plan_37 d_Plan_layOut_17 10 ⟨rfl, by decide⟩ rfl rfl (fun q h => by cases h; rfl) rfl (by omega) ?_
  refine g_iconst hX d_Plan_layOut_20 ?_
  refine g_istore_n hX d_Plan_layOut_21 (by decide) ?_
  refine g_iconst hX d_Plan_layOut_22 ?_
  refine g_istore_n hX d_Plan_layOut_23 (by decide) ?_
  exact LOOP _ 0 0 [] _ rfl (by omega) v2 (by omega) v2 rfl (by simp) ⟨by rw [mU_slot (by omega), mU_slot (by omega), mU_slot (by omega), mU_self]; rfl, fun i b hb => by simp at hb, by rw [mU_slot (by omega), mU_slot (by omega), mU_self]; rfl, by rw [mU_slot (by omega), mU_self]; rfl, by rw [mU_self]; rfl⟩ (by rw [mU_slot (by omega), mU_slot (by omega), mU_self]; simp) (by rw [mU_slot (by omega), mU_self]; omega) (by rw [mU_self]; omega) (fun a u v => by rw [mU_cell u, mU_cell u, mU_cell u, mU_cell u])
/-- the index of the part that tells place p, of parts that begin at l -/
def ixF (l : List Int) (p : Int) : Nat → Nat → Nat
  | 0, i => i
  | k + 1, i => if i + 1 < l.length ∧ l.getD (i + 1) 0 ≤ p then ixF l p k (i + 1) else i
def ixP (n : Int) (x g : Int → Int) (w p : Int) : Int := ixF (bgs n x g w) p (bgs n x g w).length 0
theorem ixF_succ (l : List Int) (p : Int) (k i : Nat) : ixF l p (k + 1) i = if i + 1 < l.length ∧ l.getD (i + 1) 0 ≤ p then ixF l p k (i + 1) else i := rfl
theorem ly_mem {L : Int → Int} {n : Int} (hL : ∀ q, 0 ≤ q → q < n → 1 ≤ L q) (k : Nat) : ∀ (p : Int), 0 ≤ p → ∀ b ∈ ly L n k p, p ≤ b ∧ b < n := by
  induction k with
  | zero => intro p _ b hb; cases hb
  | succ k ih =>
    intro p h0 b hb
    rw [ly_succ] at hb
    split at hb
    · rename_i hp
      rcases List.mem_cons.mp hb with rfl | hb
      · omega
      · have zl := hL p h0 hp
        have zi := ih (p + L p) (by omega) b hb
        omega
    · cases hb
theorem ly_len {L : Int → Int} {n : Int} (k : Nat) : ∀ (p : Int), (ly L n k p).length ≤ k := by
  induction k with
  | zero => intro p; exact Nat.le_refl _
  | succ k ih =>
    intro p
    rw [ly_succ]
    split
    · have zi := ih (p + L p); simp; omega
    · simp
theorem bgs_len (n : Int) (x g : Int → Int) (w : Int) (hn : 0 ≤ n) : ((bgs n x g w).length : Int) ≤ n := by
  have zl := ly_len (L := pL n x g w) (n := n) n.toNat 0
  unfold bgs
  omega
theorem bgs_mem {n : Int} {x g : Int → Int} (hg : Og g) {w b : Int} (h : b ∈ bgs n x g w) : 0 ≤ b ∧ b < n := ly_mem (fun q u v => (pL_b hg w q u v).1) n.toNat 0 (Int.le_refl _) b h
theorem c_Plan_indexAt {Γ : gX} {l : Launch} {M : mI} {n w p : Int} {x g : Int → Int} (hn : 0 ≤ n ∧ n ≤ 60) (hg : Og g) (hP : Lp M n x g w) (hp : iR p) : Cn Γ l i_Plan_indexAt R0 51 [.ref (gb Γ + 24), vI p] M (pI (fun r M' => r = ixP n x g w p ∧ M' = M)) := by
  refine cn_intro (L := [some (.ref (gb Γ + 24)), some (vI p), none]) yo_Plan_indexAt.1 rfl (Nat.le_of_ble_eq_true rfl) rfl (fun X hX hR => ?_)
  obtain ⟨l1, l2, -, -, -⟩ := hP
  have zl := bgs_len n x g w hn.1
  have LOOP : ∀ (k : Nat) (i : Nat), (bgs n x g w).length ≤ i + k + 1 → i < (bgs n x g w).length ∨ i = 0 → ((ixF (bgs n x g w) p k i : Nat) : Int) = ixP n x g w p → G Γ X 3 (R0, 51, 0, 0) 2 [some (.ref (gb Γ + 24)), some (vI p), some (vI i)] [] M := by
    intro k
    induction k with
    | zero =>
      intro i hk hi hf
      refine g_iload_n hX d_Plan_indexAt_2 rfl ?_
      refine g_iconst hX d_Plan_indexAt_3 ?_
      refine g_iadd hX d_Plan_indexAt_4 ?_
      refine g_aload_n hX d_Plan_indexAt_5 rfl ?_
      refine g_getI hX fl_Plan_27 d_Plan_indexAt_6 7 ⟨rfl, by decide⟩ rfl rfl (fun r_6 => ?_)
      refine g_icmp_ge 29 hX d_Plan_indexAt_9 (by decide) (by omega) (by omega) (fun h_9 => ?_) (fun h_9 => ?_)
      · refine g_iload_n hX d_Plan_indexAt_29 rfl ?_
        refine g_iret hX hR d_Plan_indexAt_30 (by omega) ?_
        exact ⟨hf, rfl⟩
      · exact absurd h_9 (by omega)
    | succ k ih =>
      intro i hk hi hf
      rw [ixF_succ] at hf
      refine g_iload_n hX d_Plan_indexAt_2 rfl ?_
      refine g_iconst hX d_Plan_indexAt_3 ?_
      refine g_iadd hX d_Plan_indexAt_4 ?_
      refine g_aload_n hX d_Plan_indexAt_5 rfl ?_
      refine g_getI hX fl_Plan_27 d_Plan_indexAt_6 7 ⟨rfl, by decide⟩ rfl rfl (fun r_6 => ?_)
      refine g_icmp_ge 29 hX d_Plan_indexAt_9 (by decide) (by omega) (by omega) (fun h_9 => ?_) (fun h_9 => ?_)
      · refine g_iload_n hX d_Plan_indexAt_29 rfl ?_
        refine g_iret hX hR d_Plan_indexAt_30 (by omega) ?_
        refine ⟨?_, rfl⟩
        rw [if_neg (by omega)] at hf
        exact hf
      · have hl : (bgs n x g w)[i + 1]? = some ((bgs n x g w).getD (i + 1) 0) := by (rw [List.getD_eq_getElem?_getD, List.getElem?_eq_getElem (by omega)]; rfl)
        have zm := l2 (i + 1) _ hl
        refine g_aload_n hX d_Plan_indexAt_12 rfl ?_
        refine g_iload_n hX d_Plan_indexAt_13 rfl ?_
        refine g_iconst hX d_Plan_indexAt_14 ?_
        refine g_iadd hX d_Plan_indexAt_15 ?_
        refine g_callV hX yo_Plan_beginOf q_466 d_Plan_indexAt_16 (c_Plan_beginOf (by omega)) rfl rfl ⟨rfl, by decide⟩ rfl (by decide) (Nat.le_of_ble_eq_true rfl) ⟨Nat.zero_le _, Nat.zero_le _⟩ (k_int fun r_16 M_16 ir_16 hp_16 => ?_)
        obtain ⟨er_16, eM_16⟩ := hp_16; replace er_16 := er_16.symm; replace eM_16 := eM_16.symm; subst er_16; subst eM_16
        rw [show ((i : Int) + 1) = ((i + 1 : Nat) : Int) by omega, zm] at ir_16 ⊢
        refine g_iload_n hX d_Plan_indexAt_19 rfl ?_
        refine g_icmp_gt 29 hX d_Plan_indexAt_20 (by decide) (by omega) (by omega) (fun h_20 => ?_) (fun h_20 => ?_)
        · refine g_iload_n hX d_Plan_indexAt_29 rfl ?_
          refine g_iret hX hR d_Plan_indexAt_30 (by omega) ?_
          refine ⟨?_, rfl⟩
          rw [if_neg (by omega)] at hf
          exact hf
        · refine g_iinc hX d_Plan_indexAt_23 rfl (by decide) ?_
          refine g_goto 2 hX d_Plan_indexAt_26 (by decide) ?_
          exact ih (i + 1) (by omega) (Or.inl (by omega)) (by rw [if_pos ⟨by omega, by omega⟩] at hf; exact hf)
  refine g_iconst hX d_Plan_indexAt_0 ?_
  refine g_istore_n hX d_Plan_indexAt_1 (by decide) ?_
  exact LOOP (bgs n x g w).length 0 (by omega) (Or.inr rfl) rfl
/-- the first place at which two rows of parts tell parts that are not the same; -1 if there is none -/
def fuF (n : Int) (D1 L1 D2 L2 : Int → Int) : Nat → Int → Int
  | 0, _ => -1
  | k + 1, p => if p < n then (if D1 p ≠ D2 p ∨ L1 p ≠ L2 p then p else fuF n D1 L1 D2 L2 k (p + L1 p)) else -1
def fuP (n : Int) (x g : Int → Int) (v w : Int) : Int := fuF n (pD n x g v) (pL n x g v) (pD n x g w) (pL n x g w) n.toNat 0
theorem fuF_succ (n : Int) (D1 L1 D2 L2 : Int → Int) (k : Nat) (p : Int) : fuF n D1 L1 D2 L2 (k + 1) p = if p < n then (if D1 p ≠ D2 p ∨ L1 p ≠ L2 p then p else fuF n D1 L1 D2 L2 k (p + L1 p)) else -1 := rfl
theorem fuF_end (n : Int) (D1 L1 D2 L2 : Int → Int) (k : Nat) (p : Int) (h : n ≤ p) : fuF n D1 L1 D2 L2 k p = -1 := by
  cases k with
  | zero => rfl
  | succ k => rw [fuF_succ, if_neg (by omega)]
theorem fuF_more {n : Int} {D1 L1 D2 L2 : Int → Int} (hL : ∀ q, 0 ≤ q → q < n → 1 ≤ L1 q) (k : Nat) : ∀ (m : Nat) (p : Int), 0 ≤ p → n - p ≤ k → fuF n D1 L1 D2 L2 (k + m) p = fuF n D1 L1 D2 L2 k p := by
  induction k with
  | zero => intro m p h0 h; rw [fuF_end _ _ _ _ _ _ p (by omega), fuF_end _ _ _ _ _ _ p (by omega)]
  | succ k ih =>
    intro m p h0 h
    rw [show k + 1 + m = (k + m) + 1 by omega, fuF_succ, fuF_succ]
    by_cases hp : p < n
    · have zl := hL p h0 hp
      rw [if_pos hp, if_pos hp, ih m (p + L1 p) (by omega) (by omega)]
    · rw [if_neg hp, if_neg hp]
theorem fuF_step {n : Int} {D1 L1 D2 L2 : Int → Int} (hL : ∀ q, 0 ≤ q → q < n → 1 ≤ L1 q) {p : Int} (h0 : 0 ≤ p) (hp : p < n) : fuF n D1 L1 D2 L2 n.toNat p = if D1 p ≠ D2 p ∨ L1 p ≠ L2 p then p else fuF n D1 L1 D2 L2 n.toNat (p + L1 p) := by
  obtain ⟨k, hk⟩ : ∃ k : Nat, n.toNat = k + 1 := ⟨n.toNat - 1, by omega⟩
  have zl := hL p h0 hp
  rw [hk, fuF_succ, if_pos hp]
  congr 1
  exact (fuF_more hL k 1 (p + L1 p) (by omega) (by omega)).symm
theorem c_Plan_firstUnlike {Γ : gX} {l : Launch} {M : mI} {n v w : Int} {x g : Int → Int} (hv : Sv M 1 n x g) (hg : Og g) (hw : 0 ≤ v ∧ v ≤ 2) (hw2 : 0 ≤ w ∧ w ≤ 2) (hP : Pp M n x g 0) : Cn Γ l i_Plan_firstUnlike R0 51 [.ref (gb Γ + 24), vI v, vI w] M (pI (fun r M' => r = fuP n x g v w ∧ M' = M)) := by
  refine cn_intro (L := [some (.ref (gb Γ + 24)), some (vI v), some (vI w), none, none]) yo_Plan_firstUnlike.1 rfl (Nat.le_of_ble_eq_true rfl) rfl (fun X hX hR => ?_)
  obtain ⟨v1, v2, v3, v4, v5⟩ := id hv
  have hL1 : ∀ q, 0 ≤ q → q < n → 1 ≤ pL n x g v q := fun q a b => (pL_b hg v q a b).1
  have LOOP : ∀ (q : Nat) (p nx : Int), (n - p).toNat = q → 0 ≤ p → p ≤ n → p ≤ nx → nx ≤ n → fuF n (pD n x g v) (pL n x g v) (pD n x g w) (pL n x g w) n.toNat nx = fuP n x g v w → G Γ X 5 (R0, 51, 0, 0) 5 [some (.ref (gb Γ + 24)), some (vI v), some (vI w), some (vI nx), some (vI p)] [] M := by
    intro q
    induction q with
    | zero =>
      intro p nx hq h0 h1 h2 h3 h4
      refine g_iload hX d_Plan_firstUnlike_5 rfl ?_
      refine g_aload_n hX d_Plan_firstUnlike_7 rfl ?_
      refine g_getR hX fl_Plan_40 d_Plan_firstUnlike_8 ⟨rfl, by decide⟩ rfl rfl ?_
      refine g_callV hX yo_State_size q_380 d_Plan_firstUnlike_11 (c_State_size st_1) rfl rfl ⟨rfl, by decide⟩ rfl (by decide) (Nat.le_of_ble_eq_true rfl) ⟨Nat.zero_le _, Nat.zero_le _⟩ (k_int fun r_11 M_11 ir_11 hp_11 => ?_)
      obtain ⟨er_11, eM_11⟩ := hp_11; replace er_11 := er_11.symm; replace eM_11 := eM_11.symm; subst er_11; subst eM_11
      refine g_icmp_ge 77 hX d_Plan_firstUnlike_14 (by decide) (by omega) (by omega) (fun h_14 => ?_) (fun h_14 => ?_)
      · refine g_iconst hX d_Plan_firstUnlike_77 ?_
        refine g_iret hX hR d_Plan_firstUnlike_78 (by omega) ?_
        rw [fuF_end _ _ _ _ _ _ _ (by omega)] at h4
        exact ⟨h4, rfl⟩
      · exact absurd h_14 (by omega)
    | succ q ih =>
      intro p nx hq h0 h1 h2 h3 h4
      have zl := pL_b (n := n) (x := x) hg v p h0 (by omega)
      obtain ⟨zP, -, -⟩ := hP
      have zp := zP v p hw.1 hw.2 h0 (by omega)
      have zw := zP w p hw2.1 hw2.2 h0 (by omega)
      refine g_iload hX d_Plan_firstUnlike_5 rfl ?_
      refine g_aload_n hX d_Plan_firstUnlike_7 rfl ?_
      refine g_getR hX fl_Plan_40 d_Plan_firstUnlike_8 ⟨rfl, by decide⟩ rfl rfl ?_
      refine g_callV hX yo_State_size q_380 d_Plan_firstUnlike_11 (c_State_size st_1) rfl rfl ⟨rfl, by decide⟩ rfl (by decide) (Nat.le_of_ble_eq_true rfl) ⟨Nat.zero_le _, Nat.zero_le _⟩ (k_int fun r_11 M_11 ir_11 hp_11 => ?_)
      obtain ⟨er_11, eM_11⟩ := hp_11; replace er_11 := er_11.symm; replace eM_11 := eM_11.symm; subst er_11; subst eM_11
      refine g_icmp_ge 77 hX d_Plan_firstUnlike_14 (by decide) (by omega) (by omega) (fun h_14 => ?_) (fun h_14 => ?_)
      · exact absurd h_14 (by omega)
      · refine g_iload hX d_Plan_firstUnlike_17 rfl ?_
        refine g_iload_n hX d_Plan_firstUnlike_19 rfl ?_
        refine g_icmp_ne 71 hX d_Plan_firstUnlike_20 (by decide) (by omega) (by omega) (fun h_20 => ?_) (fun h_20 => ?_)
        · refine g_iinc hX d_Plan_firstUnlike_71 rfl (by decide) ?_
          refine g_goto 5 hX d_Plan_firstUnlike_74 (by decide) ?_
          first | exact ih (p + 1) nx (by omega) (by omega) (by omega) (by omega) h3 h4 | exact ih (p + 1) (p + pL n x g v p) (by omega) (by omega) (by omega) (by omega) (by omega) (by rw [if_neg (by omega)] at h4; exact h4)
        · have zz := h_20
          subst zz
          rw [fuF_step hL1 h0 (by omega)] at h4
          refine g_aload_n hX d_Plan_firstUnlike_23 rfl ?_
          refine g_iload_n hX d_Plan_firstUnlike_24 rfl ?_
          refine g_iload hX d_Plan_firstUnlike_25 rfl ?_
          refine g_callV hX yo_Plan_distanceAt q_405 d_Plan_firstUnlike_27 (c_Plan_distanceAt hw (by omega)) rfl rfl ⟨rfl, by decide⟩ rfl (by decide) (Nat.le_of_ble_eq_true rfl) ⟨Nat.zero_le _, Nat.zero_le _⟩ (k_int fun r_27 M_27 ir_27 hp_27 => ?_)
          obtain ⟨er_27, eM_27⟩ := hp_27; replace er_27 := er_27.symm; replace eM_27 := eM_27.symm; subst er_27; subst eM_27
          rw [zp.1] at ir_27 ⊢
          refine g_aload_n hX d_Plan_firstUnlike_30 rfl ?_
          refine g_iload_n hX d_Plan_firstUnlike_31 rfl ?_
          refine g_iload hX d_Plan_firstUnlike_32 rfl ?_
          refine g_callV hX yo_Plan_distanceAt q_405 d_Plan_firstUnlike_34 (c_Plan_distanceAt hw2 (by omega)) rfl rfl ⟨rfl, by decide⟩ rfl (by decide) (Nat.le_of_ble_eq_true rfl) ⟨Nat.zero_le _, Nat.zero_le _⟩ (k_int fun r_34 M_34 ir_34 hp_34 => ?_)
          obtain ⟨er_34, eM_34⟩ := hp_34; replace er_34 := er_34.symm; replace eM_34 := eM_34.symm; subst er_34; subst eM_34
          rw [zw.1] at ir_34 ⊢
          refine g_icmp_ne 57 hX d_Plan_firstUnlike_37 (by decide) (by omega) (by omega) (fun h_37 => ?_) (fun h_37 => ?_)
          · refine g_iload hX d_Plan_firstUnlike_57 rfl ?_
            refine g_iret hX hR d_Plan_firstUnlike_59 (by omega) ?_
            refine ⟨?_, rfl⟩
            rw [if_pos (by omega)] at h4
            exact h4
          · refine g_aload_n hX d_Plan_firstUnlike_40 rfl ?_
            refine g_iload_n hX d_Plan_firstUnlike_41 rfl ?_
            refine g_iload hX d_Plan_firstUnlike_42 rfl ?_
            refine g_callV hX yo_Plan_lengthAt q_409 d_Plan_firstUnlike_44 (c_Plan_lengthAt hw (by omega)) rfl rfl ⟨rfl, by decide⟩ rfl (by decide) (Nat.le_of_ble_eq_true rfl) ⟨Nat.zero_le _, Nat.zero_le _⟩ (k_int fun r_44 M_44 ir_44 hp_44 => ?_)
            obtain ⟨er_44, eM_44⟩ := hp_44; replace er_44 := er_44.symm; replace eM_44 := eM_44.symm; subst er_44; subst eM_44
            rw [zp.2] at ir_44 ⊢
            refine g_aload_n hX d_Plan_firstUnlike_47 rfl ?_
            refine g_iload_n hX d_Plan_firstUnlike_48 rfl ?_
            refine g_iload hX d_Plan_firstUnlike_49 rfl ?_
            refine g_callV hX yo_Plan_lengthAt q_409 d_Plan_firstUnlike_51 (c_Plan_lengthAt hw2 (by omega)) rfl rfl ⟨rfl, by decide⟩ rfl (by decide) (Nat.le_of_ble_eq_true rfl) ⟨Nat.zero_le _, Nat.zero_le _⟩ (k_int fun r_51 M_51 ir_51 hp_51 => ?_)
            obtain ⟨er_51, eM_51⟩ := hp_51; replace er_51 := er_51.symm; replace eM_51 := eM_51.symm; subst er_51; subst eM_51
            rw [zw.2] at ir_51 ⊢
            refine g_icmp_eq 60 hX d_Plan_firstUnlike_54 (by decide) (by omega) (by omega) (fun h_54 => ?_) (fun h_54 => ?_)
            · refine g_iload hX d_Plan_firstUnlike_60 rfl ?_
              refine g_aload_n hX d_Plan_firstUnlike_62 rfl ?_
              refine g_iload_n hX d_Plan_firstUnlike_63 rfl ?_
              refine g_iload hX d_Plan_firstUnlike_64 rfl ?_
              refine g_callV hX yo_Plan_lengthAt q_409 d_Plan_firstUnlike_66 (c_Plan_lengthAt hw (by omega)) rfl rfl ⟨rfl, by decide⟩ rfl (by decide) (Nat.le_of_ble_eq_true rfl) ⟨Nat.zero_le _, Nat.zero_le _⟩ (k_int fun r_66 M_66 ir_66 hp_66 => ?_)
              obtain ⟨er_66, eM_66⟩ := hp_66; replace er_66 := er_66.symm; replace eM_66 := eM_66.symm; subst er_66; subst eM_66
              rw [zp.2] at ir_66 ⊢
              refine g_iadd hX d_Plan_firstUnlike_69 ?_
              refine g_istore_n hX d_Plan_firstUnlike_70 (by decide) ?_
              refine g_iinc hX d_Plan_firstUnlike_71 rfl (by decide) ?_
              refine g_goto 5 hX d_Plan_firstUnlike_74 (by decide) ?_
              first | exact ih (p + 1) nx (by omega) (by omega) (by omega) (by omega) h3 h4 | exact ih (p + 1) (p + pL n x g v p) (by omega) (by omega) (by omega) (by omega) (by omega) (by rw [if_neg (by omega)] at h4; exact h4)
            · refine g_iload hX d_Plan_firstUnlike_57 rfl ?_
              refine g_iret hX hR d_Plan_firstUnlike_59 (by omega) ?_
              refine ⟨?_, rfl⟩
              rw [if_pos (by omega)] at h4
              exact h4
  refine g_iconst hX d_Plan_firstUnlike_0 ?_
  refine g_istore_n hX d_Plan_firstUnlike_1 (by decide) ?_
  refine g_iconst hX d_Plan_firstUnlike_2 ?_
  refine g_istore hX d_Plan_firstUnlike_3 (by decide) ?_
  exact LOOP _ 0 0 rfl (by omega) v2 (by omega) v2 rfl
