theorem c_WC_partAt {Γ : gX} {l : Launch} {M : mI} {σ : sG} {w p : Int} (h : CR M σ) (ok : OkV σ) (hw : iR w) (hp : iR p) : Cn Γ l i_WC_partAt R0 51 [.ref (gb Γ + 0), vI w, vI p] M (pI (fun r M' => r = q_partAt σ w p ∧ CR M' σ ∧ ∀ a, 37 ≤ a → M' a = M a)) := by
  refine cn_intro (L := [some (.ref (gb Γ + 0)), some (vI w), some (vI p)]) yo_WC_partAt.1 rfl (Nat.le_of_ble_eq_true rfl) rfl (fun X hX hR => ?_)
  have hv := h.1
  obtain ⟨v1, v2, v3, v4, v5⟩ := id hv
  refine g_iload_n hX d_WC_partAt_0 rfl ?_
  refine g_callS hX yo_WC_isWay q_373 d_WC_partAt_1 (c_WC_isWay hw) rfl rfl (by decide) (Nat.le_of_ble_eq_true rfl) ⟨Nat.zero_le _, Nat.zero_le _⟩ (k_int fun r_1 M_1 ir_1 hp_1 => ?_)
  obtain ⟨er_1, eM_1⟩ := hp_1; replace er_1 := er_1.symm; replace eM_1 := eM_1.symm; subst er_1; subst eM_1
  refine g_if_eq 18 hX d_WC_partAt_4 (by decide) (by first | omega | exact ite_iR) (fun h_4 => ?_) (fun h_4 => ?_)
  · have z1 := ite_eq h_4
    refine g_sipush hX d_WC_partAt_18 rfl ?_
    refine g_iret hX hR d_WC_partAt_21 (by omega) ?_
    unfold q_partAt; rw [if_pos (by omega)]; exact ⟨rfl, h, fun _ _ => rfl⟩
  · have z1 := ite_ne h_4
    refine g_aload_n hX d_WC_partAt_7 rfl ?_
    refine g_getR hX fl_WC_10 d_WC_partAt_8 ⟨rfl, by decide⟩ rfl rfl ?_
    refine g_iload_n hX d_WC_partAt_11 rfl ?_
    refine g_callV hX yo_State_hasPlace q_282 d_WC_partAt_12 (c_State_hasPlace st_1 hp) rfl rfl ⟨rfl, by decide⟩ rfl (by decide) (Nat.le_of_ble_eq_true rfl) ⟨Nat.zero_le _, Nat.zero_le _⟩ (k_int fun r_12 M_12 ir_12 hp_12 => ?_)
    obtain ⟨er_12, eM_12⟩ := hp_12; replace er_12 := er_12.symm; replace eM_12 := eM_12.symm; subst er_12; subst eM_12
    refine g_if_ne 22 hX d_WC_partAt_15 (by decide) (by first | omega | exact ite_iR) (fun h_15 => ?_) (fun h_15 => ?_)
    · have z2 := ite_ne h_15
      rw [v1] at z2
      refine g_aload_n hX d_WC_partAt_22 rfl ?_
      refine g_getR hX fl_WC_44 d_WC_partAt_23 ⟨rfl, by decide⟩ rfl rfl ?_
      refine g_callV hX yo_Plan_make q_376 d_WC_partAt_26 (c_Plan_make hv ok.1.2.1) rfl rfl ⟨rfl, by decide⟩ rfl (by decide) (Nat.le_of_ble_eq_true rfl) ⟨Nat.zero_le _, Nat.zero_le _⟩ (k_void fun M_26 hp_26 => ?_)
      obtain ⟨p1, p2⟩ := hp_26
      have hv2 : Sv M_26 1 σ.1.1 σ.1.2.1 σ.1.2.2 := hv.to (p2 1 (by decide) (by decide) (by decide) (by decide) (by decide) (by decide) (by decide)) (p2 2 (by decide) (by decide) (by decide) (by decide) (by decide) (by decide) (by decide)) (p2 3 (by decide) (by decide) (by decide) (by decide) (by decide) (by decide) (by decide))
      refine g_aload_n hX d_WC_partAt_29 rfl ?_
      refine g_getR hX fl_WC_44 d_WC_partAt_30 ⟨rfl, by decide⟩ rfl rfl ?_
      refine g_iload_n hX d_WC_partAt_33 rfl ?_
      refine g_callV hX yo_Plan_layOut q_420 d_WC_partAt_34 (c_Plan_layOut hv2 ok.1.2.1 z1 p1) rfl rfl ⟨rfl, by decide⟩ rfl (by decide) (Nat.le_of_ble_eq_true rfl) ⟨Nat.zero_le _, Nat.zero_le _⟩ (k_void fun M_34 hp_34 => ?_)
      obtain ⟨q1, q2⟩ := hp_34
      obtain ⟨e1, e2⟩ := CR_scr2 h p2 q2
      refine g_aload_n hX d_WC_partAt_37 rfl ?_
      refine g_getR hX fl_WC_44 d_WC_partAt_38 ⟨rfl, by decide⟩ rfl rfl ?_
      refine g_iload_n hX d_WC_partAt_41 rfl ?_
      refine g_callV hX yo_Plan_indexAt q_462 d_WC_partAt_42 (c_Plan_indexAt ⟨v2, v3⟩ ok.1.2.1 q1 hp) rfl rfl ⟨rfl, by decide⟩ rfl (by decide) (Nat.le_of_ble_eq_true rfl) ⟨Nat.zero_le _, Nat.zero_le _⟩ (k_int fun r_42 M_42 ir_42 hp_42 => ?_)
      obtain ⟨er_42, eM_42⟩ := hp_42; replace er_42 := er_42.symm; replace eM_42 := eM_42.symm; subst er_42; subst eM_42
      refine g_iret hX hR d_WC_partAt_45 (by omega) ?_
      unfold q_partAt; rw [if_neg (by omega)]; exact ⟨rfl, e1, e2⟩
    · have z2 := ite_eq h_15
      rw [v1] at z2
      refine g_sipush hX d_WC_partAt_18 rfl ?_
      refine g_iret hX hR d_WC_partAt_21 (by omega) ?_
      unfold q_partAt; rw [if_pos (by omega)]; exact ⟨rfl, h, fun _ _ => rfl⟩
theorem c_WC_parting {Γ : gX} {l : Launch} {M : mI} {σ : sG} {v w : Int} (h : CR M σ) (ok : OkV σ) (hw : iR v) (hp : iR w) : Cn Γ l i_WC_parting R0 51 [.ref (gb Γ + 0), vI v, vI w] M (pI (fun r M' => r = q_parting σ v w ∧ CR M' σ ∧ ∀ a, 37 ≤ a → M' a = M a)) := by
  refine cn_intro (L := [some (.ref (gb Γ + 0)), some (vI v), some (vI w), none]) yo_WC_parting.1 rfl (Nat.le_of_ble_eq_true rfl) rfl (fun X hX hR => ?_)
  have hv := h.1
  obtain ⟨v1, v2, v3, v4, v5⟩ := id hv
  refine g_iload_n hX d_WC_parting_0 rfl ?_
  refine g_callS hX yo_WC_isWay q_373 d_WC_parting_1 (c_WC_isWay hw) rfl rfl (by decide) (Nat.le_of_ble_eq_true rfl) ⟨Nat.zero_le _, Nat.zero_le _⟩ (k_int fun r_1 M_1 ir_1 hp_1 => ?_)
  obtain ⟨er_1, eM_1⟩ := hp_1; replace er_1 := er_1.symm; replace eM_1 := eM_1.symm; subst er_1; subst eM_1
  refine g_if_eq 14 hX d_WC_parting_4 (by decide) (by first | omega | exact ite_iR) (fun h_4 => ?_) (fun h_4 => ?_)
  · have z1 := ite_eq h_4
    refine g_sipush hX d_WC_parting_14 rfl ?_
    refine g_iret hX hR d_WC_parting_17 (by omega) ?_
    unfold q_parting; rw [if_pos (by omega)]; exact ⟨rfl, h, fun _ _ => rfl⟩
  · have z1 := ite_ne h_4
    refine g_iload_n hX d_WC_parting_7 rfl ?_
    refine g_callS hX yo_WC_isWay q_373 d_WC_parting_8 (c_WC_isWay hp) rfl rfl (by decide) (Nat.le_of_ble_eq_true rfl) ⟨Nat.zero_le _, Nat.zero_le _⟩ (k_int fun r_8 M_8 ir_8 hp_8 => ?_)
    obtain ⟨er_8, eM_8⟩ := hp_8; replace er_8 := er_8.symm; replace eM_8 := eM_8.symm; subst er_8; subst eM_8
    refine g_if_ne 18 hX d_WC_parting_11 (by decide) (by first | omega | exact ite_iR) (fun h_11 => ?_) (fun h_11 => ?_)
    · have z2 := ite_ne h_11
      refine g_aload_n hX d_WC_parting_18 rfl ?_
      refine g_getR hX fl_WC_44 d_WC_parting_19 ⟨rfl, by decide⟩ rfl rfl ?_
      refine g_callV hX yo_Plan_make q_376 d_WC_parting_22 (c_Plan_make hv ok.1.2.1) rfl rfl ⟨rfl, by decide⟩ rfl (by decide) (Nat.le_of_ble_eq_true rfl) ⟨Nat.zero_le _, Nat.zero_le _⟩ (k_void fun M_22 hp_22 => ?_)
      obtain ⟨p1, p2⟩ := hp_22
      have hv2 : Sv M_22 1 σ.1.1 σ.1.2.1 σ.1.2.2 := hv.to (p2 1 (by decide) (by decide) (by decide) (by decide) (by decide) (by decide) (by decide)) (p2 2 (by decide) (by decide) (by decide) (by decide) (by decide) (by decide) (by decide)) (p2 3 (by decide) (by decide) (by decide) (by decide) (by decide) (by decide) (by decide))
      obtain ⟨e1, e2⟩ := CR_scr2 h p2 (fun _ _ _ => rfl)
      refine g_aload_n hX d_WC_parting_25 rfl ?_
      refine g_getR hX fl_WC_44 d_WC_parting_26 ⟨rfl, by decide⟩ rfl rfl ?_
      refine g_iload_n hX d_WC_parting_29 rfl ?_
      refine g_iload_n hX d_WC_parting_30 rfl ?_
      refine g_callV hX yo_Plan_firstUnlike q_471 d_WC_parting_31 (c_Plan_firstUnlike hv2 ok.1.2.1 z1 z2 p1) rfl rfl ⟨rfl, by decide⟩ rfl (by decide) (Nat.le_of_ble_eq_true rfl) ⟨Nat.zero_le _, Nat.zero_le _⟩ (k_int fun r_31 M_31 ir_31 hp_31 => ?_)
      obtain ⟨er_31, eM_31⟩ := hp_31; replace er_31 := er_31.symm; replace eM_31 := eM_31.symm; subst er_31; subst eM_31
      refine g_istore_n hX d_WC_parting_34 (by decide) ?_
      refine g_iload_n hX d_WC_parting_35 rfl ?_
      refine g_iconst hX d_WC_parting_36 ?_
      refine g_icmp_ne 46 hX d_WC_parting_37 (by decide) (by omega) (by omega) (fun h_37 => ?_) (fun h_37 => ?_)
      · refine g_iload_n hX d_WC_parting_46 rfl ?_
        refine g_iret hX hR d_WC_parting_47 (by omega) ?_
        unfold q_parting; rw [if_neg (by omega)]; first | (rw [if_pos h_37]; exact ⟨rfl, e1, e2⟩) | (rw [if_neg h_37]; exact ⟨rfl, e1, e2⟩)
      · refine g_sipush hX d_WC_parting_40 rfl ?_
        refine g_goto 47 hX d_WC_parting_43 (by decide) ?_
        refine g_iret hX hR d_WC_parting_47 (by omega) ?_
        unfold q_parting; rw [if_neg (by omega)]; first | (rw [if_pos h_37]; exact ⟨rfl, e1, e2⟩) | (rw [if_neg h_37]; exact ⟨rfl, e1, e2⟩)
    · have z2 := ite_eq h_11
      refine g_sipush hX d_WC_parting_14 rfl ?_
      refine g_iret hX hR d_WC_parting_17 (by omega) ?_
      unfold q_parting; rw [if_pos (by omega)]; exact ⟨rfl, h, fun _ _ => rfl⟩
theorem c_WC_repeat {Γ : gX} {l : Launch} {M : mI} {σ : sG} {k : Int} (h : CR M σ) (hk : iR k) : Cn Γ l i_WC_repeat R0 51 [.ref (gb Γ + 0), vI k] M (pI (fun r M' => r = q_repeat σ k ∧ CR M' σ ∧ ∀ a, 37 ≤ a → M' a = M a)) := by
  refine cn_intro (L := [some (.ref (gb Γ + 0)), some (vI k)]) yo_WC_repeat.1 rfl (Nat.le_of_ble_eq_true rfl) rfl (fun X hX hR => ?_)
  have hv := h.1
  obtain ⟨v1, v2, v3, v4, v5⟩ := id hv
  refine g_iload_n hX d_WC_repeat_0 rfl ?_
  refine g_iconst hX d_WC_repeat_1 ?_
  refine g_iconst hX d_WC_repeat_2 ?_
  refine g_callS hX yo_WC_isIn q_219 d_WC_repeat_3 (c_WC_isIn hk (by omega) (by omega)) rfl rfl (by decide) (Nat.le_of_ble_eq_true rfl) ⟨Nat.zero_le _, Nat.zero_le _⟩ (k_int fun r_3 M_3 ir_3 hp_3 => ?_)
  obtain ⟨er_3, eM_3⟩ := hp_3; replace er_3 := er_3.symm; replace eM_3 := eM_3.symm; subst er_3; subst eM_3
  refine g_if_ne 13 hX d_WC_repeat_6 (by decide) (by first | omega | exact ite_iR) (fun h_6 => ?_) (fun h_6 => ?_)
  · have z1 := ite_ne h_6
    refine g_aload_n hX d_WC_repeat_13 rfl ?_
    refine g_getR hX fl_WC_51 d_WC_repeat_14 ⟨rfl, by decide⟩ rfl rfl ?_
    refine g_aload_n hX d_WC_repeat_17 rfl ?_
    refine g_getR hX fl_WC_10 d_WC_repeat_18 ⟨rfl, by decide⟩ rfl rfl ?_
    refine g_callV hX yo_Stretch_findLongest q_479 d_WC_repeat_21 (c_Stretch_findLongest hv) rfl rfl ⟨rfl, by decide⟩ rfl (by decide) (Nat.le_of_ble_eq_true rfl) ⟨Nat.zero_le _, Nat.zero_le _⟩ (k_void fun M_21 hp_21 => ?_)
    obtain ⟨⟨p1, p0⟩, p2⟩ := hp_21
    have e1 : CR M_21 σ := h.to (fun a u => p2 a (by omega))
    have e2 : ∀ a, 37 ≤ a → M_21 a = M a := fun a u => p2 a (by omega)
    have p3 := rpO_ge σ.1.1 σ.1.2.1 σ.1.1.toNat
    refine g_aload_n hX d_WC_repeat_24 rfl ?_
    refine g_getR hX fl_WC_51 d_WC_repeat_25 ⟨rfl, by decide⟩ rfl rfl ?_
    refine g_callV hX yo_Stretch_length q_485 d_WC_repeat_28 c_Stretch_length rfl rfl ⟨rfl, by decide⟩ rfl (by decide) (Nat.le_of_ble_eq_true rfl) ⟨Nat.zero_le _, Nat.zero_le _⟩ (k_int fun r_28 M_28 ir_28 hp_28 => ?_)
    obtain ⟨er_28, eM_28⟩ := hp_28; replace er_28 := er_28.symm; replace eM_28 := eM_28.symm; subst er_28; subst eM_28
    rw [p1] at ir_28 ⊢
    refine g_if_ne 38 hX d_WC_repeat_31 (by decide) (by first | omega | exact ite_iR) (fun h_31 => ?_) (fun h_31 => ?_)
    · have p4 := p0 (show 0 < (rpO σ.1.1 σ.1.2.1 σ.1.1.toNat).1 by have zq : (rpO σ.1.1 σ.1.2.1 σ.1.1.toNat).1 ≠ 0 := h_31; omega)
      refine g_iload_n hX d_WC_repeat_38 rfl ?_
      by_cases z_39_0 : k = 0
      · refine g_lsw 64 hX d_WC_repeat_39 rfl (by omega) (by rw [z_39_0]; try rfl) (by decide) ?_
        refine g_aload_n hX d_WC_repeat_64 rfl ?_
        refine g_getR hX fl_WC_51 d_WC_repeat_65 ⟨rfl, by decide⟩ rfl rfl ?_
        refine g_callV hX yo_Stretch_length q_485 d_WC_repeat_68 c_Stretch_length rfl rfl ⟨rfl, by decide⟩ rfl (by decide) (Nat.le_of_ble_eq_true rfl) ⟨Nat.zero_le _, Nat.zero_le _⟩ (k_int fun r_68 M_68 ir_68 hp_68 => ?_)
        obtain ⟨er_68, eM_68⟩ := hp_68; replace er_68 := er_68.symm; replace eM_68 := eM_68.symm; subst er_68; subst eM_68
        rw [p1] at ir_68 ⊢
        refine g_iret hX hR d_WC_repeat_71 (by omega) ?_
        unfold q_repeat; rw [if_neg (by omega), if_neg h_31, if_pos (by omega)]; exact ⟨rfl, e1, e2⟩
      by_cases z_39_1 : k = 1
      · refine g_lsw 72 hX d_WC_repeat_39 rfl (by omega) (by rw [z_39_1]; try rfl) (by decide) ?_
        refine g_aload_n hX d_WC_repeat_72 rfl ?_
        refine g_getR hX fl_WC_51 d_WC_repeat_73 ⟨rfl, by decide⟩ rfl rfl ?_
        refine g_callV hX yo_Stretch_former q_489 d_WC_repeat_76 c_Stretch_former rfl rfl ⟨rfl, by decide⟩ rfl (by decide) (Nat.le_of_ble_eq_true rfl) ⟨Nat.zero_le _, Nat.zero_le _⟩ (k_int fun r_76 M_76 ir_76 hp_76 => ?_)
        obtain ⟨er_76, eM_76⟩ := hp_76; replace er_76 := er_76.symm; replace eM_76 := eM_76.symm; subst er_76; subst eM_76
        refine g_iret hX hR d_WC_repeat_79 (by omega) ?_
        unfold q_repeat; rw [if_neg (by omega), if_neg h_31, if_neg (by omega), if_pos (by omega)]; exact ⟨p4.1, e1, e2⟩
      refine g_lsw 80 hX d_WC_repeat_39 rfl (by omega) (by simp [Op.lookupswitch.offset_cons, Op.lookupswitch.offset_nil, Ne.symm z_39_0, Ne.symm z_39_1]; rfl) (by decide) ?_
      refine g_aload_n hX d_WC_repeat_80 rfl ?_
      refine g_getR hX fl_WC_51 d_WC_repeat_81 ⟨rfl, by decide⟩ rfl rfl ?_
      refine g_callV hX yo_Stretch_latter q_493 d_WC_repeat_84 c_Stretch_latter rfl rfl ⟨rfl, by decide⟩ rfl (by decide) (Nat.le_of_ble_eq_true rfl) ⟨Nat.zero_le _, Nat.zero_le _⟩ (k_int fun r_84 M_84 ir_84 hp_84 => ?_)
      obtain ⟨er_84, eM_84⟩ := hp_84; replace er_84 := er_84.symm; replace eM_84 := eM_84.symm; subst er_84; subst eM_84
      refine g_iret hX hR d_WC_repeat_87 (by omega) ?_
      unfold q_repeat; rw [if_neg (by omega), if_neg h_31, if_neg (by omega), if_neg (by omega)]; exact ⟨p4.2, e1, e2⟩
    · refine g_sipush hX d_WC_repeat_34 rfl ?_
      refine g_iret hX hR d_WC_repeat_37 (by omega) ?_
      unfold q_repeat; rw [if_neg (by omega), if_pos h_31]; exact ⟨rfl, e1, e2⟩
  · have z1 := ite_eq h_6
    refine g_sipush hX d_WC_repeat_9 rfl ?_
    refine g_iret hX hR d_WC_repeat_12 (by omega) ?_
    unfold q_repeat; rw [if_pos z1]; exact ⟨rfl, h, fun _ _ => rfl⟩
theorem c_WC_settingCount {Γ : gX} {l : Launch} {M : mI} {σ : sG} {k : Int} (h : CR M σ) (hk : iR k) : Cn Γ l i_WC_settingCount R0 51 [.ref (gb Γ + 0), vI k] M (pI (fun r M' => r = (if 10 ≤ k ∧ k ≤ 14 then σ.1.2.2 (k - 10) else -10001) ∧ M' = M)) := by
  refine cn_intro (L := [some (.ref (gb Γ + 0)), some (vI k)]) yo_WC_settingCount.1 rfl (Nat.le_of_ble_eq_true rfl) rfl (fun X hX hR => ?_)
  have hv := h.1
  obtain ⟨v1, v2, v3, v4, v5⟩ := id hv
  refine g_iload_n hX d_WC_settingCount_0 rfl ?_
  refine g_bipush hX d_WC_settingCount_1 rfl ?_
  refine g_bipush hX d_WC_settingCount_3 rfl ?_
  refine g_callS hX yo_WC_isIn q_219 d_WC_settingCount_5 (c_WC_isIn hk (by omega) (by omega)) rfl rfl (by decide) (Nat.le_of_ble_eq_true rfl) ⟨Nat.zero_le _, Nat.zero_le _⟩ (k_int fun r_5 M_5 ir_5 hp_5 => ?_)
  obtain ⟨er_5, eM_5⟩ := hp_5; replace er_5 := er_5.symm; replace eM_5 := eM_5.symm; subst er_5; subst eM_5
  refine g_if_ne 15 hX d_WC_settingCount_8 (by decide) (by first | omega | exact ite_iR) (fun h_8 => ?_) (fun h_8 => ?_)
  · have z1 := ite_ne h_8
    refine g_aload_n hX d_WC_settingCount_15 rfl ?_
    refine g_getR hX fl_WC_10 d_WC_settingCount_16 ⟨rfl, by decide⟩ rfl rfl ?_
    refine g_iload_n hX d_WC_settingCount_19 rfl ?_
    refine g_bipush hX d_WC_settingCount_20 rfl ?_
    refine g_isub hX d_WC_settingCount_22 ?_
    refine g_callV hX yo_State_setting q_297 d_WC_settingCount_23 (c_State_setting st_1 (by omega)) rfl rfl ⟨rfl, by decide⟩ rfl (by decide) (Nat.le_of_ble_eq_true rfl) ⟨Nat.zero_le _, Nat.zero_le _⟩ (k_int fun r_23 M_23 ir_23 hp_23 => ?_)
    obtain ⟨er_23, eM_23⟩ := hp_23; replace er_23 := er_23.symm; replace eM_23 := eM_23.symm; subst er_23; subst eM_23
    refine g_iret hX hR d_WC_settingCount_26 (by omega) ?_
    rw [if_pos z1]; exact ⟨v5 (k - 10) (by omega) (by omega), rfl⟩
  · have z1 := ite_eq h_8
    refine g_sipush hX d_WC_settingCount_11 rfl ?_
    refine g_iret hX hR d_WC_settingCount_14 (by omega) ?_
    rw [if_neg z1]; exact ⟨rfl, rfl⟩
theorem cS_b {σ : sG} (ok : OkV σ) (w : Int) : -7200 ≤ cS σ w ∧ cS σ w ≤ 7200 := by
  have hg3 := ok.1.2.1.2.2.2.1
  have hg4 := ok.1.2.1.2.2.2.2
  have v2 := ok.1.1.1
  have v3 := ok.1.1.2
  have zl := bgs_len σ.1.1 σ.1.2.1 σ.1.2.2 w v2
  have zs := sts_b σ.1.1 σ.1.2.1 σ.1.2.2 w
  have zm1 := mul_bd (a := ((bgs σ.1.1 σ.1.2.1 σ.1.2.2 w).length : Int) - (sts σ.1.1 σ.1.2.1 σ.1.2.2 w).1) (b := σ.1.2.2 3) (c := 60) (d := 60) (by omega) (by omega) (by omega) (by omega)
  have zm2 := mul_bd (a := (sts σ.1.1 σ.1.2.1 σ.1.2.2 w).1) (b := σ.1.2.2 4) (c := 60) (d := 60) (by omega) (by omega) (by omega) (by omega)
  unfold cS cst
  omega
theorem c_WC_cheapestWay {Γ : gX} {l : Launch} {M : mI} {σ : sG} (h : CR M σ) (ok : OkV σ) : Cn Γ l i_WC_cheapestWay R0 51 [.ref (gb Γ + 0)] M (pI (fun r M' => r = chW σ ∧ CR M' σ ∧ ∀ a, 37 ≤ a → M' a = M a)) := by
  refine cn_intro (L := [some (.ref (gb Γ + 0)), none, none, none]) yo_WC_cheapestWay.1 rfl (Nat.le_of_ble_eq_true rfl) rfl (fun X hX hR => ?_)
  have hv := h.1
  obtain ⟨v1, v2, v3, v4, v5⟩ := id hv
  have b0 := cS_b ok 0
  have b1 := cS_b ok 1
  have b2 := cS_b ok 2
  have COST : ∀ (M1 : mI) (w : Int), Lp M1 σ.1.1 σ.1.2.1 σ.1.2.2 w → (M1 24 7 - M1 24 8) * σ.1.2.2 3 + M1 24 8 * σ.1.2.2 4 = cS σ w ∧ (0 ≤ M1 24 8 ∧ M1 24 8 ≤ M1 24 7 ∧ M1 24 7 ≤ 60) := by
    intro M1 w hl
    obtain ⟨l1, l2, l3, l4, l5⟩ := hl
    have zl := bgs_len σ.1.1 σ.1.2.1 σ.1.2.2 w v2
    have zs := sts_b σ.1.1 σ.1.2.1 σ.1.2.2 w
    refine ⟨by rw [l1, l3]; rfl, by omega⟩
  have W3 : ∀ (M1 : mI) (c s : Int), c = chW σ → 0 ≤ c ∧ c ≤ 2 → CR M1 σ → (∀ a, 37 ≤ a → M1 a = M a) → G Γ X 4 (R0, 51, 0, 0) 27 [some (.ref (gb Γ + 0)), some (vI c), some (vI s), some (vI 3)] [] M1 := by
    intro M1 c s hc hb e1 e2
    refine g_iload_n hX d_WC_cheapestWay_27 rfl ?_
    refine g_iconst hX d_WC_cheapestWay_28 ?_
    refine g_icmp_ge 67 hX d_WC_cheapestWay_29 (by decide) (by omega) (by omega) (fun h_29 => ?_) (fun h_29 => ?_)
    · refine g_iload_n hX d_WC_cheapestWay_67 rfl ?_
      refine g_iret hX hR d_WC_cheapestWay_68 (by omega) ?_
      exact ⟨hc, e1, e2⟩
    · exact absurd h_29 (by decide)
  have W2 : ∀ (M1 : mI) (c : Int), c = (if cS σ 1 < cS σ 0 then 1 else 0) → CR M1 σ → Pp M1 σ.1.1 σ.1.2.1 σ.1.2.2 0 → (∀ a, 37 ≤ a → M1 a = M a) → G Γ X 4 (R0, 51, 0, 0) 27 [some (.ref (gb Γ + 0)), some (vI c), some (vI (cS σ c)), some (vI 2)] [] M1 := by
    intro M1 c hc e1 e0 e2
    have hc2 : cS σ c = (if cS σ 1 < cS σ 0 then cS σ 1 else cS σ 0) := by rw [hc]; split <;> rfl
    have hc3 : 0 ≤ c ∧ c ≤ 1 := by rw [hc]; split <;> omega
    have bc := cS_b ok c
    refine g_iload_n hX d_WC_cheapestWay_27 rfl ?_
    refine g_iconst hX d_WC_cheapestWay_28 ?_
    refine g_icmp_ge 67 hX d_WC_cheapestWay_29 (by decide) (by omega) (by omega) (fun h_29 => ?_) (fun h_29 => ?_)
    · exact absurd h_29 (by decide)
    · refine g_aload_n hX d_WC_cheapestWay_32 rfl ?_
      refine g_getR hX fl_WC_44 d_WC_cheapestWay_33 ⟨rfl, by decide⟩ rfl rfl ?_
      refine g_iload_n hX d_WC_cheapestWay_36 rfl ?_
      refine g_callV hX yo_Plan_layOut q_420 d_WC_cheapestWay_37 (c_Plan_layOut (w := 2) e1.1 ok.1.2.1 (by omega) e0) rfl rfl ⟨rfl, by decide⟩ rfl (by decide) (Nat.le_of_ble_eq_true rfl) ⟨Nat.zero_le _, Nat.zero_le _⟩ (k_void fun M_37 hp_37 => ?_)
      obtain ⟨q1, q2⟩ := hp_37
      obtain ⟨c1, c2⟩ := COST _ _ q1
      obtain ⟨f1, f2⟩ := CR_scr2 e1 (fun _ _ _ _ _ _ _ _ => rfl) q2
      refine g_aload_n hX d_WC_cheapestWay_40 rfl ?_
      refine g_getR hX fl_WC_44 d_WC_cheapestWay_41 ⟨rfl, by decide⟩ rfl rfl ?_
      refine g_callV hX yo_Plan_cost q_446 d_WC_cheapestWay_44 (c_Plan_cost f1.1 ok.1.2.1 c2) rfl rfl ⟨rfl, by decide⟩ rfl (by decide) (Nat.le_of_ble_eq_true rfl) ⟨Nat.zero_le _, Nat.zero_le _⟩ (k_int fun r_44 M_44 ir_44 hp_44 => ?_)
      obtain ⟨er_44, eM_44⟩ := hp_44; replace er_44 := er_44.symm; replace eM_44 := eM_44.symm; subst er_44; subst eM_44
      rw [c1] at ir_44 ⊢
      refine g_iload_n hX d_WC_cheapestWay_47 rfl ?_
      refine g_icmp_ge 61 hX d_WC_cheapestWay_48 (by decide) (by omega) (by omega) (fun h_48 => ?_) (fun h_48 => ?_)
      · refine g_iinc hX d_WC_cheapestWay_61 rfl (by decide) ?_
        refine g_goto 27 hX d_WC_cheapestWay_64 (by decide) ?_
        first | exact W3 _ _ _ (by unfold chW; rw [hc]; split <;> rename_i hz <;> rw [if_neg (by omega)]) (by omega) f1 (fun a u => by rw [f2 a u]; exact e2 a u) | exact W3 _ _ _ (by unfold chW; split <;> rename_i hz <;> rw [if_pos (by omega)]) (by omega) f1 (fun a u => by rw [f2 a u]; exact e2 a u)
      · refine g_aload_n hX d_WC_cheapestWay_51 rfl ?_
        refine g_getR hX fl_WC_44 d_WC_cheapestWay_52 ⟨rfl, by decide⟩ rfl rfl ?_
        refine g_callV hX yo_Plan_cost q_446 d_WC_cheapestWay_55 (c_Plan_cost f1.1 ok.1.2.1 c2) rfl rfl ⟨rfl, by decide⟩ rfl (by decide) (Nat.le_of_ble_eq_true rfl) ⟨Nat.zero_le _, Nat.zero_le _⟩ (k_int fun r_55 M_55 ir_55 hp_55 => ?_)
        obtain ⟨er_55, eM_55⟩ := hp_55; replace er_55 := er_55.symm; replace eM_55 := eM_55.symm; subst er_55; subst eM_55
        rw [c1] at ir_55 ⊢
        refine g_istore_n hX d_WC_cheapestWay_58 (by decide) ?_
        refine g_iload_n hX d_WC_cheapestWay_59 rfl ?_
        refine g_istore_n hX d_WC_cheapestWay_60 (by decide) ?_
        refine g_iinc hX d_WC_cheapestWay_61 rfl (by decide) ?_
        refine g_goto 27 hX d_WC_cheapestWay_64 (by decide) ?_
        first | exact W3 _ _ _ (by unfold chW; rw [hc]; split <;> rename_i hz <;> rw [if_neg (by omega)]) (by omega) f1 (fun a u => by rw [f2 a u]; exact e2 a u) | exact W3 _ _ _ (by unfold chW; split <;> rename_i hz <;> rw [if_pos (by omega)]) (by omega) f1 (fun a u => by rw [f2 a u]; exact e2 a u)
  have W1 : ∀ (M1 : mI), CR M1 σ → Pp M1 σ.1.1 σ.1.2.1 σ.1.2.2 0 → (∀ a, 37 ≤ a → M1 a = M a) → G Γ X 4 (R0, 51, 0, 0) 27 [some (.ref (gb Γ + 0)), some (vI 0), some (vI (cS σ 0)), some (vI 1)] [] M1 := by
    intro M1 e1 e0 e2
    refine g_iload_n hX d_WC_cheapestWay_27 rfl ?_
    refine g_iconst hX d_WC_cheapestWay_28 ?_
    refine g_icmp_ge 67 hX d_WC_cheapestWay_29 (by decide) (by omega) (by omega) (fun h_29 => ?_) (fun h_29 => ?_)
    · exact absurd h_29 (by decide)
    · refine g_aload_n hX d_WC_cheapestWay_32 rfl ?_
      refine g_getR hX fl_WC_44 d_WC_cheapestWay_33 ⟨rfl, by decide⟩ rfl rfl ?_
      refine g_iload_n hX d_WC_cheapestWay_36 rfl ?_
      refine g_callV hX yo_Plan_layOut q_420 d_WC_cheapestWay_37 (c_Plan_layOut (w := 1) e1.1 ok.1.2.1 (by omega) e0) rfl rfl ⟨rfl, by decide⟩ rfl (by decide) (Nat.le_of_ble_eq_true rfl) ⟨Nat.zero_le _, Nat.zero_le _⟩ (k_void fun M_37 hp_37 => ?_)
      obtain ⟨q1, q2⟩ := hp_37
      obtain ⟨c1, c2⟩ := COST _ _ q1
      obtain ⟨f1, f2⟩ := CR_scr2 e1 (fun _ _ _ _ _ _ _ _ => rfl) q2
      refine g_aload_n hX d_WC_cheapestWay_40 rfl ?_
      refine g_getR hX fl_WC_44 d_WC_cheapestWay_41 ⟨rfl, by decide⟩ rfl rfl ?_
      refine g_callV hX yo_Plan_cost q_446 d_WC_cheapestWay_44 (c_Plan_cost f1.1 ok.1.2.1 c2) rfl rfl ⟨rfl, by decide⟩ rfl (by decide) (Nat.le_of_ble_eq_true rfl) ⟨Nat.zero_le _, Nat.zero_le _⟩ (k_int fun r_44 M_44 ir_44 hp_44 => ?_)
      obtain ⟨er_44, eM_44⟩ := hp_44; replace er_44 := er_44.symm; replace eM_44 := eM_44.symm; subst er_44; subst eM_44
      rw [c1] at ir_44 ⊢
      refine g_iload_n hX d_WC_cheapestWay_47 rfl ?_
      refine g_icmp_ge 61 hX d_WC_cheapestWay_48 (by decide) (by omega) (by omega) (fun h_48 => ?_) (fun h_48 => ?_)
      · refine g_iinc hX d_WC_cheapestWay_61 rfl (by decide) ?_
        refine g_goto 27 hX d_WC_cheapestWay_64 (by decide) ?_
        first | exact W2 _ 0 (by rw [if_neg (by omega)]) f1 (Pp_scr e0 q2) (fun a u => by rw [f2 a u]; exact e2 a u) | exact W2 _ 1 (by rw [if_pos (by omega)]) f1 (Pp_scr e0 q2) (fun a u => by rw [f2 a u]; exact e2 a u)
      · refine g_aload_n hX d_WC_cheapestWay_51 rfl ?_
        refine g_getR hX fl_WC_44 d_WC_cheapestWay_52 ⟨rfl, by decide⟩ rfl rfl ?_
        refine g_callV hX yo_Plan_cost q_446 d_WC_cheapestWay_55 (c_Plan_cost f1.1 ok.1.2.1 c2) rfl rfl ⟨rfl, by decide⟩ rfl (by decide) (Nat.le_of_ble_eq_true rfl) ⟨Nat.zero_le _, Nat.zero_le _⟩ (k_int fun r_55 M_55 ir_55 hp_55 => ?_)
        obtain ⟨er_55, eM_55⟩ := hp_55; replace er_55 := er_55.symm; replace eM_55 := eM_55.symm; subst er_55; subst eM_55
        rw [c1] at ir_55 ⊢
        refine g_istore_n hX d_WC_cheapestWay_58 (by decide) ?_
        refine g_iload_n hX d_WC_cheapestWay_59 rfl ?_
        refine g_istore_n hX d_WC_cheapestWay_60 (by decide) ?_
        refine g_iinc hX d_WC_cheapestWay_61 rfl (by decide) ?_
        refine g_goto 27 hX d_WC_cheapestWay_64 (by decide) ?_
        first | exact W2 _ 0 (by rw [if_neg (by omega)]) f1 (Pp_scr e0 q2) (fun a u => by rw [f2 a u]; exact e2 a u) | exact W2 _ 1 (by rw [if_pos (by omega)]) f1 (Pp_scr e0 q2) (fun a u => by rw [f2 a u]; exact e2 a u)
  refine g_aload_n hX d_WC_cheapestWay_0 rfl ?_
  refine g_getR hX fl_WC_44 d_WC_cheapestWay_1 ⟨rfl, by decide⟩ rfl rfl ?_
  refine g_callV hX yo_Plan_make q_376 d_WC_cheapestWay_4 (c_Plan_make hv ok.1.2.1) rfl rfl ⟨rfl, by decide⟩ rfl (by decide) (Nat.le_of_ble_eq_true rfl) ⟨Nat.zero_le _, Nat.zero_le _⟩ (k_void fun M_4 hp_4 => ?_)
  obtain ⟨p1, p2⟩ := hp_4
  have hv2 : Sv M_4 1 σ.1.1 σ.1.2.1 σ.1.2.2 := hv.to (p2 1 (by decide) (by decide) (by decide) (by decide) (by decide) (by decide) (by decide)) (p2 2 (by decide) (by decide) (by decide) (by decide) (by decide) (by decide) (by decide)) (p2 3 (by decide) (by decide) (by decide) (by decide) (by decide) (by decide) (by decide))
  refine g_aload_n hX d_WC_cheapestWay_7 rfl ?_
  refine g_getR hX fl_WC_44 d_WC_cheapestWay_8 ⟨rfl, by decide⟩ rfl rfl ?_
  refine g_iconst hX d_WC_cheapestWay_11 ?_
  refine g_callV hX yo_Plan_layOut q_420 d_WC_cheapestWay_12 (c_Plan_layOut (w := 0) hv2 ok.1.2.1 (by omega) p1) rfl rfl ⟨rfl, by decide⟩ rfl (by decide) (Nat.le_of_ble_eq_true rfl) ⟨Nat.zero_le _, Nat.zero_le _⟩ (k_void fun M_12 hp_12 => ?_)
  obtain ⟨q1, q2⟩ := hp_12
  obtain ⟨c1, c2⟩ := COST _ _ q1
  obtain ⟨f1, f2⟩ := CR_scr2 h p2 q2
  refine g_iconst hX d_WC_cheapestWay_15 ?_
  refine g_istore_n hX d_WC_cheapestWay_16 (by decide) ?_
  refine g_aload_n hX d_WC_cheapestWay_17 rfl ?_
  refine g_getR hX fl_WC_44 d_WC_cheapestWay_18 ⟨rfl, by decide⟩ rfl rfl ?_
  refine g_callV hX yo_Plan_cost q_446 d_WC_cheapestWay_21 (c_Plan_cost f1.1 ok.1.2.1 c2) rfl rfl ⟨rfl, by decide⟩ rfl (by decide) (Nat.le_of_ble_eq_true rfl) ⟨Nat.zero_le _, Nat.zero_le _⟩ (k_int fun r_21 M_21 ir_21 hp_21 => ?_)
  obtain ⟨er_21, eM_21⟩ := hp_21; replace er_21 := er_21.symm; replace eM_21 := eM_21.symm; subst er_21; subst eM_21
  rw [c1] at ir_21 ⊢
  refine g_istore_n hX d_WC_cheapestWay_24 (by decide) ?_
  refine g_iconst hX d_WC_cheapestWay_25 ?_
  refine g_istore_n hX d_WC_cheapestWay_26 (by decide) ?_
  exact W1 _ f1 (Pp_scr p1 q2) f2
theorem c_WC_count {Γ : gX} {l : Launch} {M : mI} {σ : sG} {k : Int} (h : CR M σ) (ok : OkV σ) (hk : iR k) : Cn Γ l i_WC_count R0 51 [.ref (gb Γ + 0), vI k] M (pI (fun r M' => r = q_count σ k ∧ CR M' σ ∧ ∀ a, 37 ≤ a → M' a = M a)) := by
  refine cn_intro (L := [some (.ref (gb Γ + 0)), some (vI k)]) yo_WC_count.1 rfl (Nat.le_of_ble_eq_true rfl) rfl (fun X hX hR => ?_)
  have hv := h.1
  obtain ⟨v1, v2, v3, v4, v5⟩ := id hv
  refine g_iload_n hX d_WC_count_0 rfl ?_
  by_cases z_1_0 : k = 0
  · refine g_tswI 0 40 hX d_WC_count_1 (by omega) (by omega) (by omega) rfl (by decide) ?_
    refine g_aload_n hX d_WC_count_40 rfl ?_
    refine g_getR hX fl_WC_10 d_WC_count_41 ⟨rfl, by decide⟩ rfl rfl ?_
    refine g_callV hX yo_State_size q_222 d_WC_count_44 (c_State_size st_1) rfl rfl ⟨rfl, by decide⟩ rfl (by decide) (Nat.le_of_ble_eq_true rfl) ⟨Nat.zero_le _, Nat.zero_le _⟩ (k_int fun r_44 M_44 ir_44 hp_44 => ?_)
    obtain ⟨er_44, eM_44⟩ := hp_44; replace er_44 := er_44.symm; replace eM_44 := eM_44.symm; subst er_44; subst eM_44
    refine g_iret hX hR d_WC_count_47 (by omega) ?_
    unfold q_count; rw [if_pos (by omega)]; exact ⟨v1, h, fun _ _ => rfl⟩
  by_cases z_1_1 : k = 1
  · refine g_tswI 1 48 hX d_WC_count_1 (by omega) (by omega) (by omega) rfl (by decide) ?_
    refine g_aload_n hX d_WC_count_48 rfl ?_
    refine g_getR hX fl_WC_10 d_WC_count_49 ⟨rfl, by decide⟩ rfl rfl ?_
    refine g_callV hX yo_State_unlikeLetters q_501 d_WC_count_52 (c_State_unlikeLetters st_1 hv) rfl rfl ⟨rfl, by decide⟩ rfl (by decide) (Nat.le_of_ble_eq_true rfl) ⟨Nat.zero_le _, Nat.zero_le _⟩ (k_int fun r_52 M_52 ir_52 hp_52 => ?_)
    obtain ⟨er_52, eM_52⟩ := hp_52; replace er_52 := er_52.symm; replace eM_52 := eM_52.symm; subst er_52; subst eM_52
    refine g_iret hX hR d_WC_count_55 (by omega) ?_
    unfold q_count; rw [if_neg (by omega), if_pos (by omega)]; exact ⟨rfl, h, fun _ _ => rfl⟩
  by_cases z_1_2 : k = 2
  · refine g_tswI 2 56 hX d_WC_count_1 (by omega) (by omega) (by omega) rfl (by decide) ?_
    refine g_aload_n hX d_WC_count_56 rfl ?_
    refine g_callV hX yo_WC_cheapestWay q_509 d_WC_count_57 (c_WC_cheapestWay h ok) rfl rfl ⟨rfl, by decide⟩ rfl (by decide) (Nat.le_of_ble_eq_true rfl) ⟨Nat.zero_le _, Nat.zero_le _⟩ (k_int fun r_57 M_57 ir_57 hp_57 => ?_)
    obtain ⟨hq1, hq2, hq3⟩ := hp_57
    refine g_iret hX hR d_WC_count_60 (by omega) ?_
    unfold q_count; rw [if_neg (by omega), if_neg (by omega), if_pos (by omega)]; exact ⟨hq1, hq2, hq3⟩
  by_cases z_1_3 : k = 3
  · refine g_tswI 3 61 hX d_WC_count_1 (by omega) (by omega) (by omega) rfl (by decide) ?_
    refine g_aload_n hX d_WC_count_61 rfl ?_
    refine g_getR hX fl_WC_26 d_WC_count_62 ⟨rfl, by decide⟩ rfl rfl ?_
    refine g_callV hX yo_History_size q_513 d_WC_count_65 c_History_size rfl rfl ⟨rfl, by decide⟩ rfl (by decide) (Nat.le_of_ble_eq_true rfl) ⟨Nat.zero_le _, Nat.zero_le _⟩ (k_int fun r_65 M_65 ir_65 hp_65 => ?_)
    obtain ⟨er_65, eM_65⟩ := hp_65; replace er_65 := er_65.symm; replace eM_65 := eM_65.symm; subst er_65; subst eM_65
    refine g_iret hX hR d_WC_count_68 (by omega) ?_
    unfold q_count; rw [if_neg (by omega), if_neg (by omega), if_neg (by omega), if_pos (by omega)]; exact ⟨h.2.1.1, h, fun _ _ => rfl⟩
  by_cases z_1_4 : k = 4
  · refine g_tswI 4 69 hX d_WC_count_1 (by omega) (by omega) (by omega) rfl (by decide) ?_
    refine g_aload_n hX d_WC_count_69 rfl ?_
    refine g_getR hX fl_WC_58 d_WC_count_70 ⟨rfl, by decide⟩ rfl rfl ?_
    refine g_callV hX yo_Text_size q_517 d_WC_count_73 c_Text_size rfl rfl ⟨rfl, by decide⟩ rfl (by decide) (Nat.le_of_ble_eq_true rfl) ⟨Nat.zero_le _, Nat.zero_le _⟩ (k_int fun r_73 M_73 ir_73 hp_73 => ?_)
    obtain ⟨er_73, eM_73⟩ := hp_73; replace er_73 := er_73.symm; replace eM_73 := eM_73.symm; subst er_73; subst eM_73
    refine g_iret hX hR d_WC_count_76 (by omega) ?_
    unfold q_count; rw [if_neg (by omega), if_neg (by omega), if_neg (by omega), if_neg (by omega), if_pos (by omega)]; exact ⟨h.2.2.2.2.1, h, fun _ _ => rfl⟩
  by_cases z_1_5 : k = 5
  · refine g_tswI 5 77 hX d_WC_count_1 (by omega) (by omega) (by omega) rfl (by decide) ?_
    refine g_aload_n hX d_WC_count_77 rfl ?_
    refine g_getI hX fl_WC_19 d_WC_count_78 2 ⟨rfl, by decide⟩ rfl rfl (fun r_78 => ?_)
    refine g_if_eq 88 hX d_WC_count_81 (by decide) (by first | omega | exact ite_iR) (fun h_81 => ?_) (fun h_81 => ?_)
    · refine g_iconst hX d_WC_count_88 ?_
      refine g_iret hX hR d_WC_count_89 (by omega) ?_
      unfold q_count; rw [if_neg (by omega), if_neg (by omega), if_neg (by omega), if_neg (by omega), if_neg (by omega), if_pos (by omega)]; refine ⟨?_, h, fun _ _ => rfl⟩; rw [← h.2.2.1]; have zs : M 0 2 = 0 ∨ M 0 2 = 1 := (by rw [h.2.2.1]; split <;> omega); omega
    · refine g_iconst hX d_WC_count_84 ?_
      refine g_goto 89 hX d_WC_count_85 (by decide) ?_
      refine g_iret hX hR d_WC_count_89 (by omega) ?_
      unfold q_count; rw [if_neg (by omega), if_neg (by omega), if_neg (by omega), if_neg (by omega), if_neg (by omega), if_pos (by omega)]; refine ⟨?_, h, fun _ _ => rfl⟩; rw [← h.2.2.1]; have zs : M 0 2 = 0 ∨ M 0 2 = 1 := (by rw [h.2.2.1]; split <;> omega); omega
  refine g_tswO 90 hX d_WC_count_1 (by omega) (by omega) (by decide) ?_
  refine g_aload_n hX d_WC_count_90 rfl ?_
  refine g_iload_n hX d_WC_count_91 rfl ?_
  refine g_callV hX yo_WC_settingCount q_521 d_WC_count_92 (c_WC_settingCount h hk) rfl rfl ⟨rfl, by decide⟩ rfl (by decide) (Nat.le_of_ble_eq_true rfl) ⟨Nat.zero_le _, Nat.zero_le _⟩ (k_int fun r_92 M_92 ir_92 hp_92 => ?_)
  obtain ⟨er_92, eM_92⟩ := hp_92; replace er_92 := er_92.symm; replace eM_92 := eM_92.symm; subst er_92; subst eM_92
  refine g_iret hX hR d_WC_count_95 (by omega) ?_
  unfold q_count; rw [if_neg z_1_0, if_neg z_1_1, if_neg z_1_2, if_neg z_1_3, if_neg z_1_4, if_neg z_1_5]; exact ⟨rfl, h, fun _ _ => rfl⟩
theorem c_WC_keep {Γ : gX} {l : Launch} {M : mI} {σ : sG} (h : CR M σ) : Cn Γ l i_WC_keep R0 51 [.ref (gb Γ + 0)] M (pI (fun r M' => r = (q_keep σ).1 ∧ CR M' (q_keep σ).2 ∧ ∀ a, 37 ≤ a → M' a = M a)) := by
  refine cn_intro (L := [some (.ref (gb Γ + 0))]) yo_WC_keep.1 rfl (Nat.le_of_ble_eq_true rfl) rfl (fun X hX hR => ?_)
  have hv := h.1
  obtain ⟨v1, v2, v3, v4, v5⟩ := id hv
  refine g_aload_n hX d_WC_keep_0 rfl ?_
  refine g_getR hX fl_WC_16 d_WC_keep_1 ⟨rfl, by decide⟩ rfl rfl ?_
  refine g_aload_n hX d_WC_keep_4 rfl ?_
  refine g_getR hX fl_WC_10 d_WC_keep_5 ⟨rfl, by decide⟩ rfl rfl ?_
  refine g_callV hX yo_State_copyFrom q_529 d_WC_keep_8 (c_State_copyFrom st_4 st_1 (by omega) hv) rfl rfl ⟨rfl, by decide⟩ rfl (by decide) (Nat.le_of_ble_eq_true rfl) ⟨Nat.zero_le _, Nat.zero_le _⟩ (k_void fun M_8 hp_8 => ?_)
  obtain ⟨p1, p2⟩ := hp_8
  refine g_aload_n hX d_WC_keep_11 rfl ?_
  refine g_iconst hX d_WC_keep_12 ?_
  refine g_putZ hX fl_WC_19 d_WC_keep_13 2 ⟨rfl, by decide⟩ rfl rfl (fun q h => by cases h; rfl) rfl (Or.inr rfl) ?_
  refine g_aload_n hX d_WC_keep_16 rfl ?_
  refine g_getR hX fl_WC_10 d_WC_keep_17 ⟨rfl, by decide⟩ rfl rfl ?_
  refine g_callV hX yo_State_size q_222 d_WC_keep_20 (c_State_size st_1) rfl rfl ⟨rfl, by decide⟩ rfl (by decide) (Nat.le_of_ble_eq_true rfl) ⟨Nat.zero_le _, Nat.zero_le _⟩ (k_int fun r_20 M_20 ir_20 hp_20 => ?_)
  obtain ⟨er_20, eM_20⟩ := hp_20; replace er_20 := er_20.symm; replace eM_20 := eM_20.symm; subst er_20; subst eM_20
  refine g_iret hX hR d_WC_keep_23 (by omega) ?_
  refine ⟨?_, ⟨hv.to (by rw [mU_cell (by omega), p2 1 (by omega) (by omega) (by omega)]) (by rw [mU_cell (by omega), p2 2 (by omega) (by omega) (by omega)]) (by rw [mU_cell (by omega), p2 3 (by omega) (by omega) (by omega)]), h.2.1.to (fun a u v => by rw [mU_cell (by omega), p2 a (by omega) (by omega) (by omega)]), by rw [mU_self]; rfl, fun s hs => ?_, h.2.2.2.2.to (by rw [mU_cell (by omega), p2 31 (by omega) (by omega) (by omega)]) (by rw [mU_cell (by omega), p2 32 (by omega) (by omega) (by omega)])⟩, fun a u => by rw [mU_cell (by omega), p2 a (by omega) (by omega) (by omega)]⟩
  · rw [mU_cell (by omega), p2 1 (by omega) (by omega) (by omega)]; exact v1
  · have hs2 : σ.1 = s := Option.some.inj hs
    rw [← hs2]
    exact p1.to (by rw [mU_cell (by omega)]) (by rw [mU_cell (by omega)]) (by rw [mU_cell (by omega)])
theorem snap_cases {M : mI} {σ : sG} (h : CR M σ) : (σ.2.2.1 = none ∧ M 0 2 = 0) ∨ (∃ s, σ.2.2.1 = some s ∧ M 0 2 = 1 ∧ Sv M 4 s.1 s.2.1 s.2.2) := by
  obtain ⟨h1, h2, h3, h4, h5⟩ := h
  cases hs : σ.2.2.1 with
  | none => rw [hs] at h3; exact Or.inl ⟨rfl, h3⟩
  | some s => rw [hs] at h3; exact Or.inr ⟨s, rfl, h3, h4 s hs⟩
theorem q_restore_some {σ : sG} {s : sS} (h : σ.2.2.1 = some s) : q_restore σ = (s.1, chg σ s) := by
  unfold q_restore
  simp only [h, Option.isSome_some, dite_true, Option.get_some]
theorem q_restore_none {σ : sG} (h : σ.2.2.1 = none) : q_restore σ = (-10002, σ) := by
  unfold q_restore
  rw [dif_neg (by rw [h]; decide)]
theorem c_WC_restore {Γ : gX} {l : Launch} {M : mI} {σ : sG} (h : CR M σ) : Cn Γ l i_WC_restore R0 51 [.ref (gb Γ + 0)] M (pI (fun r M' => r = (q_restore σ).1 ∧ CR M' (q_restore σ).2 ∧ ∀ a, 37 ≤ a → M' a = M a)) := by
  refine cn_intro (L := [some (.ref (gb Γ + 0))]) yo_WC_restore.1 rfl (Nat.le_of_ble_eq_true rfl) rfl (fun X hX hR => ?_)
  have hv := h.1
  obtain ⟨v1, v2, v3, v4, v5⟩ := id hv
  refine g_aload_n hX d_WC_restore_0 rfl ?_
  refine g_getI hX fl_WC_19 d_WC_restore_1 2 ⟨rfl, by decide⟩ rfl rfl (fun r_1 => ?_)
  refine g_if_ne 11 hX d_WC_restore_4 (by decide) (by first | omega | exact ite_iR) (fun h_4 => ?_) (fun h_4 => ?_)
  · obtain ⟨s, zs, -, zv⟩ : ∃ s, σ.2.2.1 = some s ∧ M 0 2 = 1 ∧ Sv M 4 s.1 s.2.1 s.2.2 := by rcases snap_cases h with ⟨_, z1⟩ | z1; omega; exact z1
    refine g_aload_n hX d_WC_restore_11 rfl ?_
    refine g_getR hX fl_WC_26 d_WC_restore_12 ⟨rfl, by decide⟩ rfl rfl ?_
    refine g_aload_n hX d_WC_restore_15 rfl ?_
    refine g_getR hX fl_WC_10 d_WC_restore_16 ⟨rfl, by decide⟩ rfl rfl ?_
    refine g_callV hX yo_History_record q_226 d_WC_restore_19 (c_History_record (s := σ.1) h.2.1 hv) rfl rfl ⟨rfl, by decide⟩ rfl (by decide) (Nat.le_of_ble_eq_true rfl) ⟨Nat.zero_le _, Nat.zero_le _⟩ (k_void fun M_19 hp_19 => ?_)
    obtain ⟨p1, p2⟩ := hp_19
    have w1 := zv.to (p2 4 (by omega)) (p2 5 (by omega)) (p2 6 (by omega))
    refine g_aload_n hX d_WC_restore_22 rfl ?_
    refine g_getR hX fl_WC_10 d_WC_restore_23 ⟨rfl, by decide⟩ rfl rfl ?_
    refine g_aload_n hX d_WC_restore_26 rfl ?_
    refine g_getR hX fl_WC_16 d_WC_restore_27 ⟨rfl, by decide⟩ rfl rfl ?_
    refine g_callV hX yo_State_copyFrom q_529 d_WC_restore_30 (c_State_copyFrom st_1 st_4 (by omega) w1) rfl rfl ⟨rfl, by decide⟩ rfl (by decide) (Nat.le_of_ble_eq_true rfl) ⟨Nat.zero_le _, Nat.zero_le _⟩ (k_void fun M_30 hp_30 => ?_)
    obtain ⟨p3, p4⟩ := hp_30
    refine g_aload_n hX d_WC_restore_33 rfl ?_
    refine g_getR hX fl_WC_10 d_WC_restore_34 ⟨rfl, by decide⟩ rfl rfl ?_
    refine g_callV hX yo_State_size q_222 d_WC_restore_37 (c_State_size st_1) rfl rfl ⟨rfl, by decide⟩ rfl (by decide) (Nat.le_of_ble_eq_true rfl) ⟨Nat.zero_le _, Nat.zero_le _⟩ (k_int fun r_37 M_37 ir_37 hp_37 => ?_)
    obtain ⟨er_37, eM_37⟩ := hp_37; replace er_37 := er_37.symm; replace eM_37 := eM_37.symm; subst er_37; subst eM_37
    refine g_iret hX hR d_WC_restore_40 (by omega) ?_
    rw [q_restore_some zs]; exact ⟨p3.1, CR_rec h p3 (p1.to (fun a u v => p4 a (by omega) (by omega) (by omega))) (fun a u => by rw [p4 a (by omega) (by omega) (by omega)]; exact p2 a (by omega)), fun a u => by rw [p4 a (by omega) (by omega) (by omega)]; exact p2 a (by omega)⟩
  · have zs : σ.2.2.1 = none := by rcases snap_cases h with ⟨z1, _⟩ | ⟨s, _, z1, _⟩; exact z1; omega
    refine g_sipush hX d_WC_restore_7 rfl ?_
    refine g_iret hX hR d_WC_restore_10 (by omega) ?_
    rw [q_restore_none zs]; exact ⟨rfl, h, fun _ _ => rfl⟩
theorem q_undo_snoc {σ : sG} {l : List sS} {s : sS} (h : σ.2.1 = l ++ [s]) : q_undo σ = ((l.length : Int), (s, l, σ.2.2.1, σ.2.2.2)) := by
  unfold q_undo
  rw [dif_pos (by rw [h]; simp)]
  have e1 : σ.2.1.length = l.length + 1 := by rw [h]; simp
  have e2 : σ.2.1.dropLast = l := by rw [h]; simp
  have e3 : ∀ hh : σ.2.1 ≠ [], σ.2.1.getLast hh = s := by rw [h]; intro hh; simp
  rw [e1, e2, e3]
  congr 1
  omega
theorem q_undo_nil {σ : sG} (h : σ.2.1 = []) : q_undo σ = (-10002, σ) := by
  unfold q_undo
  rw [dif_neg (by rw [h]; simp)]
theorem c_WC_undo {Γ : gX} {l : Launch} {M : mI} {σ : sG} (h : CR M σ) : Cn Γ l i_WC_undo R0 51 [.ref (gb Γ + 0)] M (pI (fun r M' => r = (q_undo σ).1 ∧ CR M' (q_undo σ).2 ∧ ∀ a, 37 ≤ a → M' a = M a)) := by
  refine cn_intro (L := [some (.ref (gb Γ + 0))]) yo_WC_undo.1 rfl (Nat.le_of_ble_eq_true rfl) rfl (fun X hX hR => ?_)
  refine g_aload_n hX d_WC_undo_0 rfl ?_
  refine g_getR hX fl_WC_26 d_WC_undo_1 ⟨rfl, by decide⟩ rfl rfl ?_
  refine g_callV hX yo_History_size q_513 d_WC_undo_4 c_History_size rfl rfl ⟨rfl, by decide⟩ rfl (by decide) (Nat.le_of_ble_eq_true rfl) ⟨Nat.zero_le _, Nat.zero_le _⟩ (k_int fun r_4 M_4 ir_4 hp_4 => ?_)
  obtain ⟨er_4, eM_4⟩ := hp_4; replace er_4 := er_4.symm; replace eM_4 := eM_4.symm; subst er_4; subst eM_4
  refine g_if_ne 14 hX d_WC_undo_7 (by decide) (by first | omega | exact ite_iR) (fun h_7 => ?_) (fun h_7 => ?_)
  · obtain ⟨lh, s, zs⟩ : ∃ lh s, σ.2.1 = lh ++ [s] := ⟨σ.2.1.dropLast, σ.2.1.getLast (by intro e; have zq := h.2.1.1; rw [e] at zq; exact h_7 zq), (List.dropLast_concat_getLast _).symm⟩
    have zh := h.2.1
    rw [zs] at zh
    refine g_aload_n hX d_WC_undo_14 rfl ?_
    refine g_getR hX fl_WC_26 d_WC_undo_15 ⟨rfl, by decide⟩ rfl rfl ?_
    refine g_aload_n hX d_WC_undo_18 rfl ?_
    refine g_getR hX fl_WC_10 d_WC_undo_19 ⟨rfl, by decide⟩ rfl rfl ?_
    refine g_callV hX yo_History_takeBack q_538 d_WC_undo_22 (c_History_takeBack zh) rfl rfl ⟨rfl, by decide⟩ rfl (by decide) (Nat.le_of_ble_eq_true rfl) ⟨Nat.zero_le _, Nat.zero_le _⟩ (k_void fun M_22 hp_22 => ?_)
    obtain ⟨p1, p2, p3⟩ := hp_22
    refine g_aload_n hX d_WC_undo_25 rfl ?_
    refine g_getR hX fl_WC_26 d_WC_undo_26 ⟨rfl, by decide⟩ rfl rfl ?_
    refine g_callV hX yo_History_size q_513 d_WC_undo_29 c_History_size rfl rfl ⟨rfl, by decide⟩ rfl (by decide) (Nat.le_of_ble_eq_true rfl) ⟨Nat.zero_le _, Nat.zero_le _⟩ (k_int fun r_29 M_29 ir_29 hp_29 => ?_)
    obtain ⟨er_29, eM_29⟩ := hp_29; replace er_29 := er_29.symm; replace eM_29 := eM_29.symm; subst er_29; subst eM_29
    refine g_iret hX hR d_WC_undo_32 (by omega) ?_
    rw [q_undo_snoc zs]; exact ⟨p1.1, ⟨p2, p1, by rw [p3 0 (by omega)]; exact h.2.2.1, fun s' hs => (h.2.2.2.1 s' hs).to (p3 4 (by omega)) (p3 5 (by omega)) (p3 6 (by omega)), h.2.2.2.2.to (p3 31 (by omega)) (p3 32 (by omega))⟩, fun a u => p3 a (by omega)⟩
  · have zs : σ.2.1 = [] := List.eq_nil_of_length_eq_zero (by have zq := h.2.1.1; omega)
    refine g_sipush hX d_WC_undo_10 rfl ?_
    refine g_iret hX hR d_WC_undo_13 (by omega) ?_
    rw [q_undo_nil zs]; exact ⟨rfl, h, fun _ _ => rfl⟩
theorem c_WC_type {Γ : gX} {l : Launch} {M : mI} {σ : sG} {c : Int} (h : CR M σ) (hc : iR c) : Cn Γ l i_WC_type R0 51 [.ref (gb Γ + 0), vI c] M (pI (fun r M' => r = (q_type σ c).1 ∧ CR M' (q_type σ c).2 ∧ ∀ a, 37 ≤ a → M' a = M a)) := by
  refine cn_intro (L := [some (.ref (gb Γ + 0)), some (vI c)]) yo_WC_type.1 rfl (Nat.le_of_ble_eq_true rfl) rfl (fun X hX hR => ?_)
  have ht := h.2.2.2.2
  have ht2 := ht.2.1
  refine g_iload_n hX d_WC_type_0 rfl ?_
  refine g_bipush hX d_WC_type_1 rfl ?_
  refine g_bipush hX d_WC_type_3 rfl ?_
  refine g_callS hX yo_WC_isIn q_219 d_WC_type_5 (c_WC_isIn hc (by omega) (by omega)) rfl rfl (by decide) (Nat.le_of_ble_eq_true rfl) ⟨Nat.zero_le _, Nat.zero_le _⟩ (k_int fun r_5 M_5 ir_5 hp_5 => ?_)
  obtain ⟨er_5, eM_5⟩ := hp_5; replace er_5 := er_5.symm; replace eM_5 := eM_5.symm; subst er_5; subst eM_5
  refine g_if_ne 15 hX d_WC_type_8 (by decide) (by first | omega | exact ite_iR) (fun h_8 => ?_) (fun h_8 => ?_)
  · have z1 := ite_ne h_8
    refine g_aload_n hX d_WC_type_15 rfl ?_
    refine g_getR hX fl_WC_58 d_WC_type_16 ⟨rfl, by decide⟩ rfl rfl ?_
    refine g_callV hX yo_Text_size q_517 d_WC_type_19 c_Text_size rfl rfl ⟨rfl, by decide⟩ rfl (by decide) (Nat.le_of_ble_eq_true rfl) ⟨Nat.zero_le _, Nat.zero_le _⟩ (k_int fun r_19 M_19 ir_19 hp_19 => ?_)
    obtain ⟨er_19, eM_19⟩ := hp_19; replace er_19 := er_19.symm; replace eM_19 := eM_19.symm; subst er_19; subst eM_19
    rw [ht.1] at ir_19 ⊢
    refine g_bipush hX d_WC_type_22 rfl ?_
    refine g_icmp_lt 31 hX d_WC_type_24 (by decide) (by omega) (by omega) (fun h_24 => ?_) (fun h_24 => ?_)
    · refine g_aload_n hX d_WC_type_31 rfl ?_
      refine g_getR hX fl_WC_58 d_WC_type_32 ⟨rfl, by decide⟩ rfl rfl ?_
      refine g_iload_n hX d_WC_type_35 rfl ?_
      refine g_callV hX yo_Text_append q_546 d_WC_type_36 (c_Text_appendT ht (by omega) hc) rfl rfl ⟨rfl, by decide⟩ rfl (by decide) (Nat.le_of_ble_eq_true rfl) ⟨Nat.zero_le _, Nat.zero_le _⟩ (k_void fun M_36 hp_36 => ?_)
      obtain ⟨p1, p2⟩ := hp_36
      refine g_aload_n hX d_WC_type_39 rfl ?_
      refine g_getR hX fl_WC_58 d_WC_type_40 ⟨rfl, by decide⟩ rfl rfl ?_
      refine g_callV hX yo_Text_size q_517 d_WC_type_43 c_Text_size rfl rfl ⟨rfl, by decide⟩ rfl (by decide) (Nat.le_of_ble_eq_true rfl) ⟨Nat.zero_le _, Nat.zero_le _⟩ (k_int fun r_43 M_43 ir_43 hp_43 => ?_)
      obtain ⟨er_43, eM_43⟩ := hp_43; replace er_43 := er_43.symm; replace eM_43 := eM_43.symm; subst er_43; subst eM_43
      refine g_iret hX hR d_WC_type_46 (by omega) ?_
      unfold q_type; rw [if_neg (fun z => z z1), if_neg (by omega)]; refine ⟨by rw [p1.1]; simp, ⟨h.1.to (p2 1 (by omega) (by omega)) (p2 2 (by omega) (by omega)) (p2 3 (by omega) (by omega)), h.2.1.to (fun a u v => p2 a (by omega) (by omega)), by rw [p2 0 (by omega) (by omega)]; exact h.2.2.1, fun s' hs => (h.2.2.2.1 s' hs).to (p2 4 (by omega) (by omega)) (p2 5 (by omega) (by omega)) (p2 6 (by omega) (by omega)), p1⟩, fun a u => p2 a (by omega) (by omega)⟩
    · refine g_sipush hX d_WC_type_27 rfl ?_
      refine g_iret hX hR d_WC_type_30 (by omega) ?_
      unfold q_type; rw [if_neg (fun z => z z1), if_pos (by omega)]; exact ⟨rfl, h, fun _ _ => rfl⟩
  · have z1 := ite_eq h_8
    refine g_sipush hX d_WC_type_11 rfl ?_
    refine g_iret hX hR d_WC_type_14 (by omega) ?_
    unfold q_type; rw [if_pos z1]; exact ⟨rfl, h, fun _ _ => rfl⟩
theorem Tv.nil {M : mI} : Tv (mU M 31 1 0) [] := ⟨by rw [mU_self]; rfl, by simp, fun i c hc => by simp at hc⟩
theorem c_WC_clearText {Γ : gX} {l : Launch} {M : mI} {σ : sG} (h : CR M σ) : Cn Γ l i_WC_clearText R0 51 [.ref (gb Γ + 0)] M (pI (fun r M' => r = (q_clearText σ).1 ∧ CR M' (q_clearText σ).2 ∧ ∀ a, 37 ≤ a → M' a = M a)) := by
  refine cn_intro (L := [some (.ref (gb Γ + 0)), none]) yo_WC_clearText.1 rfl (Nat.le_of_ble_eq_true rfl) rfl (fun X hX hR => ?_)
  refine g_aload_n hX d_WC_clearText_0 rfl ?_
  refine g_getR hX fl_WC_58 d_WC_clearText_1 ⟨rfl, by decide⟩ rfl rfl ?_
  refine g_callV hX yo_Text_size q_517 d_WC_clearText_4 c_Text_size rfl rfl ⟨rfl, by decide⟩ rfl (by decide) (Nat.le_of_ble_eq_true rfl) ⟨Nat.zero_le _, Nat.zero_le _⟩ (k_int fun r_4 M_4 ir_4 hp_4 => ?_)
  obtain ⟨er_4, eM_4⟩ := hp_4; replace er_4 := er_4.symm; replace eM_4 := eM_4.symm; subst er_4; subst eM_4
  refine g_istore_n hX d_WC_clearText_7 (by decide) ?_
  refine g_aload_n hX d_WC_clearText_8 rfl ?_
  refine g_getR hX fl_WC_58 d_WC_clearText_9 ⟨rfl, by decide⟩ rfl rfl ?_
  refine g_callV hX yo_Text_empty q_555 d_WC_clearText_12 c_Text_empty rfl rfl ⟨rfl, by decide⟩ rfl (by decide) (Nat.le_of_ble_eq_true rfl) ⟨Nat.zero_le _, Nat.zero_le _⟩ (k_void fun M_12 hp_12 => ?_)
  replace hp_12 := hp_12.symm; subst hp_12
  refine g_iload_n hX d_WC_clearText_15 rfl ?_
  refine g_iret hX hR d_WC_clearText_16 (by omega) ?_
  exact ⟨h.2.2.2.2.1, ⟨h.1.to (by rw [mU_cell (by omega)]) (by rw [mU_cell (by omega)]) (by rw [mU_cell (by omega)]), h.2.1.to (fun a u v => by rw [mU_cell (by omega)]), by rw [mU_cell (by omega)]; exact h.2.2.1, fun s' hs => (h.2.2.2.1 s' hs).to (by rw [mU_cell (by omega)]) (by rw [mU_cell (by omega)]) (by rw [mU_cell (by omega)]), Tv.nil⟩, fun a u => by rw [mU_cell (by omega)]⟩
theorem CR_scr3 {M M' : mI} {σ : sG} (h : CR M σ) (p2 : ∀ a, a ≠ 33 → a ≠ 34 → a ≠ 35 → M' a = M a) : CR M' σ ∧ ∀ a, 37 ≤ a → M' a = M a := ⟨h.to (fun a u => p2 a (by omega) (by omega) (by omega)), fun a u => p2 a (by omega) (by omega) (by omega)⟩
theorem c_WC_fault {Γ : gX} {l : Launch} {M : mI} {σ : sG} {k : Int} (h : CR M σ) (ok : OkV σ) (hk : iR k) : Cn Γ l i_WC_fault R0 51 [.ref (gb Γ + 0), vI k] M (pI (fun r M' => r = q_fault σ k ∧ CR M' σ ∧ ∀ a, 37 ≤ a → M' a = M a)) := by
  refine cn_intro (L := [some (.ref (gb Γ + 0)), some (vI k)]) yo_WC_fault.1 rfl (Nat.le_of_ble_eq_true rfl) rfl (fun X hX hR => ?_)
  refine g_iload_n hX d_WC_fault_0 rfl ?_
  refine g_iconst hX d_WC_fault_1 ?_
  refine g_iconst hX d_WC_fault_2 ?_
  refine g_callS hX yo_WC_isIn q_219 d_WC_fault_3 (c_WC_isIn hk (by omega) (by omega)) rfl rfl (by decide) (Nat.le_of_ble_eq_true rfl) ⟨Nat.zero_le _, Nat.zero_le _⟩ (k_int fun r_3 M_3 ir_3 hp_3 => ?_)
  obtain ⟨er_3, eM_3⟩ := hp_3; replace er_3 := er_3.symm; replace eM_3 := eM_3.symm; subst er_3; subst eM_3
  refine g_if_ne 13 hX d_WC_fault_6 (by decide) (by first | omega | exact ite_iR) (fun h_6 => ?_) (fun h_6 => ?_)
  · have z1 := ite_ne h_6
    refine g_aload_n hX d_WC_fault_13 rfl ?_
    refine g_getR hX fl_WC_67 d_WC_fault_14 ⟨rfl, by decide⟩ rfl rfl ?_
    refine g_callV hX yo_Reader_readThrough q_586 d_WC_fault_17 (c_Reader_readThrough h.2.2.2.2 ok.2.2.2 h.1 ok.1.2.1) rfl rfl ⟨rfl, by decide⟩ rfl (by decide) (Nat.le_of_ble_eq_true rfl) ⟨Nat.zero_le _, Nat.zero_le _⟩ (k_void fun M_17 hp_17 => ?_)
    obtain ⟨p1, p2⟩ := hp_17
    obtain ⟨e1, e2⟩ := CR_scr3 h p2
    obtain ⟨m1, m2, m3⟩ := p1.1
    dsimp only at m1 m2 m3
    refine g_aload_n hX d_WC_fault_20 rfl ?_
    refine g_getR hX fl_WC_67 d_WC_fault_21 ⟨rfl, by decide⟩ rfl rfl ?_
    refine g_callV hX yo_Reader_hasFault q_640 d_WC_fault_24 c_Reader_hasFault rfl rfl ⟨rfl, by decide⟩ rfl (by decide) (Nat.le_of_ble_eq_true rfl) ⟨Nat.zero_le _, Nat.zero_le _⟩ (k_int fun r_24 M_24 ir_24 hp_24 => ?_)
    obtain ⟨er_24, eM_24⟩ := hp_24; replace er_24 := er_24.symm; replace eM_24 := eM_24.symm; subst er_24; subst eM_24
    refine g_if_ne 34 hX d_WC_fault_27 (by decide) (by split <;> omega) (fun h_27 => ?_) (fun h_27 => ?_)
    · have z2 : M_17 33 5 ≠ 0 := by split at h_27; exact absurd rfl h_27; assumption
      refine g_iload_n hX d_WC_fault_34 rfl ?_
      refine g_if_ne 48 hX d_WC_fault_35 (by decide) (by first | omega | exact ite_iR) (fun h_35 => ?_) (fun h_35 => ?_)
      · refine g_aload_n hX d_WC_fault_48 rfl ?_
        refine g_getR hX fl_WC_67 d_WC_fault_49 ⟨rfl, by decide⟩ rfl rfl ?_
        refine g_callV hX yo_Reader_faultReason q_645 d_WC_fault_52 c_Reader_faultReason rfl rfl ⟨rfl, by decide⟩ rfl (by decide) (Nat.le_of_ble_eq_true rfl) ⟨Nat.zero_le _, Nat.zero_le _⟩ (k_int fun r_52 M_52 ir_52 hp_52 => ?_)
        obtain ⟨er_52, eM_52⟩ := hp_52; replace er_52 := er_52.symm; replace eM_52 := eM_52.symm; subst er_52; subst eM_52
        try rw [m2] at ir_52 ⊢
        refine g_iret hX hR d_WC_fault_55 (by omega) ?_
        unfold q_fault; rw [if_neg (fun z => z z1), if_neg (by omega)]; first | (rw [if_pos (by omega)]; exact ⟨rfl, e1, e2⟩) | (rw [if_neg (by omega)]; exact ⟨rfl, e1, e2⟩)
      · refine g_aload_n hX d_WC_fault_38 rfl ?_
        refine g_getR hX fl_WC_67 d_WC_fault_39 ⟨rfl, by decide⟩ rfl rfl ?_
        refine g_callV hX yo_Reader_faultPlace q_641 d_WC_fault_42 c_Reader_faultPlace rfl rfl ⟨rfl, by decide⟩ rfl (by decide) (Nat.le_of_ble_eq_true rfl) ⟨Nat.zero_le _, Nat.zero_le _⟩ (k_int fun r_42 M_42 ir_42 hp_42 => ?_)
        obtain ⟨er_42, eM_42⟩ := hp_42; replace er_42 := er_42.symm; replace eM_42 := eM_42.symm; subst er_42; subst eM_42
        rw [m3 (by omega)] at ir_42 ⊢
        refine g_goto 55 hX d_WC_fault_45 (by decide) ?_
        try rw [m2] at ir_52 ⊢
        refine g_iret hX hR d_WC_fault_55 (by omega) ?_
        unfold q_fault; rw [if_neg (fun z => z z1), if_neg (by omega)]; first | (rw [if_pos (by omega)]; exact ⟨rfl, e1, e2⟩) | (rw [if_neg (by omega)]; exact ⟨rfl, e1, e2⟩)
    · have z2 : M_17 33 5 = 0 := by split at h_27; assumption; exact absurd h_27 (by decide)
      refine g_sipush hX d_WC_fault_30 rfl ?_
      refine g_iret hX hR d_WC_fault_33 (by omega) ?_
      unfold q_fault; rw [if_neg (fun z => z z1), if_pos (by omega)]; exact ⟨rfl, e1, e2⟩
  · have z1 := ite_eq h_6
    refine g_sipush hX d_WC_fault_9 rfl ?_
    refine g_iret hX hR d_WC_fault_12 (by omega) ?_
    unfold q_fault; rw [if_pos z1]; exact ⟨rfl, h, fun _ _ => rfl⟩
theorem prs_n {t : List Int} {g : Int → Int} {M : mI} (h : Rm M (prT t g)) : 0 ≤ (prT t g).2.2.2.1 ∧ (prT t g).2.2.2.1 ≤ 60 := ⟨h.2.2.1, h.2.2.2.1⟩
theorem c_WC_read {Γ : gX} {l : Launch} {M : mI} {σ : sG} (h : CR M σ) (ok : OkV σ) : Cn Γ l i_WC_read R0 51 [.ref (gb Γ + 0)] M (pI (fun r M' => r = (q_read σ).1 ∧ CR M' (q_read σ).2 ∧ ∀ a, 37 ≤ a → M' a = M a)) := by
  refine cn_intro (L := [some (.ref (gb Γ + 0))]) yo_WC_read.1 rfl (Nat.le_of_ble_eq_true rfl) rfl (fun X hX hR => ?_)
  refine g_aload_n hX d_WC_read_0 rfl ?_
  refine g_getR hX fl_WC_67 d_WC_read_1 ⟨rfl, by decide⟩ rfl rfl ?_
  refine g_callV hX yo_Reader_readThrough q_586 d_WC_read_4 (c_Reader_readThrough h.2.2.2.2 ok.2.2.2 h.1 ok.1.2.1) rfl rfl ⟨rfl, by decide⟩ rfl (by decide) (Nat.le_of_ble_eq_true rfl) ⟨Nat.zero_le _, Nat.zero_le _⟩ (k_void fun M_4 hp_4 => ?_)
  obtain ⟨p1, p2⟩ := hp_4
  obtain ⟨e1, e2⟩ := CR_scr3 h p2
  obtain ⟨m1, m2, m3⟩ := p1.1
  dsimp only at m1 m2 m3
  have hsv := p1.sv
  obtain ⟨n1, n2⟩ := prs_n p1
  refine g_aload_n hX d_WC_read_7 rfl ?_
  refine g_getR hX fl_WC_67 d_WC_read_8 ⟨rfl, by decide⟩ rfl rfl ?_
  refine g_callV hX yo_Reader_hasFault q_640 d_WC_read_11 c_Reader_hasFault rfl rfl ⟨rfl, by decide⟩ rfl (by decide) (Nat.le_of_ble_eq_true rfl) ⟨Nat.zero_le _, Nat.zero_le _⟩ (k_int fun r_11 M_11 ir_11 hp_11 => ?_)
  obtain ⟨er_11, eM_11⟩ := hp_11; replace er_11 := er_11.symm; replace eM_11 := eM_11.symm; subst er_11; subst eM_11
  refine g_if_eq 21 hX d_WC_read_14 (by decide) (by split <;> omega) (fun h_14 => ?_) (fun h_14 => ?_)
  · have z2 : M_4 33 5 = 0 := by split at h_14; assumption; exact absurd h_14 (by decide)
    refine g_aload_n hX d_WC_read_21 rfl ?_
    refine g_getR hX fl_WC_26 d_WC_read_22 ⟨rfl, by decide⟩ rfl rfl ?_
    refine g_aload_n hX d_WC_read_25 rfl ?_
    refine g_getR hX fl_WC_10 d_WC_read_26 ⟨rfl, by decide⟩ rfl rfl ?_
    refine g_callV hX yo_History_record q_226 d_WC_read_29 (c_History_record (s := σ.1) e1.2.1 e1.1) rfl rfl ⟨rfl, by decide⟩ rfl (by decide) (Nat.le_of_ble_eq_true rfl) ⟨Nat.zero_le _, Nat.zero_le _⟩ (k_void fun M_29 hp_29 => ?_)
    obtain ⟨p3, p4⟩ := hp_29
    have w1 := hsv.to (p4 34 (by omega)) (p4 35 (by omega)) (p4 36 (by omega))
    have hv3 := e1.1.to (p4 1 (by omega)) (p4 2 (by omega)) (p4 3 (by omega))
    refine g_aload_n hX d_WC_read_32 rfl ?_
    refine g_getR hX fl_WC_10 d_WC_read_33 ⟨rfl, by decide⟩ rfl rfl ?_
    refine g_aload_n hX d_WC_read_36 rfl ?_
    refine g_getR hX fl_WC_67 d_WC_read_37 ⟨rfl, by decide⟩ rfl rfl ?_
    refine g_callV hX yo_Reader_told q_653 d_WC_read_40 c_Reader_told rfl rfl ⟨rfl, by decide⟩ rfl (by decide) (Nat.le_of_ble_eq_true rfl) ⟨Nat.zero_le _, Nat.zero_le _⟩ (k_ref fun o_40 M_40 hp_40 => ?_)
    obtain ⟨er_40, eM_40⟩ := hp_40; replace er_40 := er_40.symm; replace eM_40 := eM_40.symm; subst er_40; subst eM_40
    refine g_callV hX yo_State_copyRowFrom q_657 d_WC_read_43 (c_State_copyRowFrom st_1 st_34 (by omega) w1) rfl rfl ⟨rfl, by decide⟩ rfl (by decide) (Nat.le_of_ble_eq_true rfl) ⟨Nat.zero_le _, Nat.zero_le _⟩ (k_void fun M_43 hp_43 => ?_)
    obtain ⟨p5, p6, p7⟩ := hp_43
    refine g_aload_n hX d_WC_read_46 rfl ?_
    refine g_getR hX fl_WC_10 d_WC_read_47 ⟨rfl, by decide⟩ rfl rfl ?_
    refine g_callV hX yo_State_size q_222 d_WC_read_50 (c_State_size st_1) rfl rfl ⟨rfl, by decide⟩ rfl (by decide) (Nat.le_of_ble_eq_true rfl) ⟨Nat.zero_le _, Nat.zero_le _⟩ (k_int fun r_50 M_50 ir_50 hp_50 => ?_)
    obtain ⟨er_50, eM_50⟩ := hp_50; replace er_50 := er_50.symm; replace eM_50 := eM_50.symm; subst er_50; subst eM_50
    refine g_iret hX hR d_WC_read_53 (by omega) ?_
    unfold q_read; rw [if_neg (by omega)]; exact ⟨p5, CR_rec e1 ⟨p5, n1, n2, p6, fun j u v => by rw [p7 (1 + 2) (by omega) (by omega)]; exact hv3.2.2.2.2 j u v⟩ (p3.to (fun a u v => p7 a (by omega) (by omega))) (fun a u => by rw [p7 a (by omega) (by omega)]; exact p4 a (by omega)), fun a u => by rw [p7 a (by omega) (by omega), p4 a (by omega)]; exact e2 a u⟩
  · have z2 : M_4 33 5 ≠ 0 := by split at h_14; exact absurd rfl h_14; assumption
    refine g_sipush hX d_WC_read_17 rfl ?_
    refine g_iret hX hR d_WC_read_20 (by omega) ?_
    unfold q_read; rw [if_pos (by omega)]; exact ⟨rfl, e1, e2⟩
