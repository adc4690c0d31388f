/-! the reference: the row, candidates -/
theorem Ns.s {M : mI} {n : Int} {x g : Int → Int} (h : Ns M n x g) : M 38 1 = g 0 ∧ M 38 2 = g 1 ∧ M 38 3 = g 2 ∧ M 38 4 = g 3 ∧ M 38 5 = g 4 := ⟨h.2.2.2.2 0 (by omega) (by omega), h.2.2.2.2 1 (by omega) (by omega), h.2.2.2.2 2 (by omega) (by omega), h.2.2.2.2 3 (by omega) (by omega), h.2.2.2.2 4 (by omega) (by omega)⟩
theorem MR_rec {M M' : mI} {σ : sG} {s : sS} (h : MR M σ) (h1 : Ns M' s.1 s.2.1 s.2.2) (h2 : Nh M' (hPush σ.2.1 σ.1)) (he : ∀ a, 40 ≤ a → a ≤ 41 → M' a = M a) (h3 : M' 37 3 = M 37 3) (h6 : M' 37 6 = M 37 6) : MR M' (chg σ s) := by
  obtain ⟨z1, z2, z3, z4, z5⟩ := h
  exact ⟨h1, h2, by rw [h3]; exact z3, fun s' hs => (z4 s' hs).to (he 40 (by omega) (by omega)), z5.to h6 (he 41 (by omega) (by omega))⟩
theorem c_Mo_put {Γ : gX} {l : Launch} {M : mI} {σ : sG} {c : Int} (h : MR M σ) (hc : iR c) : Cn Γ l i_Mo_put R0 51 [.ref (gb Γ + 37), vI c] M (pI (fun r M' => r = (q_put σ c).1 ∧ MR M' (q_put σ c).2 ∧ ∀ a, a < 37 → M' a = M a)) := by
  refine cn_intro (L := [some (.ref (gb Γ + 37)), some (vI c)]) yo_Mo_put.1 rfl (Nat.le_of_ble_eq_true rfl) rfl (fun X hX hR => ?_)
  obtain ⟨v1, v2, v3, v4, v5⟩ := id h.1
  refine g_iload_n hX d_Mo_put_0 rfl ?_
  refine g_iconst hX d_Mo_put_1 ?_
  refine g_bipush hX d_Mo_put_2 rfl ?_
  refine g_callS hX yo_Mo_in q_732 d_Mo_put_4 (c_Mo_in hc (by omega) (by omega)) rfl rfl (by decide) (Nat.le_of_ble_eq_true rfl) ⟨Nat.zero_le _, Nat.zero_le _⟩ (k_int fun r_4 M_4 ir_4 hp_4 => ?_)
  obtain ⟨er_4, eM_4⟩ := hp_4; replace er_4 := er_4.symm; replace eM_4 := eM_4.symm; subst er_4; subst eM_4
  refine g_if_ne 14 hX d_Mo_put_7 (by decide) (by first | omega | exact ite_iR) (fun h_7 => ?_) (fun h_7 => ?_)
  · have z1 := ite_ne h_7
    refine g_aload_n hX d_Mo_put_14 rfl ?_
    refine g_getR hX fl_Mo_7 d_Mo_put_15 ⟨rfl, by decide⟩ rfl rfl ?_
    refine g_iconst hX d_Mo_put_18 ?_
    refine g_iald hX d_Mo_put_19 ⟨rfl, by decide⟩ (by omega) (fun r_19 => ?_)
    refine g_bipush hX d_Mo_put_20 rfl ?_
    refine g_icmp_ne 29 hX d_Mo_put_22 (by decide) (by omega) (by omega) (fun h_22 => ?_) (fun h_22 => ?_)
    · refine g_aload_n hX d_Mo_put_29 rfl ?_
      refine g_callV hX yo_Mo_changes q_735 d_Mo_put_30 (c_Mo_changes h.2.1 h.1) rfl rfl ⟨rfl, by decide⟩ rfl (by decide) (Nat.le_of_ble_eq_true rfl) ⟨Nat.zero_le _, Nat.zero_le _⟩ (k_void fun M_30 hp_30 => ?_)
      obtain ⟨p1, p2, p3⟩ := hp_30
      have w1 := h.1.to (p2 38 (by decide) (by decide))
      obtain ⟨y1, y2, y3, y4, y5⟩ := id w1
      refine g_aload_n hX d_Mo_put_33 rfl ?_
      refine g_getR hX fl_Mo_7 d_Mo_put_34 ⟨rfl, by decide⟩ rfl rfl ?_
      refine g_bipush hX d_Mo_put_37 rfl ?_
      refine g_aload_n hX d_Mo_put_39 rfl ?_
      refine g_getR hX fl_Mo_7 d_Mo_put_40 ⟨rfl, by decide⟩ rfl rfl ?_
      refine g_iconst hX d_Mo_put_43 ?_
      refine g_iald hX d_Mo_put_44 ⟨rfl, by decide⟩ (by omega) (fun r_44 => ?_)
      rw [y1] at r_44 ⊢
      refine g_iadd hX d_Mo_put_45 ?_
      refine g_iload_n hX d_Mo_put_46 rfl ?_
      refine g_iast hX d_Mo_put_47 ⟨rfl, by decide⟩ (by omega) (by omega) ?_
      refine g_aload_n hX d_Mo_put_48 rfl ?_
      refine g_getR hX fl_Mo_7 d_Mo_put_49 ⟨rfl, by decide⟩ rfl rfl ?_
      refine g_iconst hX d_Mo_put_52 ?_
      refine g_dup2 hX d_Mo_put_53 rfl rfl ?_
      refine g_iald hX d_Mo_put_54 ⟨rfl, by decide⟩ (by omega) (fun r_54 => ?_)
      rw [mU_slot (by omega), y1] at r_54 ⊢
      refine g_iconst hX d_Mo_put_55 ?_
      refine g_iadd hX d_Mo_put_56 ?_
      refine g_iast hX d_Mo_put_57 ⟨rfl, by decide⟩ (by omega) (by omega) ?_
      refine g_aload_n hX d_Mo_put_58 rfl ?_
      refine g_getR hX fl_Mo_7 d_Mo_put_59 ⟨rfl, by decide⟩ rfl rfl ?_
      refine g_iconst hX d_Mo_put_62 ?_
      refine g_iald hX d_Mo_put_63 ⟨rfl, by decide⟩ (by omega) (fun r_63 => ?_)
      rw [mU_self] at r_63 ⊢
      refine g_iret hX hR d_Mo_put_64 (by omega) ?_
      unfold q_put; rw [if_neg (fun z => z z1), if_neg (by omega)]; refine ⟨rfl, MR_rec h ⟨by rw [mU_self], by show 0 ≤ σ.1.1 + 1; omega, by show σ.1.1 + 1 ≤ 60; omega, fun j u v => ?_, fun j u v => by rw [mU_slot (by omega), mU_slot (by omega)]; exact y5 j u v⟩ (p1.to (by rw [mU_cell (by decide), mU_cell (by decide)]) (by rw [mU_cell (by decide), mU_cell (by decide)])) (fun a u v => by rw [mU_cell (by omega), mU_cell (by omega)]; exact p2 a (by omega) (by omega)) (by rw [mU_cell (by decide), mU_cell (by decide)]; exact p3 3 (by decide)) (by rw [mU_cell (by decide), mU_cell (by decide)]; exact p3 6 (by decide)), fun a u => by rw [mU_cell (by omega), mU_cell (by omega)]; exact p2 a (by omega) (by omega)⟩; rw [mU_slot (by omega), mU_if]; by_cases zj : j = σ.1.1; (rw [if_pos (by omega)]; exact (if_pos zj).symm); (rw [if_neg (by omega)]; exact (y4 j u (by have zv : j < σ.1.1 + 1 := v; omega)).trans (if_neg zj).symm)
    · refine g_sipush hX d_Mo_put_25 rfl ?_
      refine g_iret hX hR d_Mo_put_28 (by omega) ?_
      unfold q_put; rw [if_neg (fun z => z z1), if_pos (by omega)]; exact ⟨rfl, h, fun _ _ => rfl⟩
  · have z1 := ite_eq h_7
    refine g_sipush hX d_Mo_put_10 rfl ?_
    refine g_iret hX hR d_Mo_put_13 (by omega) ?_
    unfold q_put; rw [if_pos z1]; exact ⟨rfl, h, fun _ _ => rfl⟩
theorem c_Mo_drop {Γ : gX} {l : Launch} {M : mI} {σ : sG} {c : Int} (h : MR M σ) (hc : iR c) : Cn Γ l i_Mo_drop R0 51 [.ref (gb Γ + 37), vI c] M (pI (fun r M' => r = (q_drop σ c).1 ∧ MR M' (q_drop σ c).2 ∧ ∀ a, a < 37 → M' a = M a)) := by
  refine cn_intro (L := [some (.ref (gb Γ + 37)), some (vI c)]) yo_Mo_drop.1 rfl (Nat.le_of_ble_eq_true rfl) rfl (fun X hX hR => ?_)
  obtain ⟨v1, v2, v3, v4, v5⟩ := id h.1
  refine g_iload_n hX d_Mo_drop_0 rfl ?_
  refine g_iconst hX d_Mo_drop_1 ?_
  refine g_bipush hX d_Mo_drop_2 rfl ?_
  refine g_callS hX yo_Mo_in q_732 d_Mo_drop_4 (c_Mo_in hc (by omega) (by omega)) rfl rfl (by decide) (Nat.le_of_ble_eq_true rfl) ⟨Nat.zero_le _, Nat.zero_le _⟩ (k_int fun r_4 M_4 ir_4 hp_4 => ?_)
  obtain ⟨er_4, eM_4⟩ := hp_4; replace er_4 := er_4.symm; replace eM_4 := eM_4.symm; subst er_4; subst eM_4
  refine g_if_ne 14 hX d_Mo_drop_7 (by decide) (by first | omega | exact ite_iR) (fun h_7 => ?_) (fun h_7 => ?_)
  · have z1 := ite_ne h_7
    refine g_iload_n hX d_Mo_drop_14 rfl ?_
    refine g_aload_n hX d_Mo_drop_15 rfl ?_
    refine g_getR hX fl_Mo_7 d_Mo_drop_16 ⟨rfl, by decide⟩ rfl rfl ?_
    refine g_iconst hX d_Mo_drop_19 ?_
    refine g_iald hX d_Mo_drop_20 ⟨rfl, by decide⟩ (by omega) (fun r_20 => ?_)
    refine g_icmp_le 28 hX d_Mo_drop_21 (by decide) (by omega) (by omega) (fun h_21 => ?_) (fun h_21 => ?_)
    · refine g_aload_n hX d_Mo_drop_28 rfl ?_
      refine g_callV hX yo_Mo_changes q_735 d_Mo_drop_29 (c_Mo_changes h.2.1 h.1) rfl rfl ⟨rfl, by decide⟩ rfl (by decide) (Nat.le_of_ble_eq_true rfl) ⟨Nat.zero_le _, Nat.zero_le _⟩ (k_void fun M_29 hp_29 => ?_)
      obtain ⟨p1, p2, p3⟩ := hp_29
      have w1 := h.1.to (p2 38 (by decide) (by decide))
      obtain ⟨y1, y2, y3, y4, y5⟩ := id w1
      refine g_aload_n hX d_Mo_drop_32 rfl ?_
      refine g_getR hX fl_Mo_7 d_Mo_drop_33 ⟨rfl, by decide⟩ rfl rfl ?_
      refine g_iconst hX d_Mo_drop_36 ?_
      refine g_dup2 hX d_Mo_drop_37 rfl rfl ?_
      refine g_iald hX d_Mo_drop_38 ⟨rfl, by decide⟩ (by omega) (fun r_38 => ?_)
      rw [y1] at r_38 ⊢
      refine g_iload_n hX d_Mo_drop_39 rfl ?_
      refine g_isub hX d_Mo_drop_40 ?_
      refine g_iast hX d_Mo_drop_41 ⟨rfl, by decide⟩ (by omega) (by omega) ?_
      refine g_aload_n hX d_Mo_drop_42 rfl ?_
      refine g_getR hX fl_Mo_7 d_Mo_drop_43 ⟨rfl, by decide⟩ rfl rfl ?_
      refine g_iconst hX d_Mo_drop_46 ?_
      refine g_iald hX d_Mo_drop_47 ⟨rfl, by decide⟩ (by omega) (fun r_47 => ?_)
      rw [mU_self] at r_47 ⊢
      refine g_iret hX hR d_Mo_drop_48 (by omega) ?_
      unfold q_drop; rw [if_neg (fun z => z z1), if_neg (by omega)]; exact ⟨rfl, MR_rec h ⟨by rw [mU_self], by show 0 ≤ σ.1.1 - c; omega, by show σ.1.1 - c ≤ 60; omega, fun j u v => by rw [mU_slot (by omega)]; exact y4 j u (by have zv : j < σ.1.1 - c := v; omega), fun j u v => by rw [mU_slot (by omega)]; exact y5 j u v⟩ (p1.to (by rw [mU_cell (by decide)]) (by rw [mU_cell (by decide)])) (fun a u v => by rw [mU_cell (by omega)]; exact p2 a (by omega) (by omega)) (by rw [mU_cell (by decide)]; exact p3 3 (by decide)) (by rw [mU_cell (by decide)]; exact p3 6 (by decide)), fun a u => by rw [mU_cell (by omega)]; exact p2 a (by omega) (by omega)⟩
    · refine g_sipush hX d_Mo_drop_24 rfl ?_
      refine g_iret hX hR d_Mo_drop_27 (by omega) ?_
      unfold q_drop; rw [if_neg (fun z => z z1), if_pos (by omega)]; exact ⟨rfl, h, fun _ _ => rfl⟩
  · have z1 := ite_eq h_7
    refine g_sipush hX d_Mo_drop_10 rfl ?_
    refine g_iret hX hR d_Mo_drop_13 (by omega) ?_
    unfold q_drop; rw [if_pos z1]; exact ⟨rfl, h, fun _ _ => rfl⟩
theorem c_Mo_mend {Γ : gX} {l : Launch} {M : mI} {σ : sG} {p c : Int} (h : MR M σ) (hp : iR p) (hc : iR c) : Cn Γ l i_Mo_mend R0 51 [.ref (gb Γ + 37), vI p, vI c] M (pI (fun r M' => r = (q_mend σ p c).1 ∧ MR M' (q_mend σ p c).2 ∧ ∀ a, a < 37 → M' a = M a)) := by
  refine cn_intro (L := [some (.ref (gb Γ + 37)), some (vI p), some (vI c), none]) yo_Mo_mend.1 rfl (Nat.le_of_ble_eq_true rfl) rfl (fun X hX hR => ?_)
  obtain ⟨v1, v2, v3, v4, v5⟩ := id h.1
  refine g_aload_n hX d_Mo_mend_0 rfl ?_
  refine g_iload_n hX d_Mo_mend_1 rfl ?_
  refine g_callV hX yo_Mo_isPlace q_747 d_Mo_mend_2 (c_Mo_isPlace hp) rfl rfl ⟨rfl, by decide⟩ rfl (by decide) (Nat.le_of_ble_eq_true rfl) ⟨Nat.zero_le _, Nat.zero_le _⟩ (k_int fun r_2 M_2 ir_2 hp_2 => ?_)
  obtain ⟨er_2, eM_2⟩ := hp_2; replace er_2 := er_2.symm; replace eM_2 := eM_2.symm; subst er_2; subst eM_2
  refine g_if_eq 18 hX d_Mo_mend_5 (by decide) (by first | omega | exact ite_iR) (fun h_5 => ?_) (fun h_5 => ?_)
  · have z1 := ite_eq h_5
    rw [v1] at z1
    refine g_sipush hX d_Mo_mend_18 rfl ?_
    refine g_iret hX hR d_Mo_mend_21 (by omega) ?_
    unfold q_mend; rw [if_pos (by omega)]; exact ⟨rfl, h, fun _ _ => rfl⟩
  · have z1 := ite_ne h_5
    rw [v1] at z1
    refine g_iload_n hX d_Mo_mend_8 rfl ?_
    refine g_iconst hX d_Mo_mend_9 ?_
    refine g_bipush hX d_Mo_mend_10 rfl ?_
    refine g_callS hX yo_Mo_in q_732 d_Mo_mend_12 (c_Mo_in hc (by omega) (by omega)) rfl rfl (by decide) (Nat.le_of_ble_eq_true rfl) ⟨Nat.zero_le _, Nat.zero_le _⟩ (k_int fun r_12 M_12 ir_12 hp_12 => ?_)
    obtain ⟨er_12, eM_12⟩ := hp_12; replace er_12 := er_12.symm; replace eM_12 := eM_12.symm; subst er_12; subst eM_12
    refine g_if_ne 22 hX d_Mo_mend_15 (by decide) (by first | omega | exact ite_iR) (fun h_15 => ?_) (fun h_15 => ?_)
    · have z2 := ite_ne h_15
      refine g_aload_n hX d_Mo_mend_22 rfl ?_
      refine g_callV hX yo_Mo_changes q_735 d_Mo_mend_23 (c_Mo_changes h.2.1 h.1) rfl rfl ⟨rfl, by decide⟩ rfl (by decide) (Nat.le_of_ble_eq_true rfl) ⟨Nat.zero_le _, Nat.zero_le _⟩ (k_void fun M_23 hp_23 => ?_)
      obtain ⟨p1, p2, p3⟩ := hp_23
      have w1 := h.1.to (p2 38 (by decide) (by decide))
      obtain ⟨y1, y2, y3, y4, y5⟩ := id w1
      refine g_aload_n hX d_Mo_mend_26 rfl ?_
      refine g_getR hX fl_Mo_7 d_Mo_mend_27 ⟨rfl, by decide⟩ rfl rfl ?_
      refine g_bipush hX d_Mo_mend_30 rfl ?_
      refine g_iload_n hX d_Mo_mend_32 rfl ?_
      refine g_iadd hX d_Mo_mend_33 ?_
      refine g_iald hX d_Mo_mend_34 ⟨rfl, by decide⟩ (by omega) (fun r_34 => ?_)
      rw [y4 p (by omega) (by omega)] at r_34 ⊢
      refine g_istore_n hX d_Mo_mend_35 (by decide) ?_
      refine g_aload_n hX d_Mo_mend_36 rfl ?_
      refine g_getR hX fl_Mo_7 d_Mo_mend_37 ⟨rfl, by decide⟩ rfl rfl ?_
      refine g_bipush hX d_Mo_mend_40 rfl ?_
      refine g_iload_n hX d_Mo_mend_42 rfl ?_
      refine g_iadd hX d_Mo_mend_43 ?_
      refine g_iload_n hX d_Mo_mend_44 rfl ?_
      refine g_iast hX d_Mo_mend_45 ⟨rfl, by decide⟩ (by omega) (by omega) ?_
      refine g_iload_n hX d_Mo_mend_46 rfl ?_
      refine g_iret hX hR d_Mo_mend_47 (by omega) ?_
      unfold q_mend; rw [if_neg (by omega)]; refine ⟨rfl, MR_rec h ⟨by rw [mU_slot (by omega)]; exact y1, v2, v3, fun j u v => ?_, fun j u v => by rw [mU_slot (by omega)]; exact y5 j u v⟩ (p1.to (by rw [mU_cell (by decide)]) (by rw [mU_cell (by decide)])) (fun a u v => by rw [mU_cell (by omega)]; exact p2 a (by omega) (by omega)) (by rw [mU_cell (by decide)]; exact p3 3 (by decide)) (by rw [mU_cell (by decide)]; exact p3 6 (by decide)), fun a u => by rw [mU_cell (by omega)]; exact p2 a (by omega) (by omega)⟩; rw [mU_if]; by_cases zj : j = p; (rw [if_pos (by omega)]; exact (if_pos zj).symm); (rw [if_neg (by omega)]; exact (y4 j u v).trans (if_neg zj).symm)
    · have z2 := ite_eq h_15
      refine g_sipush hX d_Mo_mend_18 rfl ?_
      refine g_iret hX hR d_Mo_mend_21 (by omega) ?_
      unfold q_mend; rw [if_pos (by omega)]; exact ⟨rfl, h, fun _ _ => rfl⟩
theorem c_Mo_set {Γ : gX} {l : Launch} {M : mI} {σ : sG} {w c : Int} (h : MR M σ) (hw : iR w) (hc : iR c) : Cn Γ l i_Mo_set R0 51 [.ref (gb Γ + 37), vI w, vI c] M (pI (fun r M' => r = (q_set σ w c).1 ∧ MR M' (q_set σ w c).2 ∧ ∀ a, a < 37 → M' a = M a)) := by
  refine cn_intro (L := [some (.ref (gb Γ + 37)), some (vI w), some (vI c), none]) yo_Mo_set.1 rfl (Nat.le_of_ble_eq_true rfl) rfl (fun X hX hR => ?_)
  obtain ⟨v1, v2, v3, v4, v5⟩ := id h.1
  refine g_iload_n hX d_Mo_set_0 rfl ?_
  refine g_iconst hX d_Mo_set_1 ?_
  refine g_iconst hX d_Mo_set_2 ?_
  refine g_callS hX yo_Mo_in q_732 d_Mo_set_3 (c_Mo_in hw (by omega) (by omega)) rfl rfl (by decide) (Nat.le_of_ble_eq_true rfl) ⟨Nat.zero_le _, Nat.zero_le _⟩ (k_int fun r_3 M_3 ir_3 hp_3 => ?_)
  obtain ⟨er_3, eM_3⟩ := hp_3; replace er_3 := er_3.symm; replace eM_3 := eM_3.symm; subst er_3; subst eM_3
  refine g_if_eq 24 hX d_Mo_set_6 (by decide) (by first | omega | exact ite_iR) (fun h_6 => ?_) (fun h_6 => ?_)
  · have z1 := ite_eq h_6
    refine g_sipush hX d_Mo_set_24 rfl ?_
    refine g_iret hX hR d_Mo_set_27 (by omega) ?_
    unfold q_set; rw [if_pos (by omega)]; exact ⟨rfl, h, fun _ _ => rfl⟩
  · have z1 := ite_ne h_6
    refine g_iload_n hX d_Mo_set_9 rfl ?_
    refine g_iload_n hX d_Mo_set_10 rfl ?_
    refine g_callS hX yo_Mo_least q_755 d_Mo_set_11 (c_Mo_least hw) rfl rfl (by decide) (Nat.le_of_ble_eq_true rfl) ⟨Nat.zero_le _, Nat.zero_le _⟩ (k_int fun r_11 M_11 ir_11 hp_11 => ?_)
    obtain ⟨er_11, eM_11⟩ := hp_11; replace er_11 := er_11.symm; replace eM_11 := eM_11.symm; subst er_11; subst eM_11
    refine g_iload_n hX d_Mo_set_14 rfl ?_
    refine g_callS hX yo_Mo_most q_758 d_Mo_set_15 (c_Mo_most hw) rfl rfl (by decide) (Nat.le_of_ble_eq_true rfl) ⟨Nat.zero_le _, Nat.zero_le _⟩ (k_int fun r_15 M_15 ir_15 hp_15 => ?_)
    obtain ⟨er_15, eM_15⟩ := hp_15; replace er_15 := er_15.symm; replace eM_15 := eM_15.symm; subst er_15; subst eM_15
    refine g_callS hX yo_Mo_in q_732 d_Mo_set_18 (c_Mo_in hc ir_11 ir_15) rfl rfl (by decide) (Nat.le_of_ble_eq_true rfl) ⟨Nat.zero_le _, Nat.zero_le _⟩ (k_int fun r_18 M_18 ir_18 hp_18 => ?_)
    obtain ⟨er_18, eM_18⟩ := hp_18; replace er_18 := er_18.symm; replace eM_18 := eM_18.symm; subst er_18; subst eM_18
    refine g_if_ne 28 hX d_Mo_set_21 (by decide) (by first | omega | exact ite_iR) (fun h_21 => ?_) (fun h_21 => ?_)
    · have z2 := ite_ne h_21
      refine g_aload_n hX d_Mo_set_28 rfl ?_
      refine g_callV hX yo_Mo_changes q_735 d_Mo_set_29 (c_Mo_changes h.2.1 h.1) rfl rfl ⟨rfl, by decide⟩ rfl (by decide) (Nat.le_of_ble_eq_true rfl) ⟨Nat.zero_le _, Nat.zero_le _⟩ (k_void fun M_29 hp_29 => ?_)
      obtain ⟨p1, p2, p3⟩ := hp_29
      have w1 := h.1.to (p2 38 (by decide) (by decide))
      obtain ⟨y1, y2, y3, y4, y5⟩ := id w1
      refine g_aload_n hX d_Mo_set_32 rfl ?_
      refine g_getR hX fl_Mo_7 d_Mo_set_33 ⟨rfl, by decide⟩ rfl rfl ?_
      refine g_iconst hX d_Mo_set_36 ?_
      refine g_iload_n hX d_Mo_set_37 rfl ?_
      refine g_iadd hX d_Mo_set_38 ?_
      refine g_iald hX d_Mo_set_39 ⟨rfl, by decide⟩ (by omega) (fun r_39 => ?_)
      rw [y5 w (by omega) (by omega)] at r_39 ⊢
      refine g_istore_n hX d_Mo_set_40 (by decide) ?_
      refine g_aload_n hX d_Mo_set_41 rfl ?_
      refine g_getR hX fl_Mo_7 d_Mo_set_42 ⟨rfl, by decide⟩ rfl rfl ?_
      refine g_iconst hX d_Mo_set_45 ?_
      refine g_iload_n hX d_Mo_set_46 rfl ?_
      refine g_iadd hX d_Mo_set_47 ?_
      refine g_iload_n hX d_Mo_set_48 rfl ?_
      refine g_iast hX d_Mo_set_49 ⟨rfl, by decide⟩ (by omega) (by omega) ?_
      refine g_iload_n hX d_Mo_set_50 rfl ?_
      refine g_iret hX hR d_Mo_set_51 (by omega) ?_
      unfold q_set; rw [if_neg (by omega)]; refine ⟨rfl, MR_rec h ⟨by rw [mU_slot (by omega)]; exact y1, v2, v3, fun j u v => by rw [mU_slot (by omega)]; exact y4 j u v, fun j u v => ?_⟩ (p1.to (by rw [mU_cell (by decide)]) (by rw [mU_cell (by decide)])) (fun a u v => by rw [mU_cell (by omega)]; exact p2 a (by omega) (by omega)) (by rw [mU_cell (by decide)]; exact p3 3 (by decide)) (by rw [mU_cell (by decide)]; exact p3 6 (by decide)), fun a u => by rw [mU_cell (by omega)]; exact p2 a (by omega) (by omega)⟩; rw [mU_if]; by_cases zj : j = w; (rw [if_pos (by omega)]; exact (if_pos zj).symm); (rw [if_neg (by omega)]; exact (y5 j u v).trans (if_neg zj).symm)
    · have z2 := ite_eq h_21
      refine g_sipush hX d_Mo_set_24 rfl ?_
      refine g_iret hX hR d_Mo_set_27 (by omega) ?_
      unfold q_set; rw [if_pos (by omega)]; exact ⟨rfl, h, fun _ _ => rfl⟩
theorem c_Mo_letter {Γ : gX} {l : Launch} {M : mI} {σ : sG} {p : Int} (h : MR M σ) (hp : iR p) : Cn Γ l i_Mo_letter R0 51 [.ref (gb Γ + 37), vI p] M (pI (fun r M' => r = q_letter σ p ∧ M' = M)) := by
  refine cn_intro (L := [some (.ref (gb Γ + 37)), some (vI p)]) yo_Mo_letter.1 rfl (Nat.le_of_ble_eq_true rfl) rfl (fun X hX hR => ?_)
  obtain ⟨v1, v2, v3, v4, v5⟩ := id h.1
  refine g_aload_n hX d_Mo_letter_0 rfl ?_
  refine g_iload_n hX d_Mo_letter_1 rfl ?_
  refine g_callV hX yo_Mo_isPlace q_747 d_Mo_letter_2 (c_Mo_isPlace hp) rfl rfl ⟨rfl, by decide⟩ rfl (by decide) (Nat.le_of_ble_eq_true rfl) ⟨Nat.zero_le _, Nat.zero_le _⟩ (k_int fun r_2 M_2 ir_2 hp_2 => ?_)
  obtain ⟨er_2, eM_2⟩ := hp_2; replace er_2 := er_2.symm; replace eM_2 := eM_2.symm; subst er_2; subst eM_2
  refine g_if_eq 20 hX d_Mo_letter_5 (by decide) (by first | omega | exact ite_iR) (fun h_5 => ?_) (fun h_5 => ?_)
  · have z1 := ite_eq h_5
    rw [v1] at z1
    refine g_sipush hX d_Mo_letter_20 rfl ?_
    refine g_iret hX hR d_Mo_letter_23 (by omega) ?_
    unfold q_letter; first | (rw [if_pos z1]; exact ⟨rfl, rfl⟩) | (rw [if_neg z1]; exact ⟨rfl, rfl⟩)
  · have z1 := ite_ne h_5
    rw [v1] at z1
    refine g_aload_n hX d_Mo_letter_8 rfl ?_
    refine g_getR hX fl_Mo_7 d_Mo_letter_9 ⟨rfl, by decide⟩ rfl rfl ?_
    refine g_bipush hX d_Mo_letter_12 rfl ?_
    refine g_iload_n hX d_Mo_letter_14 rfl ?_
    refine g_iadd hX d_Mo_letter_15 ?_
    refine g_iald hX d_Mo_letter_16 ⟨rfl, by decide⟩ (by omega) (fun r_16 => ?_)
    rw [v4 p (by omega) (by omega)] at r_16 ⊢
    refine g_goto 23 hX d_Mo_letter_17 (by decide) ?_
    refine g_iret hX hR d_Mo_letter_23 (by omega) ?_
    unfold q_letter; first | (rw [if_pos z1]; exact ⟨rfl, rfl⟩) | (rw [if_neg z1]; exact ⟨rfl, rfl⟩)
theorem c_Mo_reach {Γ : gX} {l : Launch} {M : mI} {n p d : Int} {x g : Int → Int} (hv : Ns M n x g) (hp : 0 ≤ p ∧ p ≤ n) (hd : 1 ≤ d ∧ d ≤ p) : Cn Γ l i_Mo_reach R0 51 [.ref (gb Γ + 37), vI p, vI d] M (pI (fun r M' => r = rc n x p d ∧ M' = M)) := by
  refine cn_intro (L := [some (.ref (gb Γ + 37)), some (vI p), some (vI d), none]) yo_Mo_reach.1 rfl (Nat.le_of_ble_eq_true rfl) rfl (fun X hX hR => ?_)
  obtain ⟨v1, v2, v3, v4, v5⟩ := id hv
  have LOOP : ∀ (q : Nat) (i : Int), (20 - i).toNat = q → 0 ≤ i → i ≤ 20 → p + i ≤ n → rc n x p d = min 20 (i + lk n x (p + i) d) → G Γ X 4 (R0, 51, 0, 0) 2 [some (.ref (gb Γ + 37)), some (vI p), some (vI d), some (vI i)] [] M := by
    intro q
    induction q with
    | zero =>
      intro i hq h0 h1 h2 h3
      have zl := lk_nonneg n x (p + i) d
      refine g_iload_n hX d_Mo_reach_2 rfl ?_
      refine g_bipush hX d_Mo_reach_3 rfl ?_
      refine g_icmp_ge 53 hX d_Mo_reach_5 (by decide) (by omega) (by omega) (fun h_5 => ?_) (fun h_5 => ?_)
      · have z0 : i = rc n x p d := by omega
        refine g_iload_n hX d_Mo_reach_53 rfl ?_
        refine g_iret hX hR d_Mo_reach_54 (by omega) ?_
        exact ⟨z0, rfl⟩
      · exact absurd h_5 (by omega)
    | succ q ih =>
      intro i hq h0 h1 h2 h3
      have zl := lk_nonneg n x (p + i) d
      refine g_iload_n hX d_Mo_reach_2 rfl ?_
      refine g_bipush hX d_Mo_reach_3 rfl ?_
      refine g_icmp_ge 53 hX d_Mo_reach_5 (by decide) (by omega) (by omega) (fun h_5 => ?_) (fun h_5 => ?_)
      · exact absurd h_5 (by omega)
      · refine g_iload_n hX d_Mo_reach_8 rfl ?_
        refine g_iload_n hX d_Mo_reach_9 rfl ?_
        refine g_iadd hX d_Mo_reach_10 ?_
        refine g_aload_n hX d_Mo_reach_11 rfl ?_
        refine g_getR hX fl_Mo_7 d_Mo_reach_12 ⟨rfl, by decide⟩ rfl rfl ?_
        refine g_iconst hX d_Mo_reach_15 ?_
        refine g_iald hX d_Mo_reach_16 ⟨rfl, by decide⟩ (by omega) (fun r_16 => ?_)
        refine g_icmp_ge 53 hX d_Mo_reach_17 (by decide) (by omega) (by omega) (fun h_17 => ?_) (fun h_17 => ?_)
        · have z0 : i = rc n x p d := by (rw [lk_end (by omega)] at h3; omega)
          refine g_iload_n hX d_Mo_reach_53 rfl ?_
          refine g_iret hX hR d_Mo_reach_54 (by omega) ?_
          exact ⟨z0, rfl⟩
        · refine g_aload_n hX d_Mo_reach_20 rfl ?_
          refine g_getR hX fl_Mo_7 d_Mo_reach_21 ⟨rfl, by decide⟩ rfl rfl ?_
          refine g_bipush hX d_Mo_reach_24 rfl ?_
          refine g_iload_n hX d_Mo_reach_26 rfl ?_
          refine g_iadd hX d_Mo_reach_27 ?_
          refine g_iload_n hX d_Mo_reach_28 rfl ?_
          refine g_iadd hX d_Mo_reach_29 ?_
          refine g_iald hX d_Mo_reach_30 ⟨rfl, by decide⟩ (by omega) (fun r_30 => ?_)
          refine g_aload_n hX d_Mo_reach_31 rfl ?_
          refine g_getR hX fl_Mo_7 d_Mo_reach_32 ⟨rfl, by decide⟩ rfl rfl ?_
          refine g_bipush hX d_Mo_reach_35 rfl ?_
          refine g_iload_n hX d_Mo_reach_37 rfl ?_
          refine g_iadd hX d_Mo_reach_38 ?_
          refine g_iload_n hX d_Mo_reach_39 rfl ?_
          refine g_iadd hX d_Mo_reach_40 ?_
          refine g_iload_n hX d_Mo_reach_41 rfl ?_
          refine g_isub hX d_Mo_reach_42 ?_
          refine g_iald hX d_Mo_reach_43 ⟨rfl, by decide⟩ (by omega) (fun r_43 => ?_)
          refine g_icmp_ne 53 hX d_Mo_reach_44 (by decide) (by omega) (by omega) (fun h_44 => ?_) (fun h_44 => ?_)
          · have z0 : i = rc n x p d := by (rw [lk_ne (by omega) (by rw [← v4 (p + i) (by omega) (by omega), ← v4 (p + i - d) (by omega) (by omega), show 6 + (p + i) = 6 + p + i by omega, show 6 + (p + i - d) = 6 + p + i - d by omega]; exact h_44)] at h3; omega)
            refine g_iload_n hX d_Mo_reach_53 rfl ?_
            refine g_iret hX hR d_Mo_reach_54 (by omega) ?_
            exact ⟨z0, rfl⟩
          · refine g_iinc hX d_Mo_reach_47 rfl (by decide) ?_
            refine g_goto 2 hX d_Mo_reach_50 (by decide) ?_
            refine ih (i + 1) (by omega) (by omega) (by omega) (by omega) ?_
            rw [h3, lk_eq (by omega) (by rw [← v4 (p + i) (by omega) (by omega), ← v4 (p + i - d) (by omega) (by omega), show 6 + (p + i) = 6 + p + i by omega, show 6 + (p + i - d) = 6 + p + i - d by omega]; exact h_44), show p + i + 1 = p + (i + 1) by omega]; omega
  refine g_iconst hX d_Mo_reach_0 ?_
  refine g_istore_n hX d_Mo_reach_1 (by decide) ?_
  refine LOOP _ 0 rfl (by omega) (by omega) (by omega) ?_
  unfold rc; rw [Int.add_zero, Int.zero_add]
theorem c_Mo_isCandidate {Γ : gX} {l : Launch} {M : mI} {n p d : Int} {x g : Int → Int} (hv : Ns M n x g) (hg : Og g) (hp : 0 ≤ p ∧ p ≤ n) (hd : 1 ≤ d ∧ d ≤ p) : Cn Γ l i_Mo_isCandidate R0 51 [.ref (gb Γ + 37), vI p, vI d] M (pI (fun r M' => r = (if d ≤ g 0 ∧ 2 ≤ lk n x p d then 1 else 0) ∧ M' = M)) := by
  refine cn_intro (L := [some (.ref (gb Γ + 37)), some (vI p), some (vI d)]) yo_Mo_isCandidate.1 rfl (Nat.le_of_ble_eq_true rfl) rfl (fun X hX hR => ?_)
  obtain ⟨v1, v2, v3, v4, v5⟩ := id hv
  obtain ⟨s0, s1, s2, s3, s4⟩ := hv.s
  obtain ⟨g0, g1, g2, g3, g4⟩ := id hg
  have zr : rc n x p d = min 20 (lk n x p d) := rfl
  refine g_iload_n hX d_Mo_isCandidate_0 rfl ?_
  refine g_aload_n hX d_Mo_isCandidate_1 rfl ?_
  refine g_getR hX fl_Mo_7 d_Mo_isCandidate_2 ⟨rfl, by decide⟩ rfl rfl ?_
  refine g_iconst hX d_Mo_isCandidate_5 ?_
  refine g_iald hX d_Mo_isCandidate_6 ⟨rfl, by decide⟩ (by omega) (fun r_6 => ?_)
  refine g_icmp_gt 29 hX d_Mo_isCandidate_7 (by decide) (by omega) (by omega) (fun h_7 => ?_) (fun h_7 => ?_)
  · refine g_iconst hX d_Mo_isCandidate_29 ?_
    refine g_zret hX hR d_Mo_isCandidate_30 (by omega) ?_
    exact ⟨by first | rw [if_pos (by omega)] | rw [if_neg (by omega)], rfl⟩
  · refine g_iload_n hX d_Mo_isCandidate_10 rfl ?_
    refine g_iload_n hX d_Mo_isCandidate_11 rfl ?_
    refine g_icmp_gt 29 hX d_Mo_isCandidate_12 (by decide) (by omega) (by omega) (fun h_12 => ?_) (fun h_12 => ?_)
    · exact absurd h_12 (by omega)
    · refine g_aload_n hX d_Mo_isCandidate_15 rfl ?_
      refine g_iload_n hX d_Mo_isCandidate_16 rfl ?_
      refine g_iload_n hX d_Mo_isCandidate_17 rfl ?_
      refine g_callV hX yo_Mo_reach q_777 d_Mo_isCandidate_18 (c_Mo_reach hv hp hd) rfl rfl ⟨rfl, by decide⟩ rfl (by decide) (Nat.le_of_ble_eq_true rfl) ⟨Nat.zero_le _, Nat.zero_le _⟩ (k_int fun r_18 M_18 ir_18 hp_18 => ?_)
      obtain ⟨er_18, eM_18⟩ := hp_18; replace er_18 := er_18.symm; replace eM_18 := eM_18.symm; subst er_18; subst eM_18
      refine g_iconst hX d_Mo_isCandidate_21 ?_
      refine g_icmp_le 29 hX d_Mo_isCandidate_22 (by decide) (by omega) (by omega) (fun h_22 => ?_) (fun h_22 => ?_)
      · refine g_iconst hX d_Mo_isCandidate_29 ?_
        refine g_zret hX hR d_Mo_isCandidate_30 (by omega) ?_
        exact ⟨by first | rw [if_pos (by omega)] | rw [if_neg (by omega)], rfl⟩
      · refine g_iconst hX d_Mo_isCandidate_25 ?_
        refine g_goto 30 hX d_Mo_isCandidate_26 (by decide) ?_
        refine g_zret hX hR d_Mo_isCandidate_30 (by omega) ?_
        exact ⟨by first | rw [if_pos (by omega)] | rw [if_neg (by omega)], rfl⟩
theorem c_Mo_candidates {Γ : gX} {l : Launch} {M : mI} {n p : Int} {x g : Int → Int} (hv : Ns M n x g) (hg : Og g) (hp : 0 ≤ p ∧ p ≤ n) : Cn Γ l i_Mo_candidates R0 51 [.ref (gb Γ + 37), vI p] M (pI (fun r M' => r = cNum n x g p ∧ M' = M)) := by
  refine cn_intro (L := [some (.ref (gb Γ + 37)), some (vI p), none, none]) yo_Mo_candidates.1 rfl (Nat.le_of_ble_eq_true rfl) rfl (fun X hX hR => ?_)
  obtain ⟨v1, v2, v3, v4, v5⟩ := id hv
  have LOOP : ∀ (q : Nat) (d c : Int) (k : Nat), p.toNat - k = q → d = k + 1 → k ≤ p.toNat → c = cN n x g p k → G Γ X 4 (R0, 51, 0, 0) 4 [some (.ref (gb Γ + 37)), some (vI p), some (vI c), some (vI d)] [] M := by
    intro q
    induction q with
    | zero =>
      intro d c k hq hd hk hc
      subst hd
      have zb := cN_b n x g p k
      refine g_iload_n hX d_Mo_candidates_4 rfl ?_
      refine g_iload_n hX d_Mo_candidates_5 rfl ?_
      refine g_icmp_gt 32 hX d_Mo_candidates_6 (by decide) (by omega) (by omega) (fun h_6 => ?_) (fun h_6 => ?_)
      · refine g_iload_n hX d_Mo_candidates_32 rfl ?_
        refine g_iret hX hR d_Mo_candidates_33 (by omega) ?_
        refine ⟨?_, rfl⟩; unfold cNum; rw [show p.toNat = k by omega]; exact hc
      · exact absurd h_6 (by omega)
    | succ q ih =>
      intro d c k hq hd hk hc
      subst hd
      have zb := cN_b n x g p k
      refine g_iload_n hX d_Mo_candidates_4 rfl ?_
      refine g_iload_n hX d_Mo_candidates_5 rfl ?_
      refine g_icmp_gt 32 hX d_Mo_candidates_6 (by decide) (by omega) (by omega) (fun h_6 => ?_) (fun h_6 => ?_)
      · exact absurd h_6 (by omega)
      · refine g_iload_n hX d_Mo_candidates_9 rfl ?_
        refine g_aload_n hX d_Mo_candidates_10 rfl ?_
        refine g_iload_n hX d_Mo_candidates_11 rfl ?_
        refine g_iload_n hX d_Mo_candidates_12 rfl ?_
        refine g_callV hX yo_Mo_isCandidate q_773 d_Mo_candidates_13 (c_Mo_isCandidate hv hg hp ⟨by omega, by omega⟩) rfl rfl ⟨rfl, by decide⟩ rfl (by decide) (Nat.le_of_ble_eq_true rfl) ⟨Nat.zero_le _, Nat.zero_le _⟩ (k_int fun r_13 M_13 ir_13 hp_13 => ?_)
        obtain ⟨er_13, eM_13⟩ := hp_13; replace er_13 := er_13.symm; replace eM_13 := eM_13.symm; subst er_13; subst eM_13
        refine g_if_eq 23 hX d_Mo_candidates_16 (by decide) (by first | omega | exact ite_iR) (fun h_16 => ?_) (fun h_16 => ?_)
        · have z1 := ite_eq h_16
          have zc : cN n x g p (k + 1) = cN n x g p k := by rw [cN_succ, if_neg z1]
          refine g_iconst hX d_Mo_candidates_23 ?_
          refine g_iadd hX d_Mo_candidates_24 ?_
          refine g_istore_n hX d_Mo_candidates_25 (by decide) ?_
          refine g_iinc hX d_Mo_candidates_26 rfl (by decide) ?_
          refine g_goto 4 hX d_Mo_candidates_29 (by decide) ?_
          exact ih _ _ (k + 1) (by omega) (by omega) (by omega) (by omega)
        · have z1 := ite_ne h_16
          have zc : cN n x g p (k + 1) = cN n x g p k + 1 := by rw [cN_succ, if_pos z1]
          refine g_iconst hX d_Mo_candidates_19 ?_
          refine g_goto 24 hX d_Mo_candidates_20 (by decide) ?_
          refine g_iadd hX d_Mo_candidates_24 ?_
          refine g_istore_n hX d_Mo_candidates_25 (by decide) ?_
          refine g_iinc hX d_Mo_candidates_26 rfl (by decide) ?_
          refine g_goto 4 hX d_Mo_candidates_29 (by decide) ?_
          exact ih _ _ (k + 1) (by omega) (by omega) (by omega) (by omega)
  refine g_iconst hX d_Mo_candidates_0 ?_
  refine g_istore_n hX d_Mo_candidates_1 (by decide) ?_
  refine g_iconst hX d_Mo_candidates_2 ?_
  refine g_istore_n hX d_Mo_candidates_3 (by decide) ?_
  exact LOOP _ _ _ 0 rfl (by omega) (by omega) rfl
theorem cl_pre (n : Int) (x g : Int → Int) (p : Int) (k m : Nat) : ∃ t, cl n x g p (k + m) = cl n x g p k ++ t := by
  induction m with
  | zero => exact ⟨[], by rw [List.append_nil]; rfl⟩
  | succ m ih =>
    obtain ⟨t, ht⟩ := ih
    rw [← Nat.add_assoc, cl_succ, ht]
    split
    · exact ⟨t ++ [((k + m : Nat) + 1 : Int)], by rw [List.append_assoc]⟩
    · exact ⟨t, rfl⟩
theorem cl_get {n : Int} {x g : Int → Int} {p : Int} {k : Nat} (h : k < p.toNat) (hc : (k + 1 : Int) ≤ g 0 ∧ 2 ≤ lk n x p (k + 1)) (hl : ((cl n x g p k).length : Int) < g 2) : (cl n x g p k).length < (cs n x g p).length ∧ (cs n x g p).getD (cl n x g p k).length 0 = k + 1 := by
  obtain ⟨t, ht⟩ := cl_pre n x g p (k + 1) (p.toNat - (k + 1))
  have e : cs n x g p = cl n x g p k ++ ((k + 1 : Int) :: t) := by
    unfold cs
    rw [show p.toNat = k + 1 + (p.toNat - (k + 1)) by omega, ht, cl_succ, if_pos ⟨hc, hl⟩, List.append_assoc]
    rfl
  rw [e]
  refine ⟨by simp, ?_⟩
  rw [List.getD_eq_getElem?_getD, List.getElem?_append_right (Nat.le_refl _), Nat.sub_self]
  rfl
theorem c_Mo_distance {Γ : gX} {l : Launch} {M : mI} {n p i : Int} {x g : Int → Int} (hv : Ns M n x g) (hg : Og g) (hp : 0 ≤ p ∧ p ≤ n) (hi : 0 ≤ i ∧ iR i) : Cn Γ l i_Mo_distance R0 51 [.ref (gb Γ + 37), vI p, vI i] M (pI (fun r M' => r = (if ((cs n x g p).length : Int) ≤ i then -10004 else (cs n x g p).getD i.toNat 0) ∧ M' = M)) := by
  refine cn_intro (L := [some (.ref (gb Γ + 37)), some (vI p), some (vI i), none, none]) yo_Mo_distance.1 rfl (Nat.le_of_ble_eq_true rfl) rfl (fun X hX hR => ?_)
  obtain ⟨v1, v2, v3, v4, v5⟩ := id hv
  obtain ⟨s0, s1, s2, s3, s4⟩ := hv.s
  obtain ⟨g0, g1, g2, g3, g4⟩ := id hg
  have LOOP : ∀ (q : Nat) (d c : Int) (k : Nat), p.toNat - k = q → d = k + 1 → k ≤ p.toNat → c = ((cl n x g p k).length : Int) → c ≤ i → G Γ X 5 (R0, 51, 0, 0) 5 [some (.ref (gb Γ + 37)), some (vI p), some (vI i), some (vI c), some (vI d)] [] M := by
    intro q
    induction q with
    | zero =>
      intro d c k hq hd hk hc hci
      subst hd
      refine g_iload hX d_Mo_distance_5 rfl ?_
      refine g_iload_n hX d_Mo_distance_7 rfl ?_
      refine g_icmp_gt 48 hX d_Mo_distance_8 (by decide) (by omega) (by omega) (fun h_8 => ?_) (fun h_8 => ?_)
      · refine g_sipush hX d_Mo_distance_48 rfl ?_
        refine g_iret hX hR d_Mo_distance_51 (by omega) ?_
        refine ⟨?_, rfl⟩; unfold cs; rw [show p.toNat = k by omega, if_pos (by omega)]
      · exact absurd h_8 (by omega)
    | succ q ih =>
      intro d c k hq hd hk hc hci
      subst hd
      have zl := cl_len n x g p p.toNat g2.1
      have zl2 := cl_len n x g p k g2.1
      refine g_iload hX d_Mo_distance_5 rfl ?_
      refine g_iload_n hX d_Mo_distance_7 rfl ?_
      refine g_icmp_gt 48 hX d_Mo_distance_8 (by decide) (by omega) (by omega) (fun h_8 => ?_) (fun h_8 => ?_)
      · exact absurd h_8 (by omega)
      · refine g_iload_n hX d_Mo_distance_11 rfl ?_
        refine g_aload_n hX d_Mo_distance_12 rfl ?_
        refine g_getR hX fl_Mo_7 d_Mo_distance_13 ⟨rfl, by decide⟩ rfl rfl ?_
        refine g_iconst hX d_Mo_distance_16 ?_
        refine g_iald hX d_Mo_distance_17 ⟨rfl, by decide⟩ (by omega) (fun r_17 => ?_)
        refine g_icmp_ge 48 hX d_Mo_distance_18 (by decide) (by omega) (by omega) (fun h_18 => ?_) (fun h_18 => ?_)
        · refine g_sipush hX d_Mo_distance_48 rfl ?_
          refine g_iret hX hR d_Mo_distance_51 (by omega) ?_
          refine ⟨?_, rfl⟩; rw [if_pos (by unfold cs; omega)]
        · refine g_aload_n hX d_Mo_distance_21 rfl ?_
          refine g_iload_n hX d_Mo_distance_22 rfl ?_
          refine g_iload hX d_Mo_distance_23 rfl ?_
          refine g_callV hX yo_Mo_isCandidate q_773 d_Mo_distance_25 (c_Mo_isCandidate hv hg hp ⟨by omega, by omega⟩) rfl rfl ⟨rfl, by decide⟩ rfl (by decide) (Nat.le_of_ble_eq_true rfl) ⟨Nat.zero_le _, Nat.zero_le _⟩ (k_int fun r_25 M_25 ir_25 hp_25 => ?_)
          obtain ⟨er_25, eM_25⟩ := hp_25; replace er_25 := er_25.symm; replace eM_25 := eM_25.symm; subst er_25; subst eM_25
          refine g_if_eq 42 hX d_Mo_distance_28 (by decide) (by first | omega | exact ite_iR) (fun h_28 => ?_) (fun h_28 => ?_)
          · have z1 := ite_eq h_28
            have zc : cl n x g p (k + 1) = cl n x g p k := by rw [cl_succ, if_neg (fun zz => z1 zz.1)]
            refine g_iinc hX d_Mo_distance_42 rfl (by decide) ?_
            refine g_goto 5 hX d_Mo_distance_45 (by decide) ?_
            exact ih _ _ (k + 1) (by omega) (by omega) (by omega) (by rw [zc]; first | omega | (simp; omega)) (by omega)
          · have z1 := ite_ne h_28
            have zc : cl n x g p (k + 1) = cl n x g p k ++ [(k + 1 : Int)] := by rw [cl_succ, if_pos ⟨z1, by omega⟩]
            refine g_iload_n hX d_Mo_distance_31 rfl ?_
            refine g_iload_n hX d_Mo_distance_32 rfl ?_
            refine g_icmp_ne 39 hX d_Mo_distance_33 (by decide) (by omega) (by omega) (fun h_33 => ?_) (fun h_33 => ?_)
            · refine g_iinc hX d_Mo_distance_39 rfl (by decide) ?_
              refine g_iinc hX d_Mo_distance_42 rfl (by decide) ?_
              refine g_goto 5 hX d_Mo_distance_45 (by decide) ?_
              exact ih _ _ (k + 1) (by omega) (by omega) (by omega) (by rw [zc]; first | omega | (simp; omega)) (by omega)
            · refine g_iload hX d_Mo_distance_36 rfl ?_
              refine g_iret hX hR d_Mo_distance_38 (by omega) ?_
              refine ⟨?_, rfl⟩; have zg := cl_get (by omega) z1 (by omega); rw [if_neg (by omega), show i.toNat = (cl n x g p k).length by omega]; exact zg.2.symm
  refine g_iconst hX d_Mo_distance_0 ?_
  refine g_istore_n hX d_Mo_distance_1 (by decide) ?_
  refine g_iconst hX d_Mo_distance_2 ?_
  refine g_istore hX d_Mo_distance_3 (by decide) ?_
  exact LOOP _ _ _ 0 rfl (by omega) (by omega) rfl (by omega)
theorem c_Mo_candidate {Γ : gX} {l : Launch} {M : mI} {σ : sG} {p i w : Int} (h : MR M σ) (ok : OkV σ) (hp : iR p) (hi : iR i) (hw : iR w) : Cn Γ l i_Mo_candidate R0 51 [.ref (gb Γ + 37), vI p, vI i, vI w] M (pI (fun r M' => r = q_candidate σ p i w ∧ M' = M)) := by
  refine cn_intro (L := [some (.ref (gb Γ + 37)), some (vI p), some (vI i), some (vI w), none]) yo_Mo_candidate.1 rfl (Nat.le_of_ble_eq_true rfl) rfl (fun X hX hR => ?_)
  obtain ⟨v1, v2, v3, v4, v5⟩ := id h.1
  refine g_aload_n hX d_Mo_candidate_0 rfl ?_
  refine g_iload_n hX d_Mo_candidate_1 rfl ?_
  refine g_callV hX yo_Mo_isPlace q_747 d_Mo_candidate_2 (c_Mo_isPlace hp) rfl rfl ⟨rfl, by decide⟩ rfl (by decide) (Nat.le_of_ble_eq_true rfl) ⟨Nat.zero_le _, Nat.zero_le _⟩ (k_int fun r_2 M_2 ir_2 hp_2 => ?_)
  obtain ⟨er_2, eM_2⟩ := hp_2; replace er_2 := er_2.symm; replace eM_2 := eM_2.symm; subst er_2; subst eM_2
  refine g_if_eq 21 hX d_Mo_candidate_5 (by decide) (by first | omega | exact ite_iR) (fun h_5 => ?_) (fun h_5 => ?_)
  · have z1 := ite_eq h_5
    rw [v1] at z1
    refine g_sipush hX d_Mo_candidate_21 rfl ?_
    refine g_iret hX hR d_Mo_candidate_24 (by omega) ?_
    refine ⟨?_, rfl⟩; unfold q_candidate; rw [if_pos (by omega)]
  · have z1 := ite_ne h_5
    rw [v1] at z1
    refine g_iload_n hX d_Mo_candidate_8 rfl ?_
    refine g_if_lt 21 hX d_Mo_candidate_9 (by decide) (by first | omega | exact ite_iR) (fun h_9 => ?_) (fun h_9 => ?_)
    · refine g_sipush hX d_Mo_candidate_21 rfl ?_
      refine g_iret hX hR d_Mo_candidate_24 (by omega) ?_
      refine ⟨?_, rfl⟩; unfold q_candidate; rw [if_pos (by omega)]
    · refine g_iload_n hX d_Mo_candidate_12 rfl ?_
      refine g_iconst hX d_Mo_candidate_13 ?_
      refine g_iconst hX d_Mo_candidate_14 ?_
      refine g_callS hX yo_Mo_in q_732 d_Mo_candidate_15 (c_Mo_in hw (by omega) (by omega)) rfl rfl (by decide) (Nat.le_of_ble_eq_true rfl) ⟨Nat.zero_le _, Nat.zero_le _⟩ (k_int fun r_15 M_15 ir_15 hp_15 => ?_)
      obtain ⟨er_15, eM_15⟩ := hp_15; replace er_15 := er_15.symm; replace eM_15 := eM_15.symm; subst er_15; subst eM_15
      refine g_if_ne 25 hX d_Mo_candidate_18 (by decide) (by first | omega | exact ite_iR) (fun h_18 => ?_) (fun h_18 => ?_)
      · have z2 := ite_ne h_18
        refine g_aload_n hX d_Mo_candidate_25 rfl ?_
        refine g_iload_n hX d_Mo_candidate_26 rfl ?_
        refine g_iload_n hX d_Mo_candidate_27 rfl ?_
        refine g_callV hX yo_Mo_distance q_769 d_Mo_candidate_28 (c_Mo_distance h.1 ok.1.2.1 ⟨z1.1, by omega⟩ ⟨by omega, hi⟩) rfl rfl ⟨rfl, by decide⟩ rfl (by decide) (Nat.le_of_ble_eq_true rfl) ⟨Nat.zero_le _, Nat.zero_le _⟩ (k_int fun r_28 M_28 ir_28 hp_28 => ?_)
        obtain ⟨er, eM⟩ := hp_28
        subst eM
        have zq : (((cs σ.1.1 σ.1.2.1 σ.1.2.2 p).length : Int) ≤ i ∧ r_28 = -10004) ∨ (¬ ((cs σ.1.1 σ.1.2.1 σ.1.2.2 p).length : Int) ≤ i ∧ r_28 = (cs σ.1.1 σ.1.2.1 σ.1.2.2 p).getD i.toNat 0 ∧ 1 ≤ r_28 ∧ r_28 ≤ p) := by
          by_cases zl : ((cs σ.1.1 σ.1.2.1 σ.1.2.2 p).length : Int) ≤ i
          · rw [if_pos zl] at er; exact Or.inl ⟨zl, er⟩
          · rw [if_neg zl] at er
            have zg : (cs σ.1.1 σ.1.2.1 σ.1.2.2 p)[i.toNat]? = some r_28 := by rw [er, List.getD_eq_getElem?_getD, List.getElem?_eq_getElem (by omega)]; rfl
            have zh := cs_at zg z1.1
            exact Or.inr ⟨zl, er, zh.1, zh.2.1⟩
        refine g_istore hX d_Mo_candidate_31 (by decide) ?_
        refine g_iload hX d_Mo_candidate_33 rfl ?_
        refine g_if_lt 42 hX d_Mo_candidate_35 (by decide) (by first | omega | exact ite_iR) (fun h_35 => ?_) (fun h_35 => ?_)
        · refine g_iload hX d_Mo_candidate_42 rfl ?_
          refine g_goto 54 hX d_Mo_candidate_44 (by decide) ?_
          refine g_iret hX hR d_Mo_candidate_54 (by omega) ?_
          refine ⟨?_, rfl⟩; unfold q_candidate; rw [if_neg (by omega)]; rcases zq with ⟨ya, yb⟩ | ⟨ya, yb, yc, yd⟩; (first | (exact yb.trans (if_pos ya).symm) | (exfalso; omega)) ; (first | (exfalso; omega) | (rw [if_neg ya, if_pos (by omega)]; exact yb) | (rw [if_neg ya, if_neg (by omega), ← yb]))
        · refine g_iload_n hX d_Mo_candidate_38 rfl ?_
          refine g_if_ne 47 hX d_Mo_candidate_39 (by decide) (by first | omega | exact ite_iR) (fun h_39 => ?_) (fun h_39 => ?_)
          · refine g_aload_n hX d_Mo_candidate_47 rfl ?_
            refine g_iload_n hX d_Mo_candidate_48 rfl ?_
            refine g_iload hX d_Mo_candidate_49 rfl ?_
            refine g_callV hX yo_Mo_reach q_777 d_Mo_candidate_51 (c_Mo_reach h.1 ⟨z1.1, by omega⟩ ⟨by omega, by omega⟩) rfl rfl ⟨rfl, by decide⟩ rfl (by decide) (Nat.le_of_ble_eq_true rfl) ⟨Nat.zero_le _, Nat.zero_le _⟩ (k_int fun r_51 M_51 ir_51 hp_51 => ?_)
            obtain ⟨er_51, eM_51⟩ := hp_51; replace er_51 := er_51.symm; replace eM_51 := eM_51.symm; subst er_51; subst eM_51
            refine g_iret hX hR d_Mo_candidate_54 (by omega) ?_
            refine ⟨?_, rfl⟩; unfold q_candidate; rw [if_neg (by omega)]; rcases zq with ⟨ya, yb⟩ | ⟨ya, yb, yc, yd⟩; (first | (exact yb.trans (if_pos ya).symm) | (exfalso; omega)) ; (first | (exfalso; omega) | (rw [if_neg ya, if_pos (by omega)]; exact yb) | (rw [if_neg ya, if_neg (by omega), ← yb]))
          · refine g_iload hX d_Mo_candidate_42 rfl ?_
            refine g_goto 54 hX d_Mo_candidate_44 (by decide) ?_
            refine g_iret hX hR d_Mo_candidate_54 (by omega) ?_
            refine ⟨?_, rfl⟩; unfold q_candidate; rw [if_neg (by omega)]; rcases zq with ⟨ya, yb⟩ | ⟨ya, yb, yc, yd⟩; (first | (exact yb.trans (if_pos ya).symm) | (exfalso; omega)) ; (first | (exfalso; omega) | (rw [if_neg ya, if_pos (by omega)]; exact yb) | (rw [if_neg ya, if_neg (by omega), ← yb]))
      · have z2 := ite_eq h_18
        refine g_sipush hX d_Mo_candidate_21 rfl ?_
        refine g_iret hX hR d_Mo_candidate_24 (by omega) ?_
        refine ⟨?_, rfl⟩; unfold q_candidate; rw [if_pos (by omega)]
theorem Fb_snocP {f : Int → Int} {c d : Int} {l : List Int} (h : (Fb f c l l.length).1 < f d) : Fb f c (l ++ [d]) (l ++ [d]).length = (f d, d) := by
  have e : (l ++ [d]).getD l.length 0 = d := by
    rw [List.getD_eq_getElem?_getD, List.getElem?_append_right (Nat.le_refl _), Nat.sub_self]; rfl
  rw [show (l ++ [d]).length = l.length + 1 by simp, Fb_succ, Fb_app f c l [d] l.length (Nat.le_refl _), e, if_pos h]
theorem Fb_snocN {f : Int → Int} {c d : Int} {l : List Int} (h : ¬ (Fb f c l l.length).1 < f d) : Fb f c (l ++ [d]) (l ++ [d]).length = Fb f c l l.length := by
  have e : (l ++ [d]).getD l.length 0 = d := by
    rw [List.getD_eq_getElem?_getD, List.getElem?_append_right (Nat.le_refl _), Nat.sub_self]; rfl
  rw [show (l ++ [d]).length = l.length + 1 by simp, Fb_succ, Fb_app f c l [d] l.length (Nat.le_refl _), e, if_neg h]
theorem best_end {n p m b : Int} {x g : Int → Int} (hg : Og g) (hm : m = (Fb (rc n x p) 0 (cs n x g p) (cs n x g p).length).1) (hb : b = (Fb (rc n x p) 0 (cs n x g p) (cs n x g p).length).2) : bD n x g p = if m < g 1 then -10004 else b := by
  have z1 := hg.2.1
  have z := Fb_two (rc n x p) (g 1 - 1) (cs n x g p) (by omega) (cs n x g p).length
  rw [← hm] at z
  unfold bD bP
  by_cases hc : m < g 1
  · rw [if_pos hc]; rw [if_neg (by omega)] at z; rw [z]
  · rw [if_neg hc]; rw [if_pos (by omega)] at z; rw [z, hb]
theorem c_Mo_best {Γ : gX} {l : Launch} {M : mI} {n p : Int} {x g : Int → Int} (hv : Ns M n x g) (hg : Og g) (hp : 0 ≤ p ∧ p ≤ n) : Cn Γ l i_Mo_best R0 51 [.ref (gb Γ + 37), vI p] M (pI (fun r M' => r = bD n x g p ∧ M' = M)) := by
  refine cn_intro (L := [some (.ref (gb Γ + 37)), some (vI p), none, none, none, none]) yo_Mo_best.1 rfl (Nat.le_of_ble_eq_true rfl) rfl (fun X hX hR => ?_)
  obtain ⟨v1, v2, v3, v4, v5⟩ := id hv
  obtain ⟨s0, s1, s2, s3, s4⟩ := hv.s
  obtain ⟨g0, g1, g2, g3, g4⟩ := id hg
  have LOOP : ∀ (q : Nat) (d c m b : Int) (k : Nat), p.toNat - k = q → d = k + 1 → k ≤ p.toNat → c = ((cl n x g p k).length : Int) → m = (Fb (rc n x p) 0 (cl n x g p k) (cl n x g p k).length).1 → b = (Fb (rc n x p) 0 (cl n x g p k) (cl n x g p k).length).2 → (0 ≤ m ∧ m ≤ 20 ∧ iR b) → G Γ X 6 (R0, 51, 0, 0) 12 [some (.ref (gb Γ + 37)), some (vI p), some (vI b), some (vI m), some (vI c), some (vI d)] [] M := by
    intro q
    induction q with
    | zero =>
      intro d c m b k hq hd hk hc hm hb hmb
      subst hd
      refine g_iload hX d_Mo_best_12 rfl ?_
      refine g_iload_n hX d_Mo_best_14 rfl ?_
      refine g_icmp_gt 89 hX d_Mo_best_15 (by decide) (by omega) (by omega) (fun h_15 => ?_) (fun h_15 => ?_)
      · have zc : cs n x g p = cl n x g p k := by (unfold cs; rw [show p.toNat = k by omega])
        rw [← zc] at hm hb
        have zb := best_end hg hm hb
        refine g_iload_n hX d_Mo_best_89 rfl ?_
        refine g_aload_n hX d_Mo_best_90 rfl ?_
        refine g_getR hX fl_Mo_7 d_Mo_best_91 ⟨rfl, by decide⟩ rfl rfl ?_
        refine g_iconst hX d_Mo_best_94 ?_
        refine g_iald hX d_Mo_best_95 ⟨rfl, by decide⟩ (by omega) (fun r_95 => ?_)
        refine g_icmp_ge 105 hX d_Mo_best_96 (by decide) (by omega) (by omega) (fun h_96 => ?_) (fun h_96 => ?_)
        · refine g_iload_n hX d_Mo_best_105 rfl ?_
          refine g_iret hX hR d_Mo_best_106 (by omega) ?_
          refine ⟨?_, rfl⟩; rw [zb]; first | rw [if_pos (by omega)] | rw [if_neg (by omega)]
        · refine g_sipush hX d_Mo_best_99 rfl ?_
          refine g_goto 106 hX d_Mo_best_102 (by decide) ?_
          refine g_iret hX hR d_Mo_best_106 (by omega) ?_
          refine ⟨?_, rfl⟩; rw [zb]; first | rw [if_pos (by omega)] | rw [if_neg (by omega)]
      · exact absurd h_15 (by omega)
    | succ q ih =>
      intro d c m b k hq hd hk hc hm hb hmb
      subst hd
      have zl2 := cl_len n x g p k g2.1
      have zrb := @rc_b n x p (k + 1) hp.2
      refine g_iload hX d_Mo_best_12 rfl ?_
      refine g_iload_n hX d_Mo_best_14 rfl ?_
      refine g_icmp_gt 89 hX d_Mo_best_15 (by decide) (by omega) (by omega) (fun h_15 => ?_) (fun h_15 => ?_)
      · exact absurd h_15 (by omega)
      · refine g_iload hX d_Mo_best_18 rfl ?_
        refine g_aload_n hX d_Mo_best_20 rfl ?_
        refine g_getR hX fl_Mo_7 d_Mo_best_21 ⟨rfl, by decide⟩ rfl rfl ?_
        refine g_iconst hX d_Mo_best_24 ?_
        refine g_iald hX d_Mo_best_25 ⟨rfl, by decide⟩ (by omega) (fun r_25 => ?_)
        refine g_icmp_ge 89 hX d_Mo_best_26 (by decide) (by omega) (by omega) (fun h_26 => ?_) (fun h_26 => ?_)
        · have zc : cs n x g p = cl n x g p k := by (unfold cs; rw [show p.toNat = k + (p.toNat - k) by omega]; exact cl_stop (Or.inr (by omega)) _)
          rw [← zc] at hm hb
          have zb := best_end hg hm hb
          refine g_iload_n hX d_Mo_best_89 rfl ?_
          refine g_aload_n hX d_Mo_best_90 rfl ?_
          refine g_getR hX fl_Mo_7 d_Mo_best_91 ⟨rfl, by decide⟩ rfl rfl ?_
          refine g_iconst hX d_Mo_best_94 ?_
          refine g_iald hX d_Mo_best_95 ⟨rfl, by decide⟩ (by omega) (fun r_95 => ?_)
          refine g_icmp_ge 105 hX d_Mo_best_96 (by decide) (by omega) (by omega) (fun h_96 => ?_) (fun h_96 => ?_)
          · refine g_iload_n hX d_Mo_best_105 rfl ?_
            refine g_iret hX hR d_Mo_best_106 (by omega) ?_
            refine ⟨?_, rfl⟩; rw [zb]; first | rw [if_pos (by omega)] | rw [if_neg (by omega)]
          · refine g_sipush hX d_Mo_best_99 rfl ?_
            refine g_goto 106 hX d_Mo_best_102 (by decide) ?_
            refine g_iret hX hR d_Mo_best_106 (by omega) ?_
            refine ⟨?_, rfl⟩; rw [zb]; first | rw [if_pos (by omega)] | rw [if_neg (by omega)]
        · refine g_aload_n hX d_Mo_best_29 rfl ?_
          refine g_iload_n hX d_Mo_best_30 rfl ?_
          refine g_iload hX d_Mo_best_31 rfl ?_
          refine g_callV hX yo_Mo_isCandidate q_773 d_Mo_best_33 (c_Mo_isCandidate hv hg hp ⟨by omega, by omega⟩) rfl rfl ⟨rfl, by decide⟩ rfl (by decide) (Nat.le_of_ble_eq_true rfl) ⟨Nat.zero_le _, Nat.zero_le _⟩ (k_int fun r_33 M_33 ir_33 hp_33 => ?_)
          obtain ⟨er_33, eM_33⟩ := hp_33; replace er_33 := er_33.symm; replace eM_33 := eM_33.symm; subst er_33; subst eM_33
          refine g_if_eq 83 hX d_Mo_best_36 (by decide) (by first | omega | exact ite_iR) (fun h_36 => ?_) (fun h_36 => ?_)
          · have z1 := ite_eq h_36
            have zc : cl n x g p (k + 1) = cl n x g p k := by rw [cl_succ, if_neg (fun zz => z1 zz.1)]
            have zF : Fb (rc n x p) 0 (cl n x g p (k + 1)) (cl n x g p (k + 1)).length = Fb (rc n x p) 0 (cl n x g p k) (cl n x g p k).length := by rw [zc]
            refine g_iinc hX d_Mo_best_83 rfl (by decide) ?_
            refine g_goto 12 hX d_Mo_best_86 (by decide) ?_
            exact ih _ _ _ _ (k + 1) (by omega) (by omega) (by omega) (by rw [zc]; first | omega | (simp; omega)) (by first | exact hm.trans (congrArg Prod.fst zF).symm | exact (congrArg Prod.fst zF).symm | (exfalso; omega)) (by first | exact hb.trans (congrArg Prod.snd zF).symm | exact (congrArg Prod.snd zF).symm | (exfalso; omega)) (by omega)
          · have z1 := ite_ne h_36
            have zc : cl n x g p (k + 1) = cl n x g p k ++ [(k + 1 : Int)] := by rw [cl_succ, if_pos ⟨z1, by omega⟩]
            refine g_iinc hX d_Mo_best_39 rfl (by decide) ?_
            refine g_aload_n hX d_Mo_best_42 rfl ?_
            refine g_iload_n hX d_Mo_best_43 rfl ?_
            refine g_iload hX d_Mo_best_44 rfl ?_
            refine g_callV hX yo_Mo_reach q_777 d_Mo_best_46 (c_Mo_reach hv hp ⟨by omega, by omega⟩) rfl rfl ⟨rfl, by decide⟩ rfl (by decide) (Nat.le_of_ble_eq_true rfl) ⟨Nat.zero_le _, Nat.zero_le _⟩ (k_int fun r_46 M_46 ir_46 hp_46 => ?_)
            obtain ⟨er_46, eM_46⟩ := hp_46; replace er_46 := er_46.symm; replace eM_46 := eM_46.symm; subst er_46; subst eM_46
            refine g_iload_n hX d_Mo_best_49 rfl ?_
            refine g_icmp_le 58 hX d_Mo_best_50 (by decide) (by omega) (by omega) (fun h_50 => ?_) (fun h_50 => ?_)
            · refine g_iload_n hX d_Mo_best_58 rfl ?_
              refine g_istore_n hX d_Mo_best_59 (by decide) ?_
              refine g_aload_n hX d_Mo_best_60 rfl ?_
              refine g_iload_n hX d_Mo_best_61 rfl ?_
              refine g_iload hX d_Mo_best_62 rfl ?_
              refine g_callV hX yo_Mo_reach q_777 d_Mo_best_64 (c_Mo_reach hv hp ⟨by omega, by omega⟩) rfl rfl ⟨rfl, by decide⟩ rfl (by decide) (Nat.le_of_ble_eq_true rfl) ⟨Nat.zero_le _, Nat.zero_le _⟩ (k_int fun r_64 M_64 ir_64 hp_64 => ?_)
              obtain ⟨er_64, eM_64⟩ := hp_64; replace er_64 := er_64.symm; replace eM_64 := eM_64.symm; subst er_64; subst eM_64
              refine g_iload_n hX d_Mo_best_67 rfl ?_
              refine g_icmp_le 81 hX d_Mo_best_68 (by decide) (by omega) (by omega) (fun h_68 => ?_) (fun h_68 => ?_)
              · have zF : Fb (rc n x p) 0 (cl n x g p (k + 1)) (cl n x g p (k + 1)).length = Fb (rc n x p) 0 (cl n x g p k) (cl n x g p k).length := by (rw [zc]; exact Fb_snocN (by omega))
                refine g_iload_n hX d_Mo_best_81 rfl ?_
                refine g_istore_n hX d_Mo_best_82 (by decide) ?_
                refine g_iinc hX d_Mo_best_83 rfl (by decide) ?_
                refine g_goto 12 hX d_Mo_best_86 (by decide) ?_
                exact ih _ _ _ _ (k + 1) (by omega) (by omega) (by omega) (by rw [zc]; first | omega | (simp; omega)) (by first | exact hm.trans (congrArg Prod.fst zF).symm | exact (congrArg Prod.fst zF).symm | (exfalso; omega)) (by first | exact hb.trans (congrArg Prod.snd zF).symm | exact (congrArg Prod.snd zF).symm | (exfalso; omega)) (by omega)
              · have zF : Fb (rc n x p) 0 (cl n x g p (k + 1)) (cl n x g p (k + 1)).length = (rc n x p (k + 1), (k + 1 : Int)) := by (rw [zc]; exact Fb_snocP (by omega))
                refine g_aload_n hX d_Mo_best_71 rfl ?_
                refine g_iload_n hX d_Mo_best_72 rfl ?_
                refine g_iload hX d_Mo_best_73 rfl ?_
                refine g_callV hX yo_Mo_reach q_777 d_Mo_best_75 (c_Mo_reach hv hp ⟨by omega, by omega⟩) rfl rfl ⟨rfl, by decide⟩ rfl (by decide) (Nat.le_of_ble_eq_true rfl) ⟨Nat.zero_le _, Nat.zero_le _⟩ (k_int fun r_75 M_75 ir_75 hp_75 => ?_)
                obtain ⟨er_75, eM_75⟩ := hp_75; replace er_75 := er_75.symm; replace eM_75 := eM_75.symm; subst er_75; subst eM_75
                refine g_goto 82 hX d_Mo_best_78 (by decide) ?_
                refine g_istore_n hX d_Mo_best_82 (by decide) ?_
                refine g_iinc hX d_Mo_best_83 rfl (by decide) ?_
                refine g_goto 12 hX d_Mo_best_86 (by decide) ?_
                exact ih _ _ _ _ (k + 1) (by omega) (by omega) (by omega) (by rw [zc]; first | omega | (simp; omega)) (by first | exact hm.trans (congrArg Prod.fst zF).symm | exact (congrArg Prod.fst zF).symm | (exfalso; omega)) (by first | exact hb.trans (congrArg Prod.snd zF).symm | exact (congrArg Prod.snd zF).symm | (exfalso; omega)) (by omega)
            · refine g_iload hX d_Mo_best_53 rfl ?_
              refine g_goto 59 hX d_Mo_best_55 (by decide) ?_
              refine g_istore_n hX d_Mo_best_59 (by decide) ?_
              refine g_aload_n hX d_Mo_best_60 rfl ?_
              refine g_iload_n hX d_Mo_best_61 rfl ?_
              refine g_iload hX d_Mo_best_62 rfl ?_
              refine g_callV hX yo_Mo_reach q_777 d_Mo_best_64 (c_Mo_reach hv hp ⟨by omega, by omega⟩) rfl rfl ⟨rfl, by decide⟩ rfl (by decide) (Nat.le_of_ble_eq_true rfl) ⟨Nat.zero_le _, Nat.zero_le _⟩ (k_int fun r_64 M_64 ir_64 hp_64 => ?_)
              obtain ⟨er_64, eM_64⟩ := hp_64; replace er_64 := er_64.symm; replace eM_64 := eM_64.symm; subst er_64; subst eM_64
              refine g_iload_n hX d_Mo_best_67 rfl ?_
              refine g_icmp_le 81 hX d_Mo_best_68 (by decide) (by omega) (by omega) (fun h_68 => ?_) (fun h_68 => ?_)
              · have zF : Fb (rc n x p) 0 (cl n x g p (k + 1)) (cl n x g p (k + 1)).length = Fb (rc n x p) 0 (cl n x g p k) (cl n x g p k).length := by (rw [zc]; exact Fb_snocN (by omega))
                refine g_iload_n hX d_Mo_best_81 rfl ?_
                refine g_istore_n hX d_Mo_best_82 (by decide) ?_
                refine g_iinc hX d_Mo_best_83 rfl (by decide) ?_
                refine g_goto 12 hX d_Mo_best_86 (by decide) ?_
                exact ih _ _ _ _ (k + 1) (by omega) (by omega) (by omega) (by rw [zc]; first | omega | (simp; omega)) (by first | exact hm.trans (congrArg Prod.fst zF).symm | exact (congrArg Prod.fst zF).symm | (exfalso; omega)) (by first | exact hb.trans (congrArg Prod.snd zF).symm | exact (congrArg Prod.snd zF).symm | (exfalso; omega)) (by omega)
              · have zF : Fb (rc n x p) 0 (cl n x g p (k + 1)) (cl n x g p (k + 1)).length = (rc n x p (k + 1), (k + 1 : Int)) := by (rw [zc]; exact Fb_snocP (by omega))
                refine g_aload_n hX d_Mo_best_71 rfl ?_
                refine g_iload_n hX d_Mo_best_72 rfl ?_
                refine g_iload hX d_Mo_best_73 rfl ?_
                refine g_callV hX yo_Mo_reach q_777 d_Mo_best_75 (c_Mo_reach hv hp ⟨by omega, by omega⟩) rfl rfl ⟨rfl, by decide⟩ rfl (by decide) (Nat.le_of_ble_eq_true rfl) ⟨Nat.zero_le _, Nat.zero_le _⟩ (k_int fun r_75 M_75 ir_75 hp_75 => ?_)
                obtain ⟨er_75, eM_75⟩ := hp_75; replace er_75 := er_75.symm; replace eM_75 := eM_75.symm; subst er_75; subst eM_75
                refine g_goto 82 hX d_Mo_best_78 (by decide) ?_
                refine g_istore_n hX d_Mo_best_82 (by decide) ?_
                refine g_iinc hX d_Mo_best_83 rfl (by decide) ?_
                refine g_goto 12 hX d_Mo_best_86 (by decide) ?_
                exact ih _ _ _ _ (k + 1) (by omega) (by omega) (by omega) (by rw [zc]; first | omega | (simp; omega)) (by first | exact hm.trans (congrArg Prod.fst zF).symm | exact (congrArg Prod.fst zF).symm | (exfalso; omega)) (by first | exact hb.trans (congrArg Prod.snd zF).symm | exact (congrArg Prod.snd zF).symm | (exfalso; omega)) (by omega)
  refine g_sipush hX d_Mo_best_0 rfl ?_
  refine g_istore_n hX d_Mo_best_3 (by decide) ?_
  refine g_iconst hX d_Mo_best_4 ?_
  refine g_istore_n hX d_Mo_best_5 (by decide) ?_
  refine g_iconst hX d_Mo_best_6 ?_
  refine g_istore hX d_Mo_best_7 (by decide) ?_
  refine g_iconst hX d_Mo_best_9 ?_
  refine g_istore hX d_Mo_best_10 (by decide) ?_
  exact LOOP _ _ _ _ _ 0 rfl (by omega) (by omega) rfl rfl rfl (by omega)
theorem c_Mo_saves {Γ : gX} {l : Launch} {M : mI} {n p : Int} {x g : Int → Int} (hv : Ns M n x g) (hg : Og g) (hp : 0 ≤ p ∧ p ≤ n) (hb : bD n x g p ≠ -10004) : Cn Γ l i_Mo_saves R0 51 [.ref (gb Γ + 37), vI p] M (pI (fun r M' => r = sv n x g p ∧ M' = M)) := by
  refine cn_intro (L := [some (.ref (gb Γ + 37)), some (vI p)]) yo_Mo_saves.1 rfl (Nat.le_of_ble_eq_true rfl) rfl (fun X hX hR => ?_)
  obtain ⟨v1, v2, v3, v4, v5⟩ := id hv
  obtain ⟨s0, s1, s2, s3, s4⟩ := hv.s
  have zc : 1 ≤ bD n x g p ∧ bD n x g p ≤ p := by
    rcases bD_cases (n := n) (x := x) (p := p) hg hp.1 with hz | hz
    · exact absurd hz hb
    · exact ⟨hz.1, hz.2.1⟩
  have zs : sv n x g p = rc n x p (bD n x g p) * g 3 - g 4 := by
    unfold sv
    rw [if_neg hb]
  have zs2 := sv_bd (x := x) hg hp.1 hp.2
  refine g_aload_n hX d_Mo_saves_0 rfl ?_
  refine g_iload_n hX d_Mo_saves_1 rfl ?_
  refine g_aload_n hX d_Mo_saves_2 rfl ?_
  refine g_iload_n hX d_Mo_saves_3 rfl ?_
  refine g_callV hX yo_Mo_best q_789 d_Mo_saves_4 (c_Mo_best hv hg hp) rfl rfl ⟨rfl, by decide⟩ rfl (by decide) (Nat.le_of_ble_eq_true rfl) ⟨Nat.zero_le _, Nat.zero_le _⟩ (k_int fun r_4 M_4 ir_4 hp_4 => ?_)
  obtain ⟨er_4, eM_4⟩ := hp_4; replace er_4 := er_4.symm; replace eM_4 := eM_4.symm; subst er_4; subst eM_4
  refine g_callV hX yo_Mo_reach q_777 d_Mo_saves_7 (c_Mo_reach hv hp ⟨by omega, by omega⟩) rfl rfl ⟨rfl, by decide⟩ rfl (by decide) (Nat.le_of_ble_eq_true rfl) ⟨Nat.zero_le _, Nat.zero_le _⟩ (k_int fun r_7 M_7 ir_7 hp_7 => ?_)
  obtain ⟨er_7, eM_7⟩ := hp_7; replace er_7 := er_7.symm; replace eM_7 := eM_7.symm; subst er_7; subst eM_7
  refine g_aload_n hX d_Mo_saves_10 rfl ?_
  refine g_getR hX fl_Mo_7 d_Mo_saves_11 ⟨rfl, by decide⟩ rfl rfl ?_
  refine g_iconst hX d_Mo_saves_14 ?_
  refine g_iald hX d_Mo_saves_15 ⟨rfl, by decide⟩ (by omega) (fun r_15 => ?_)
  refine g_imul hX d_Mo_saves_16 ?_
  refine g_aload_n hX d_Mo_saves_17 rfl ?_
  refine g_getR hX fl_Mo_7 d_Mo_saves_18 ⟨rfl, by decide⟩ rfl rfl ?_
  refine g_iconst hX d_Mo_saves_21 ?_
  refine g_iald hX d_Mo_saves_22 ⟨rfl, by decide⟩ (by omega) (fun r_22 => ?_)
  refine g_isub hX d_Mo_saves_23 ?_
  rw [s3, s4, ← zs]
  refine g_iret hX hR d_Mo_saves_24 (by omega) ?_
  exact ⟨rfl, rfl⟩
theorem c_Mo_found {Γ : gX} {l : Launch} {M : mI} {σ : sG} {p w : Int} (h : MR M σ) (ok : OkV σ) (hp : iR p) (hw : iR w) : Cn Γ l i_Mo_found R0 51 [.ref (gb Γ + 37), vI p, vI w] M (pI (fun r M' => r = q_found σ p w ∧ M' = M)) := by
  refine cn_intro (L := [some (.ref (gb Γ + 37)), some (vI p), some (vI w), none]) yo_Mo_found.1 rfl (Nat.le_of_ble_eq_true rfl) rfl (fun X hX hR => ?_)
  obtain ⟨v1, v2, v3, v4, v5⟩ := id h.1
  refine g_aload_n hX d_Mo_found_0 rfl ?_
  refine g_iload_n hX d_Mo_found_1 rfl ?_
  refine g_callV hX yo_Mo_isPlace q_747 d_Mo_found_2 (c_Mo_isPlace hp) rfl rfl ⟨rfl, by decide⟩ rfl (by decide) (Nat.le_of_ble_eq_true rfl) ⟨Nat.zero_le _, Nat.zero_le _⟩ (k_int fun r_2 M_2 ir_2 hp_2 => ?_)
  obtain ⟨er_2, eM_2⟩ := hp_2; replace er_2 := er_2.symm; replace eM_2 := eM_2.symm; subst er_2; subst eM_2
  refine g_if_eq 17 hX d_Mo_found_5 (by decide) (by first | omega | exact ite_iR) (fun h_5 => ?_) (fun h_5 => ?_)
  · have z1 := ite_eq h_5
    rw [v1] at z1
    refine g_sipush hX d_Mo_found_17 rfl ?_
    refine g_iret hX hR d_Mo_found_20 (by omega) ?_
    refine ⟨?_, rfl⟩; unfold q_found; rw [if_pos (by omega)]
  · have z1 := ite_ne h_5
    rw [v1] at z1
    refine g_iload_n hX d_Mo_found_8 rfl ?_
    refine g_iconst hX d_Mo_found_9 ?_
    refine g_iconst hX d_Mo_found_10 ?_
    refine g_callS hX yo_Mo_in q_732 d_Mo_found_11 (c_Mo_in hw (by omega) (by omega)) rfl rfl (by decide) (Nat.le_of_ble_eq_true rfl) ⟨Nat.zero_le _, Nat.zero_le _⟩ (k_int fun r_11 M_11 ir_11 hp_11 => ?_)
    obtain ⟨er_11, eM_11⟩ := hp_11; replace er_11 := er_11.symm; replace eM_11 := eM_11.symm; subst er_11; subst eM_11
    refine g_if_ne 21 hX d_Mo_found_14 (by decide) (by first | omega | exact ite_iR) (fun h_14 => ?_) (fun h_14 => ?_)
    · have z2 := ite_ne h_14
      have zb := bD_cases (n := σ.1.1) (x := σ.1.2.1) (p := p) ok.1.2.1 z1.1
      refine g_iload_n hX d_Mo_found_21 rfl ?_
      refine g_iconst hX d_Mo_found_22 ?_
      refine g_icmp_ne 32 hX d_Mo_found_23 (by decide) (by omega) (by omega) (fun h_23 => ?_) (fun h_23 => ?_)
      · refine g_aload_n hX d_Mo_found_32 rfl ?_
        refine g_iload_n hX d_Mo_found_33 rfl ?_
        refine g_callV hX yo_Mo_best q_789 d_Mo_found_34 (c_Mo_best h.1 ok.1.2.1 ⟨z1.1, by omega⟩) rfl rfl ⟨rfl, by decide⟩ rfl (by decide) (Nat.le_of_ble_eq_true rfl) ⟨Nat.zero_le _, Nat.zero_le _⟩ (k_int fun r_34 M_34 ir_34 hp_34 => ?_)
        obtain ⟨er_34, eM_34⟩ := hp_34; replace er_34 := er_34.symm; replace eM_34 := eM_34.symm; subst er_34; subst eM_34
        refine g_istore_n hX d_Mo_found_37 (by decide) ?_
        refine g_iload_n hX d_Mo_found_38 rfl ?_
        refine g_if_lt 46 hX d_Mo_found_39 (by decide) (by first | omega | exact ite_iR) (fun h_39 => ?_) (fun h_39 => ?_)
        · have zq : bD σ.1.1 σ.1.2.1 σ.1.2.2 p = -10004 := by omega
          refine g_iload_n hX d_Mo_found_46 rfl ?_
          refine g_goto 69 hX d_Mo_found_47 (by decide) ?_
          refine g_iret hX hR d_Mo_found_69 (by omega) ?_
          refine ⟨?_, rfl⟩; unfold q_found; rw [if_neg (by omega), if_neg (by omega)]; first | (rw [if_pos zq]; exact zq) | (rw [if_neg zq, if_pos (by omega)]; done) | (rw [if_neg zq, if_neg (by omega), if_pos (by omega)]; done) | (rw [if_neg zq, if_neg (by omega), if_neg (by omega)]; done)
        · have zq : bD σ.1.1 σ.1.2.1 σ.1.2.2 p ≠ -10004 := by omega
          refine g_iload_n hX d_Mo_found_42 rfl ?_
          refine g_if_ne 50 hX d_Mo_found_43 (by decide) (by first | omega | exact ite_iR) (fun h_43 => ?_) (fun h_43 => ?_)
          · refine g_iload_n hX d_Mo_found_50 rfl ?_
            refine g_iconst hX d_Mo_found_51 ?_
            refine g_icmp_ne 64 hX d_Mo_found_52 (by decide) (by omega) (by omega) (fun h_52 => ?_) (fun h_52 => ?_)
            · refine g_aload_n hX d_Mo_found_64 rfl ?_
              refine g_iload_n hX d_Mo_found_65 rfl ?_
              refine g_callV hX yo_Mo_saves q_793 d_Mo_found_66 (c_Mo_saves h.1 ok.1.2.1 ⟨z1.1, by omega⟩ (by omega)) rfl rfl ⟨rfl, by decide⟩ rfl (by decide) (Nat.le_of_ble_eq_true rfl) ⟨Nat.zero_le _, Nat.zero_le _⟩ (k_int fun r_66 M_66 ir_66 hp_66 => ?_)
              obtain ⟨er_66, eM_66⟩ := hp_66; replace er_66 := er_66.symm; replace eM_66 := eM_66.symm; subst er_66; subst eM_66
              refine g_iret hX hR d_Mo_found_69 (by omega) ?_
              refine ⟨?_, rfl⟩; unfold q_found; rw [if_neg (by omega), if_neg (by omega)]; first | (rw [if_pos zq]; exact zq) | (rw [if_neg zq, if_pos (by omega)]; done) | (rw [if_neg zq, if_neg (by omega), if_pos (by omega)]; done) | (rw [if_neg zq, if_neg (by omega), if_neg (by omega)]; done)
            · refine g_aload_n hX d_Mo_found_55 rfl ?_
              refine g_iload_n hX d_Mo_found_56 rfl ?_
              refine g_iload_n hX d_Mo_found_57 rfl ?_
              refine g_callV hX yo_Mo_reach q_777 d_Mo_found_58 (c_Mo_reach h.1 ⟨z1.1, by omega⟩ ⟨by omega, by omega⟩) rfl rfl ⟨rfl, by decide⟩ rfl (by decide) (Nat.le_of_ble_eq_true rfl) ⟨Nat.zero_le _, Nat.zero_le _⟩ (k_int fun r_58 M_58 ir_58 hp_58 => ?_)
              obtain ⟨er_58, eM_58⟩ := hp_58; replace er_58 := er_58.symm; replace eM_58 := eM_58.symm; subst er_58; subst eM_58
              refine g_goto 69 hX d_Mo_found_61 (by decide) ?_
              refine g_iret hX hR d_Mo_found_69 (by omega) ?_
              refine ⟨?_, rfl⟩; unfold q_found; rw [if_neg (by omega), if_neg (by omega)]; first | (rw [if_pos zq]; exact zq) | (rw [if_neg zq, if_pos (by omega)]; done) | (rw [if_neg zq, if_neg (by omega), if_pos (by omega)]; done) | (rw [if_neg zq, if_neg (by omega), if_neg (by omega)]; done)
          · refine g_iload_n hX d_Mo_found_46 rfl ?_
            refine g_goto 69 hX d_Mo_found_47 (by decide) ?_
            refine g_iret hX hR d_Mo_found_69 (by omega) ?_
            refine ⟨?_, rfl⟩; unfold q_found; rw [if_neg (by omega), if_neg (by omega)]; first | (rw [if_pos zq]; exact zq) | (rw [if_neg zq, if_pos (by omega)]; done) | (rw [if_neg zq, if_neg (by omega), if_pos (by omega)]; done) | (rw [if_neg zq, if_neg (by omega), if_neg (by omega)]; done)
      · refine g_aload_n hX d_Mo_found_26 rfl ?_
        refine g_iload_n hX d_Mo_found_27 rfl ?_
        refine g_callV hX yo_Mo_candidates q_785 d_Mo_found_28 (c_Mo_candidates h.1 ok.1.2.1 ⟨z1.1, by omega⟩) rfl rfl ⟨rfl, by decide⟩ rfl (by decide) (Nat.le_of_ble_eq_true rfl) ⟨Nat.zero_le _, Nat.zero_le _⟩ (k_int fun r_28 M_28 ir_28 hp_28 => ?_)
        obtain ⟨er_28, eM_28⟩ := hp_28; replace er_28 := er_28.symm; replace eM_28 := eM_28.symm; subst er_28; subst eM_28
        refine g_iret hX hR d_Mo_found_31 (by omega) ?_
        refine ⟨?_, rfl⟩; unfold q_found; rw [if_neg (by omega), if_pos (by omega)]
    · have z2 := ite_eq h_14
      refine g_sipush hX d_Mo_found_17 rfl ?_
      refine g_iret hX hR d_Mo_found_20 (by omega) ?_
      refine ⟨?_, rfl⟩; unfold q_found; rw [if_pos (by omega)]

theorem c_Mo_isCopy {Γ : gX} {l : Launch} {M : mI} {σ : sG} {p d c : Int} (h : MR M σ) (ok : OkV σ) (hp : iR p) (hd : iR d) (hc : iR c) : Cn Γ l i_Mo_isCopy R0 51 [.ref (gb Γ + 37), vI p, vI d, vI c] M (pI (fun r M' => r = q_isCopy σ p d c ∧ M' = M)) := by
  refine cn_intro (L := [some (.ref (gb Γ + 37)), some (vI p), some (vI d), some (vI c), none]) yo_Mo_isCopy.1 rfl (Nat.le_of_ble_eq_true rfl) rfl (fun X hX hR => ?_)
  obtain ⟨v1, v2, v3, v4, v5⟩ := id h.1
  obtain ⟨s0, s1, s2, s3, s4⟩ := h.1.s
  obtain ⟨g0, g1, g2, g3, g4⟩ := id ok.1.2.1
  refine g_aload_n hX d_Mo_isCopy_0 rfl ?_
  refine g_iload_n hX d_Mo_isCopy_1 rfl ?_
  refine g_callV hX yo_Mo_isPlace q_747 d_Mo_isCopy_2 (c_Mo_isPlace hp) rfl rfl ⟨rfl, by decide⟩ rfl (by decide) (Nat.le_of_ble_eq_true rfl) ⟨Nat.zero_le _, Nat.zero_le _⟩ (k_int fun r_2 M_2 ir_2 hp_2 => ?_)
  obtain ⟨er_2, eM_2⟩ := hp_2; replace er_2 := er_2.symm; replace eM_2 := eM_2.symm; subst er_2; subst eM_2
  refine g_if_ne 12 hX d_Mo_isCopy_5 (by decide) (by first | omega | exact ite_iR) (fun h_5 => ?_) (fun h_5 => ?_)
  · have z1 := ite_ne h_5
    rw [v1] at z1
    refine g_iload_n hX d_Mo_isCopy_12 rfl ?_
    refine g_iconst hX d_Mo_isCopy_13 ?_
    refine g_aload_n hX d_Mo_isCopy_14 rfl ?_
    refine g_getR hX fl_Mo_7 d_Mo_isCopy_15 ⟨rfl, by decide⟩ rfl rfl ?_
    refine g_iconst hX d_Mo_isCopy_18 ?_
    refine g_iald hX d_Mo_isCopy_19 ⟨rfl, by decide⟩ (by omega) (fun r_19 => ?_)
    refine g_callS hX yo_Mo_in q_732 d_Mo_isCopy_20 (c_Mo_in hd (by omega) r_19) rfl rfl (by decide) (Nat.le_of_ble_eq_true rfl) ⟨Nat.zero_le _, Nat.zero_le _⟩ (k_int fun r_20 M_20 ir_20 hp_20 => ?_)
    obtain ⟨er_20, eM_20⟩ := hp_20; replace er_20 := er_20.symm; replace eM_20 := eM_20.symm; subst er_20; subst eM_20
    refine g_if_eq 50 hX d_Mo_isCopy_23 (by decide) (by first | omega | exact ite_iR) (fun h_23 => ?_) (fun h_23 => ?_)
    · have z2 := ite_eq h_23
      rw [s0] at z2
      refine g_iconst hX d_Mo_isCopy_50 ?_
      refine g_istore hX d_Mo_isCopy_51 (by decide) ?_
      refine g_iload hX d_Mo_isCopy_53 rfl ?_
      refine g_if_eq 72 hX d_Mo_isCopy_55 (by decide) (by first | omega | exact ite_iR) (fun h_55 => ?_) (fun h_55 => ?_)
      · refine g_iconst hX d_Mo_isCopy_72 ?_
        refine g_iret hX hR d_Mo_isCopy_73 (by omega) ?_
        refine ⟨?_, rfl⟩; have zr : rc σ.1.1 σ.1.2.1 p d = min 20 (lk σ.1.1 σ.1.2.1 p d) := rfl; unfold q_isCopy; rw [if_neg (fun zz => zz z1)]; first | (exfalso; omega) | rw [if_pos (by omega)] | rw [if_neg (by omega)]
      · refine g_aload_n hX d_Mo_isCopy_58 rfl ?_
        refine g_iload_n hX d_Mo_isCopy_59 rfl ?_
        refine g_iload_n hX d_Mo_isCopy_60 rfl ?_
        refine g_callV hX yo_Mo_reach q_777 d_Mo_isCopy_61 (c_Mo_reach h.1 ⟨z1.1, by omega⟩ ⟨by omega, by omega⟩) rfl rfl ⟨rfl, by decide⟩ rfl (by decide) (Nat.le_of_ble_eq_true rfl) ⟨Nat.zero_le _, Nat.zero_le _⟩ (k_int fun r_61 M_61 ir_61 hp_61 => ?_)
        obtain ⟨er_61, eM_61⟩ := hp_61; replace er_61 := er_61.symm; replace eM_61 := eM_61.symm; subst er_61; subst eM_61
        refine g_iload_n hX d_Mo_isCopy_64 rfl ?_
        refine g_icmp_lt 72 hX d_Mo_isCopy_65 (by decide) (by omega) (by omega) (fun h_65 => ?_) (fun h_65 => ?_)
        · refine g_iconst hX d_Mo_isCopy_72 ?_
          refine g_iret hX hR d_Mo_isCopy_73 (by omega) ?_
          refine ⟨?_, rfl⟩; have zr : rc σ.1.1 σ.1.2.1 p d = min 20 (lk σ.1.1 σ.1.2.1 p d) := rfl; unfold q_isCopy; rw [if_neg (fun zz => zz z1)]; first | (exfalso; omega) | rw [if_pos (by omega)] | rw [if_neg (by omega)]
        · refine g_iconst hX d_Mo_isCopy_68 ?_
          refine g_goto 73 hX d_Mo_isCopy_69 (by decide) ?_
          refine g_iret hX hR d_Mo_isCopy_73 (by omega) ?_
          refine ⟨?_, rfl⟩; have zr : rc σ.1.1 σ.1.2.1 p d = min 20 (lk σ.1.1 σ.1.2.1 p d) := rfl; unfold q_isCopy; rw [if_neg (fun zz => zz z1)]; first | (exfalso; omega) | rw [if_pos (by omega)] | rw [if_neg (by omega)]
    · have z2 := ite_ne h_23
      rw [s0] at z2
      refine g_iload_n hX d_Mo_isCopy_26 rfl ?_
      refine g_iload_n hX d_Mo_isCopy_27 rfl ?_
      refine g_icmp_gt 50 hX d_Mo_isCopy_28 (by decide) (by omega) (by omega) (fun h_28 => ?_) (fun h_28 => ?_)
      · refine g_iconst hX d_Mo_isCopy_50 ?_
        refine g_istore hX d_Mo_isCopy_51 (by decide) ?_
        refine g_iload hX d_Mo_isCopy_53 rfl ?_
        refine g_if_eq 72 hX d_Mo_isCopy_55 (by decide) (by first | omega | exact ite_iR) (fun h_55 => ?_) (fun h_55 => ?_)
        · refine g_iconst hX d_Mo_isCopy_72 ?_
          refine g_iret hX hR d_Mo_isCopy_73 (by omega) ?_
          refine ⟨?_, rfl⟩; have zr : rc σ.1.1 σ.1.2.1 p d = min 20 (lk σ.1.1 σ.1.2.1 p d) := rfl; unfold q_isCopy; rw [if_neg (fun zz => zz z1)]; first | (exfalso; omega) | rw [if_pos (by omega)] | rw [if_neg (by omega)]
        · refine g_aload_n hX d_Mo_isCopy_58 rfl ?_
          refine g_iload_n hX d_Mo_isCopy_59 rfl ?_
          refine g_iload_n hX d_Mo_isCopy_60 rfl ?_
          refine g_callV hX yo_Mo_reach q_777 d_Mo_isCopy_61 (c_Mo_reach h.1 ⟨z1.1, by omega⟩ ⟨by omega, by omega⟩) rfl rfl ⟨rfl, by decide⟩ rfl (by decide) (Nat.le_of_ble_eq_true rfl) ⟨Nat.zero_le _, Nat.zero_le _⟩ (k_int fun r_61 M_61 ir_61 hp_61 => ?_)
          obtain ⟨er_61, eM_61⟩ := hp_61; replace er_61 := er_61.symm; replace eM_61 := eM_61.symm; subst er_61; subst eM_61
          refine g_iload_n hX d_Mo_isCopy_64 rfl ?_
          refine g_icmp_lt 72 hX d_Mo_isCopy_65 (by decide) (by omega) (by omega) (fun h_65 => ?_) (fun h_65 => ?_)
          · refine g_iconst hX d_Mo_isCopy_72 ?_
            refine g_iret hX hR d_Mo_isCopy_73 (by omega) ?_
            refine ⟨?_, rfl⟩; have zr : rc σ.1.1 σ.1.2.1 p d = min 20 (lk σ.1.1 σ.1.2.1 p d) := rfl; unfold q_isCopy; rw [if_neg (fun zz => zz z1)]; first | (exfalso; omega) | rw [if_pos (by omega)] | rw [if_neg (by omega)]
          · refine g_iconst hX d_Mo_isCopy_68 ?_
            refine g_goto 73 hX d_Mo_isCopy_69 (by decide) ?_
            refine g_iret hX hR d_Mo_isCopy_73 (by omega) ?_
            refine ⟨?_, rfl⟩; have zr : rc σ.1.1 σ.1.2.1 p d = min 20 (lk σ.1.1 σ.1.2.1 p d) := rfl; unfold q_isCopy; rw [if_neg (fun zz => zz z1)]; first | (exfalso; omega) | rw [if_pos (by omega)] | rw [if_neg (by omega)]
      · refine g_iload_n hX d_Mo_isCopy_31 rfl ?_
        refine g_aload_n hX d_Mo_isCopy_32 rfl ?_
        refine g_getR hX fl_Mo_7 d_Mo_isCopy_33 ⟨rfl, by decide⟩ rfl rfl ?_
        refine g_iconst hX d_Mo_isCopy_36 ?_
        refine g_iald hX d_Mo_isCopy_37 ⟨rfl, by decide⟩ (by omega) (fun r_37 => ?_)
        refine g_bipush hX d_Mo_isCopy_38 rfl ?_
        refine g_callS hX yo_Mo_in q_732 d_Mo_isCopy_40 (c_Mo_in hc r_37 (by omega)) rfl rfl (by decide) (Nat.le_of_ble_eq_true rfl) ⟨Nat.zero_le _, Nat.zero_le _⟩ (k_int fun r_40 M_40 ir_40 hp_40 => ?_)
        obtain ⟨er_40, eM_40⟩ := hp_40; replace er_40 := er_40.symm; replace eM_40 := eM_40.symm; subst er_40; subst eM_40
        refine g_if_eq 50 hX d_Mo_isCopy_43 (by decide) (by first | omega | exact ite_iR) (fun h_43 => ?_) (fun h_43 => ?_)
        · have z3 := ite_eq h_43
          rw [s1] at z3
          refine g_iconst hX d_Mo_isCopy_50 ?_
          refine g_istore hX d_Mo_isCopy_51 (by decide) ?_
          refine g_iload hX d_Mo_isCopy_53 rfl ?_
          refine g_if_eq 72 hX d_Mo_isCopy_55 (by decide) (by first | omega | exact ite_iR) (fun h_55 => ?_) (fun h_55 => ?_)
          · refine g_iconst hX d_Mo_isCopy_72 ?_
            refine g_iret hX hR d_Mo_isCopy_73 (by omega) ?_
            refine ⟨?_, rfl⟩; have zr : rc σ.1.1 σ.1.2.1 p d = min 20 (lk σ.1.1 σ.1.2.1 p d) := rfl; unfold q_isCopy; rw [if_neg (fun zz => zz z1)]; first | (exfalso; omega) | rw [if_pos (by omega)] | rw [if_neg (by omega)]
          · refine g_aload_n hX d_Mo_isCopy_58 rfl ?_
            refine g_iload_n hX d_Mo_isCopy_59 rfl ?_
            refine g_iload_n hX d_Mo_isCopy_60 rfl ?_
            refine g_callV hX yo_Mo_reach q_777 d_Mo_isCopy_61 (c_Mo_reach h.1 ⟨z1.1, by omega⟩ ⟨by omega, by omega⟩) rfl rfl ⟨rfl, by decide⟩ rfl (by decide) (Nat.le_of_ble_eq_true rfl) ⟨Nat.zero_le _, Nat.zero_le _⟩ (k_int fun r_61 M_61 ir_61 hp_61 => ?_)
            obtain ⟨er_61, eM_61⟩ := hp_61; replace er_61 := er_61.symm; replace eM_61 := eM_61.symm; subst er_61; subst eM_61
            refine g_iload_n hX d_Mo_isCopy_64 rfl ?_
            refine g_icmp_lt 72 hX d_Mo_isCopy_65 (by decide) (by omega) (by omega) (fun h_65 => ?_) (fun h_65 => ?_)
            · refine g_iconst hX d_Mo_isCopy_72 ?_
              refine g_iret hX hR d_Mo_isCopy_73 (by omega) ?_
              refine ⟨?_, rfl⟩; have zr : rc σ.1.1 σ.1.2.1 p d = min 20 (lk σ.1.1 σ.1.2.1 p d) := rfl; unfold q_isCopy; rw [if_neg (fun zz => zz z1)]; first | (exfalso; omega) | rw [if_pos (by omega)] | rw [if_neg (by omega)]
            · refine g_iconst hX d_Mo_isCopy_68 ?_
              refine g_goto 73 hX d_Mo_isCopy_69 (by decide) ?_
              refine g_iret hX hR d_Mo_isCopy_73 (by omega) ?_
              refine ⟨?_, rfl⟩; have zr : rc σ.1.1 σ.1.2.1 p d = min 20 (lk σ.1.1 σ.1.2.1 p d) := rfl; unfold q_isCopy; rw [if_neg (fun zz => zz z1)]; first | (exfalso; omega) | rw [if_pos (by omega)] | rw [if_neg (by omega)]
        · have z3 := ite_ne h_43
          rw [s1] at z3
          refine g_iconst hX d_Mo_isCopy_46 ?_
          refine g_goto 51 hX d_Mo_isCopy_47 (by decide) ?_
          refine g_istore hX d_Mo_isCopy_51 (by decide) ?_
          refine g_iload hX d_Mo_isCopy_53 rfl ?_
          refine g_if_eq 72 hX d_Mo_isCopy_55 (by decide) (by first | omega | exact ite_iR) (fun h_55 => ?_) (fun h_55 => ?_)
          · refine g_iconst hX d_Mo_isCopy_72 ?_
            refine g_iret hX hR d_Mo_isCopy_73 (by omega) ?_
            refine ⟨?_, rfl⟩; have zr : rc σ.1.1 σ.1.2.1 p d = min 20 (lk σ.1.1 σ.1.2.1 p d) := rfl; unfold q_isCopy; rw [if_neg (fun zz => zz z1)]; first | (exfalso; omega) | rw [if_pos (by omega)] | rw [if_neg (by omega)]
          · refine g_aload_n hX d_Mo_isCopy_58 rfl ?_
            refine g_iload_n hX d_Mo_isCopy_59 rfl ?_
            refine g_iload_n hX d_Mo_isCopy_60 rfl ?_
            refine g_callV hX yo_Mo_reach q_777 d_Mo_isCopy_61 (c_Mo_reach h.1 ⟨z1.1, by omega⟩ ⟨by omega, by omega⟩) rfl rfl ⟨rfl, by decide⟩ rfl (by decide) (Nat.le_of_ble_eq_true rfl) ⟨Nat.zero_le _, Nat.zero_le _⟩ (k_int fun r_61 M_61 ir_61 hp_61 => ?_)
            obtain ⟨er_61, eM_61⟩ := hp_61; replace er_61 := er_61.symm; replace eM_61 := eM_61.symm; subst er_61; subst eM_61
            refine g_iload_n hX d_Mo_isCopy_64 rfl ?_
            refine g_icmp_lt 72 hX d_Mo_isCopy_65 (by decide) (by omega) (by omega) (fun h_65 => ?_) (fun h_65 => ?_)
            · refine g_iconst hX d_Mo_isCopy_72 ?_
              refine g_iret hX hR d_Mo_isCopy_73 (by omega) ?_
              refine ⟨?_, rfl⟩; have zr : rc σ.1.1 σ.1.2.1 p d = min 20 (lk σ.1.1 σ.1.2.1 p d) := rfl; unfold q_isCopy; rw [if_neg (fun zz => zz z1)]; first | (exfalso; omega) | rw [if_pos (by omega)] | rw [if_neg (by omega)]
            · refine g_iconst hX d_Mo_isCopy_68 ?_
              refine g_goto 73 hX d_Mo_isCopy_69 (by decide) ?_
              refine g_iret hX hR d_Mo_isCopy_73 (by omega) ?_
              refine ⟨?_, rfl⟩; have zr : rc σ.1.1 σ.1.2.1 p d = min 20 (lk σ.1.1 σ.1.2.1 p d) := rfl; unfold q_isCopy; rw [if_neg (fun zz => zz z1)]; first | (exfalso; omega) | rw [if_pos (by omega)] | rw [if_neg (by omega)]
  · have z1 := ite_eq h_5
    rw [v1] at z1
    refine g_sipush hX d_Mo_isCopy_8 rfl ?_
    refine g_iret hX hR d_Mo_isCopy_11 (by omega) ?_
    refine ⟨?_, rfl⟩; unfold q_isCopy; rw [if_pos z1]
