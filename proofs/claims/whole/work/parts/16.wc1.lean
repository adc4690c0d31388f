theorem ite_iR {P : Prop} [Decidable P] : iR (if P then 1 else 0) := by split <;> omega
theorem ite_ne {P : Prop} [Decidable P] (h : (if P then (1 : Int) else 0) ≠ 0) : P := by
  split at h
  · assumption
  · exact absurd rfl h
theorem ite_eq {P : Prop} [Decidable P] (h : (if P then (1 : Int) else 0) = 0) : ¬ P := by
  split at h
  · exact absurd h (by decide)
  · assumption
/-! the class's own methods: the row, candidates -/
theorem CR_rec {M M' : mI} {σ : sG} {s : sS} (h : CR M σ) (h1 : Sv M' 1 s.1 s.2.1 s.2.2) (h2 : Hv M' (hPush σ.2.1 σ.1)) (he : ∀ a, a = 0 ∨ (4 ≤ a ∧ a ≤ 6) ∨ a = 31 ∨ a = 32 → M' a = M a) : CR M' (chg σ s) := by
  obtain ⟨z1, z2, z3, z4, z5⟩ := h
  exact ⟨h1, h2, by rw [he 0 (by omega)]; exact z3, fun s' hs => (z4 s' hs).to (he 4 (by omega)) (he 5 (by omega)) (he 6 (by omega)), z5.to (he 31 (by omega)) (he 32 (by omega))⟩
theorem c_WC_put {Γ : gX} {l : Launch} {M : mI} {σ : sG} {c : Int} (h : CR M σ) (ok : OkV σ) (hc : iR c) : Cn Γ l i_WC_put R0 51 [.ref (gb Γ + 0), vI c] M (pI (fun r M' => r = (q_put σ c).1 ∧ CR M' (q_put σ c).2 ∧ ∀ a, 37 ≤ a → M' a = M a)) := by
  refine cn_intro (L := [some (.ref (gb Γ + 0)), some (vI c)]) yo_WC_put.1 rfl (Nat.le_of_ble_eq_true rfl) rfl (fun X hX hR => ?_)
  have hv := h.1
  obtain ⟨v1, v2, v3, v4, v5⟩ := id hv
  refine g_iload_n hX d_WC_put_0 rfl ?_
  refine g_callS hX yo_WC_isLetter q_216 d_WC_put_1 (c_WC_isLetter hc) rfl rfl (by decide) (Nat.le_of_ble_eq_true rfl) ⟨Nat.zero_le _, Nat.zero_le _⟩ (k_int fun r_1 M_1 ir_1 hp_1 => ?_)
  obtain ⟨er_1, eM_1⟩ := hp_1; replace er_1 := er_1.symm; replace eM_1 := eM_1.symm; subst er_1; subst eM_1
  refine g_if_ne 11 hX d_WC_put_4 (by decide) (by first | omega | exact ite_iR) (fun h_4 => ?_) (fun h_4 => ?_)
  · have z1 := ite_ne h_4
    refine g_aload_n hX d_WC_put_11 rfl ?_
    refine g_getR hX fl_WC_10 d_WC_put_12 ⟨rfl, by decide⟩ rfl rfl ?_
    refine g_callV hX yo_State_size q_222 d_WC_put_15 (c_State_size st_1) rfl rfl ⟨rfl, by decide⟩ rfl (by decide) (Nat.le_of_ble_eq_true rfl) ⟨Nat.zero_le _, Nat.zero_le _⟩ (k_int fun r_15 M_15 ir_15 hp_15 => ?_)
    obtain ⟨er_15, eM_15⟩ := hp_15; replace er_15 := er_15.symm; replace eM_15 := eM_15.symm; subst er_15; subst eM_15
    rw [hv.1] at ir_15 ⊢
    refine g_bipush hX d_WC_put_18 rfl ?_
    refine g_icmp_lt 27 hX d_WC_put_20 (by decide) (by omega) (by omega) (fun h_20 => ?_) (fun h_20 => ?_)
    · refine g_aload_n hX d_WC_put_27 rfl ?_
      refine g_getR hX fl_WC_26 d_WC_put_28 ⟨rfl, by decide⟩ rfl rfl ?_
      refine g_aload_n hX d_WC_put_31 rfl ?_
      refine g_getR hX fl_WC_10 d_WC_put_32 ⟨rfl, by decide⟩ rfl rfl ?_
      refine g_callV hX yo_History_record q_226 d_WC_put_35 (c_History_record (s := σ.1) h.2.1 hv) rfl rfl ⟨rfl, by decide⟩ rfl (by decide) (Nat.le_of_ble_eq_true rfl) ⟨Nat.zero_le _, Nat.zero_le _⟩ (k_void fun M_35 hp_35 => ?_)
      obtain ⟨p1, p2⟩ := hp_35
      have w1 : Sv M_35 1 σ.1.1 σ.1.2.1 σ.1.2.2 := hv.to (p2 1 (by omega)) (p2 2 (by omega)) (p2 3 (by omega))
      obtain ⟨y1, y2, y3, y4, y5⟩ := id w1
      refine g_aload_n hX d_WC_put_38 rfl ?_
      refine g_getR hX fl_WC_10 d_WC_put_39 ⟨rfl, by decide⟩ rfl rfl ?_
      refine g_iload_n hX d_WC_put_42 rfl ?_
      refine g_callV hX yo_State_append q_263 d_WC_put_43 (c_State_append st_1 (by omega) hc) rfl rfl ⟨rfl, by decide⟩ rfl (by decide) (Nat.le_of_ble_eq_true rfl) ⟨Nat.zero_le _, Nat.zero_le _⟩ (k_void fun M_43 hp_43 => ?_)
      replace hp_43 := hp_43.symm; subst hp_43
      refine g_aload_n hX d_WC_put_46 rfl ?_
      refine g_getR hX fl_WC_10 d_WC_put_47 ⟨rfl, by decide⟩ rfl rfl ?_
      refine g_callV hX yo_State_size q_222 d_WC_put_50 (c_State_size st_1) rfl rfl ⟨rfl, by decide⟩ rfl (by decide) (Nat.le_of_ble_eq_true rfl) ⟨Nat.zero_le _, Nat.zero_le _⟩ (k_int fun r_50 M_50 ir_50 hp_50 => ?_)
      obtain ⟨er_50, eM_50⟩ := hp_50; replace er_50 := er_50.symm; replace eM_50 := eM_50.symm; subst er_50; subst eM_50
      rw [mU_self, y1] at ir_50 ⊢
      refine g_iret hX hR d_WC_put_53 (by omega) ?_
      unfold q_put; rw [if_neg (fun z => z z1), if_neg (by omega)]; refine ⟨rfl, CR_rec h ⟨by rw [mU_self], by show 0 ≤ σ.1.1 + 1; omega, by show σ.1.1 + 1 ≤ 60; omega, fun j u v => ?_, fun j u v => by rw [mU_cell (by omega), mU_cell (by omega)]; exact y5 j u v⟩ (p1.to (fun a u v => by rw [mU_cell (by omega), mU_cell (by omega)])) (fun a u => by rw [mU_cell (by omega), mU_cell (by omega)]; exact p2 a (by omega)), fun a u => by rw [mU_cell (by omega), mU_cell (by omega)]; exact p2 a (by omega)⟩; rw [mU_cell (by omega), mU_if]; by_cases zj : j = σ.1.1; (rw [if_pos zj]; exact (if_pos zj).symm); (rw [if_neg zj]; exact (y4 j u (by have zv : j < σ.1.1 + 1 := v; omega)).trans (if_neg zj).symm)
    · refine g_sipush hX d_WC_put_23 rfl ?_
      refine g_iret hX hR d_WC_put_26 (by omega) ?_
      unfold q_put; rw [if_neg (fun z => z z1), if_pos (by omega)]; exact ⟨rfl, h, fun _ _ => rfl⟩
  · have z1 := ite_eq h_4
    refine g_sipush hX d_WC_put_7 rfl ?_
    refine g_iret hX hR d_WC_put_10 (by omega) ?_
    unfold q_put; rw [if_pos z1]; exact ⟨rfl, h, fun _ _ => rfl⟩
theorem c_WC_drop {Γ : gX} {l : Launch} {M : mI} {σ : sG} {c : Int} (h : CR M σ) (ok : OkV σ) (hc : iR c) : Cn Γ l i_WC_drop R0 51 [.ref (gb Γ + 0), vI c] M (pI (fun r M' => r = (q_drop σ c).1 ∧ CR M' (q_drop σ c).2 ∧ ∀ a, 37 ≤ a → M' a = M a)) := by
  refine cn_intro (L := [some (.ref (gb Γ + 0)), some (vI c)]) yo_WC_drop.1 rfl (Nat.le_of_ble_eq_true rfl) rfl (fun X hX hR => ?_)
  have hv := h.1
  obtain ⟨v1, v2, v3, v4, v5⟩ := id hv
  refine g_iload_n hX d_WC_drop_0 rfl ?_
  refine g_iconst hX d_WC_drop_1 ?_
  refine g_bipush hX d_WC_drop_2 rfl ?_
  refine g_callS hX yo_WC_isIn q_219 d_WC_drop_4 (c_WC_isIn hc (by omega) (by omega)) rfl rfl (by decide) (Nat.le_of_ble_eq_true rfl) ⟨Nat.zero_le _, Nat.zero_le _⟩ (k_int fun r_4 M_4 ir_4 hp_4 => ?_)
  obtain ⟨er_4, eM_4⟩ := hp_4; replace er_4 := er_4.symm; replace eM_4 := eM_4.symm; subst er_4; subst eM_4
  refine g_if_ne 14 hX d_WC_drop_7 (by decide) (by first | omega | exact ite_iR) (fun h_7 => ?_) (fun h_7 => ?_)
  · have z1 := ite_ne h_7
    refine g_iload_n hX d_WC_drop_14 rfl ?_
    refine g_aload_n hX d_WC_drop_15 rfl ?_
    refine g_getR hX fl_WC_10 d_WC_drop_16 ⟨rfl, by decide⟩ rfl rfl ?_
    refine g_callV hX yo_State_size q_222 d_WC_drop_19 (c_State_size st_1) rfl rfl ⟨rfl, by decide⟩ rfl (by decide) (Nat.le_of_ble_eq_true rfl) ⟨Nat.zero_le _, Nat.zero_le _⟩ (k_int fun r_19 M_19 ir_19 hp_19 => ?_)
    obtain ⟨er_19, eM_19⟩ := hp_19; replace er_19 := er_19.symm; replace eM_19 := eM_19.symm; subst er_19; subst eM_19
    rw [hv.1] at ir_19 ⊢
    refine g_icmp_le 29 hX d_WC_drop_22 (by decide) (by omega) (by omega) (fun h_22 => ?_) (fun h_22 => ?_)
    · refine g_aload_n hX d_WC_drop_29 rfl ?_
      refine g_getR hX fl_WC_26 d_WC_drop_30 ⟨rfl, by decide⟩ rfl rfl ?_
      refine g_aload_n hX d_WC_drop_33 rfl ?_
      refine g_getR hX fl_WC_10 d_WC_drop_34 ⟨rfl, by decide⟩ rfl rfl ?_
      refine g_callV hX yo_History_record q_226 d_WC_drop_37 (c_History_record (s := σ.1) h.2.1 hv) rfl rfl ⟨rfl, by decide⟩ rfl (by decide) (Nat.le_of_ble_eq_true rfl) ⟨Nat.zero_le _, Nat.zero_le _⟩ (k_void fun M_37 hp_37 => ?_)
      obtain ⟨p1, p2⟩ := hp_37
      have w1 : Sv M_37 1 σ.1.1 σ.1.2.1 σ.1.2.2 := hv.to (p2 1 (by omega)) (p2 2 (by omega)) (p2 3 (by omega))
      obtain ⟨y1, y2, y3, y4, y5⟩ := id w1
      refine g_aload_n hX d_WC_drop_40 rfl ?_
      refine g_getR hX fl_WC_10 d_WC_drop_41 ⟨rfl, by decide⟩ rfl rfl ?_
      refine g_iload_n hX d_WC_drop_44 rfl ?_
      refine g_callV hX yo_State_shorten q_271 d_WC_drop_45 (c_State_shorten st_1 (by omega)) rfl rfl ⟨rfl, by decide⟩ rfl (by decide) (Nat.le_of_ble_eq_true rfl) ⟨Nat.zero_le _, Nat.zero_le _⟩ (k_void fun M_45 hp_45 => ?_)
      replace hp_45 := hp_45.symm; subst hp_45
      refine g_aload_n hX d_WC_drop_48 rfl ?_
      refine g_getR hX fl_WC_10 d_WC_drop_49 ⟨rfl, by decide⟩ rfl rfl ?_
      refine g_callV hX yo_State_size q_222 d_WC_drop_52 (c_State_size st_1) rfl rfl ⟨rfl, by decide⟩ rfl (by decide) (Nat.le_of_ble_eq_true rfl) ⟨Nat.zero_le _, Nat.zero_le _⟩ (k_int fun r_52 M_52 ir_52 hp_52 => ?_)
      obtain ⟨er_52, eM_52⟩ := hp_52; replace er_52 := er_52.symm; replace eM_52 := eM_52.symm; subst er_52; subst eM_52
      rw [mU_self, y1, show max 0 (σ.1.1 - c) = σ.1.1 - c by omega] at ir_52 ⊢
      refine g_iret hX hR d_WC_drop_55 (by omega) ?_
      unfold q_drop; rw [if_neg (fun z => z z1), if_neg (by omega)]; exact ⟨rfl, CR_rec h ⟨by rw [mU_self], by show 0 ≤ σ.1.1 - c; omega, by show σ.1.1 - c ≤ 60; omega, fun j u v => by rw [mU_cell (by omega)]; exact y4 j u (by have zv : j < σ.1.1 - c := v; omega), fun j u v => by rw [mU_cell (by omega)]; exact y5 j u v⟩ (p1.to (fun a u v => by rw [mU_cell (by omega)])) (fun a u => by rw [mU_cell (by omega)]; exact p2 a (by omega)), fun a u => by rw [mU_cell (by omega)]; exact p2 a (by omega)⟩
    · refine g_sipush hX d_WC_drop_25 rfl ?_
      refine g_iret hX hR d_WC_drop_28 (by omega) ?_
      unfold q_drop; rw [if_neg (fun z => z z1), if_pos (by omega)]; exact ⟨rfl, h, fun _ _ => rfl⟩
  · have z1 := ite_eq h_7
    refine g_sipush hX d_WC_drop_10 rfl ?_
    refine g_iret hX hR d_WC_drop_13 (by omega) ?_
    unfold q_drop; rw [if_pos z1]; exact ⟨rfl, h, fun _ _ => rfl⟩
theorem c_WC_mend {Γ : gX} {l : Launch} {M : mI} {σ : sG} {p c : Int} (h : CR M σ) (ok : OkV σ) (hp : iR p) (hc : iR c) : Cn Γ l i_WC_mend R0 51 [.ref (gb Γ + 0), vI p, vI c] M (pI (fun r M' => r = (q_mend σ p c).1 ∧ CR M' (q_mend σ p c).2 ∧ ∀ a, 37 ≤ a → M' a = M a)) := by
  refine cn_intro (L := [some (.ref (gb Γ + 0)), some (vI p), some (vI c), none]) yo_WC_mend.1 rfl (Nat.le_of_ble_eq_true rfl) rfl (fun X hX hR => ?_)
  have hv := h.1
  obtain ⟨v1, v2, v3, v4, v5⟩ := id hv
  refine g_aload_n hX d_WC_mend_0 rfl ?_
  refine g_getR hX fl_WC_10 d_WC_mend_1 ⟨rfl, by decide⟩ rfl rfl ?_
  refine g_iload_n hX d_WC_mend_4 rfl ?_
  refine g_callV hX yo_State_hasPlace q_282 d_WC_mend_5 (c_State_hasPlace st_1 hp) rfl rfl ⟨rfl, by decide⟩ rfl (by decide) (Nat.le_of_ble_eq_true rfl) ⟨Nat.zero_le _, Nat.zero_le _⟩ (k_int fun r_5 M_5 ir_5 hp_5 => ?_)
  obtain ⟨er_5, eM_5⟩ := hp_5; replace er_5 := er_5.symm; replace eM_5 := eM_5.symm; subst er_5; subst eM_5
  refine g_if_eq 18 hX d_WC_mend_8 (by decide) (by first | omega | exact ite_iR) (fun h_8 => ?_) (fun h_8 => ?_)
  · have z1 := ite_eq h_8
    refine g_sipush hX d_WC_mend_18 rfl ?_
    refine g_iret hX hR d_WC_mend_21 (by omega) ?_
    unfold q_mend; rw [if_pos (by omega)]; exact ⟨rfl, h, fun _ _ => rfl⟩
  · have z1 := ite_ne h_8
    refine g_iload_n hX d_WC_mend_11 rfl ?_
    refine g_callS hX yo_WC_isLetter q_216 d_WC_mend_12 (c_WC_isLetter hc) rfl rfl (by decide) (Nat.le_of_ble_eq_true rfl) ⟨Nat.zero_le _, Nat.zero_le _⟩ (k_int fun r_12 M_12 ir_12 hp_12 => ?_)
    obtain ⟨er_12, eM_12⟩ := hp_12; replace er_12 := er_12.symm; replace eM_12 := eM_12.symm; subst er_12; subst eM_12
    refine g_if_ne 22 hX d_WC_mend_15 (by decide) (by first | omega | exact ite_iR) (fun h_15 => ?_) (fun h_15 => ?_)
    · have z2 := ite_ne h_15
      rw [v1] at z1
      refine g_aload_n hX d_WC_mend_22 rfl ?_
      refine g_getR hX fl_WC_26 d_WC_mend_23 ⟨rfl, by decide⟩ rfl rfl ?_
      refine g_aload_n hX d_WC_mend_26 rfl ?_
      refine g_getR hX fl_WC_10 d_WC_mend_27 ⟨rfl, by decide⟩ rfl rfl ?_
      refine g_callV hX yo_History_record q_226 d_WC_mend_30 (c_History_record (s := σ.1) h.2.1 hv) rfl rfl ⟨rfl, by decide⟩ rfl (by decide) (Nat.le_of_ble_eq_true rfl) ⟨Nat.zero_le _, Nat.zero_le _⟩ (k_void fun M_30 hp_30 => ?_)
      obtain ⟨p1, p2⟩ := hp_30
      have w1 : Sv M_30 1 σ.1.1 σ.1.2.1 σ.1.2.2 := hv.to (p2 1 (by omega)) (p2 2 (by omega)) (p2 3 (by omega))
      obtain ⟨y1, y2, y3, y4, y5⟩ := id w1
      refine g_aload_n hX d_WC_mend_33 rfl ?_
      refine g_getR hX fl_WC_10 d_WC_mend_34 ⟨rfl, by decide⟩ rfl rfl ?_
      refine g_iload_n hX d_WC_mend_37 rfl ?_
      refine g_callV hX yo_State_letterAt q_286 d_WC_mend_38 (c_State_letterAt st_1 (by omega)) rfl rfl ⟨rfl, by decide⟩ rfl (by decide) (Nat.le_of_ble_eq_true rfl) ⟨Nat.zero_le _, Nat.zero_le _⟩ (k_int fun r_38 M_38 ir_38 hp_38 => ?_)
      obtain ⟨er_38, eM_38⟩ := hp_38; replace er_38 := er_38.symm; replace eM_38 := eM_38.symm; subst er_38; subst eM_38
      rw [y4 p z1.1 z1.2] at ir_38 ⊢
      refine g_istore_n hX d_WC_mend_41 (by decide) ?_
      refine g_aload_n hX d_WC_mend_42 rfl ?_
      refine g_getR hX fl_WC_10 d_WC_mend_43 ⟨rfl, by decide⟩ rfl rfl ?_
      refine g_iload_n hX d_WC_mend_46 rfl ?_
      refine g_iload_n hX d_WC_mend_47 rfl ?_
      refine g_callV hX yo_State_changeLetter q_287 d_WC_mend_48 (c_State_changeLetter st_1 (by omega) hc) rfl rfl ⟨rfl, by decide⟩ rfl (by decide) (Nat.le_of_ble_eq_true rfl) ⟨Nat.zero_le _, Nat.zero_le _⟩ (k_void fun M_48 hp_48 => ?_)
      replace hp_48 := hp_48.symm; subst hp_48
      refine g_iload_n hX d_WC_mend_51 rfl ?_
      refine g_iret hX hR d_WC_mend_52 (by omega) ?_
      unfold q_mend; rw [if_neg (by omega)]; refine ⟨rfl, CR_rec h ⟨by rw [mU_cell (by omega)]; exact y1, v2, v3, fun j u v => ?_, fun j u v => by rw [mU_cell (by omega)]; exact y5 j u v⟩ (p1.to (fun a u v => by rw [mU_cell (by omega)])) (fun a u => by rw [mU_cell (by omega)]; exact p2 a (by omega)), fun a u => by rw [mU_cell (by omega)]; exact p2 a (by omega)⟩; rw [mU_if]; by_cases zj : j = p; (rw [if_pos zj]; exact (if_pos zj).symm); (rw [if_neg zj]; exact (y4 j u v).trans (if_neg zj).symm)
    · have z2 := ite_eq h_15
      refine g_sipush hX d_WC_mend_18 rfl ?_
      refine g_iret hX hR d_WC_mend_21 (by omega) ?_
      unfold q_mend; rw [if_pos (by omega)]; exact ⟨rfl, h, fun _ _ => rfl⟩
theorem c_WC_at_t {Γ : gX} {l : Launch} {M : mI} {t : Nat} {n : String} {f : Int → Int} {i : Int} (hT : ∀ U, Vf Γ U → sT Γ t n f U) (hi : 0 ≤ i ∧ i < 5) (hf : ∀ j, iR (f j)) : Cn Γ l i_WC_at R0 51 [.ref t, vI i] M (pI (fun r M' => r = f i ∧ M' = M)) := by
  refine cn_intro (L := [some (.ref t), some (vI i)]) yo_WC_at.1 rfl (Nat.le_of_ble_eq_true rfl) rfl (fun X hX hR => ?_)
  have zf := hf i
  refine g_iload_n hX d_WC_at_0 rfl ?_
  refine g_if_lt 16 hX d_WC_at_1 (by decide) (by omega) (fun h_1 => ?_) (fun h_1 => ?_)
  · exact absurd h_1 (by omega)
  · refine g_iload_n hX d_WC_at_4 rfl ?_
    refine g_aload_n hX d_WC_at_5 rfl ?_
    refine g_tlen hX (hT _ hX.2.2.2.2.2.2.1) d_WC_at_6 ?_
    refine g_icmp_ge 16 hX d_WC_at_7 (by decide) (by omega) (by omega) (fun h_7 => ?_) (fun h_7 => ?_)
    · exact absurd h_7 (by omega)
    · refine g_aload_n hX d_WC_at_10 rfl ?_
      refine g_iload_n hX d_WC_at_11 rfl ?_
      refine g_tald hX (hT _ hX.2.2.2.2.2.2.1) d_WC_at_12 hi ?_
      refine g_goto 17 hX d_WC_at_13 (by decide) ?_
      refine g_iret hX hR d_WC_at_17 (by omega) ?_
      exact ⟨rfl, rfl⟩
theorem c_WC_set {Γ : gX} {l : Launch} {M : mI} {σ : sG} {w c : Int} (h : CR M σ) (ok : OkV σ) (hw : iR w) (hc : iR c) : Cn Γ l i_WC_set R0 51 [.ref (gb Γ + 0), vI w, vI c] M (pI (fun r M' => r = (q_set σ w c).1 ∧ CR M' (q_set σ w c).2 ∧ ∀ a, 37 ≤ a → M' a = M a)) := by
  refine cn_intro (L := [some (.ref (gb Γ + 0)), some (vI w), some (vI c), none]) yo_WC_set.1 rfl (Nat.le_of_ble_eq_true rfl) rfl (fun X hX hR => ?_)
  have hv := h.1
  obtain ⟨v1, v2, v3, v4, v5⟩ := id hv
  refine g_iload_n hX d_WC_set_0 rfl ?_
  refine g_iconst hX d_WC_set_1 ?_
  refine g_iconst hX d_WC_set_2 ?_
  refine g_callS hX yo_WC_isIn q_219 d_WC_set_3 (c_WC_isIn hw (by omega) (by omega)) rfl rfl (by decide) (Nat.le_of_ble_eq_true rfl) ⟨Nat.zero_le _, Nat.zero_le _⟩ (k_int fun r_3 M_3 ir_3 hp_3 => ?_)
  obtain ⟨er_3, eM_3⟩ := hp_3; replace er_3 := er_3.symm; replace eM_3 := eM_3.symm; subst er_3; subst eM_3
  refine g_if_eq 30 hX d_WC_set_6 (by decide) (by first | omega | exact ite_iR) (fun h_6 => ?_) (fun h_6 => ?_)
  · have z1 := ite_eq h_6
    refine g_sipush hX d_WC_set_30 rfl ?_
    refine g_iret hX hR d_WC_set_33 (by omega) ?_
    unfold q_set; rw [if_pos (by omega)]; exact ⟨rfl, h, fun _ _ => rfl⟩
  · have z1 := ite_ne h_6
    refine g_iload_n hX d_WC_set_9 rfl ?_
    refine g_getsL hX d_WC_set_10 q_292 ?_
    refine g_iload_n hX d_WC_set_13 rfl ?_
    refine g_callS hX yo_WC_at q_294 d_WC_set_14 (c_WC_at_t (fun U hU => hU.2.2.2.1) (by omega) (fun j => by unfold fLow; split <;> omega)) rfl rfl (by decide) (Nat.le_of_ble_eq_true rfl) ⟨Nat.zero_le _, Nat.zero_le _⟩ (k_int fun r_14 M_14 ir_14 hp_14 => ?_)
    obtain ⟨er_14, eM_14⟩ := hp_14; replace er_14 := er_14.symm; replace eM_14 := eM_14.symm; subst er_14; subst eM_14
    refine g_getsH hX d_WC_set_17 q_295 ?_
    refine g_iload_n hX d_WC_set_20 rfl ?_
    refine g_callS hX yo_WC_at q_294 d_WC_set_21 (c_WC_at_t (fun U hU => hU.2.2.2.2.1) (by omega) (fun j => by unfold fHigh; split <;> (try split) <;> omega)) rfl rfl (by decide) (Nat.le_of_ble_eq_true rfl) ⟨Nat.zero_le _, Nat.zero_le _⟩ (k_int fun r_21 M_21 ir_21 hp_21 => ?_)
    obtain ⟨er_21, eM_21⟩ := hp_21; replace er_21 := er_21.symm; replace eM_21 := eM_21.symm; subst er_21; subst eM_21
    refine g_callS hX yo_WC_isIn q_219 d_WC_set_24 (c_WC_isIn hc (by omega) (by omega)) rfl rfl (by decide) (Nat.le_of_ble_eq_true rfl) ⟨Nat.zero_le _, Nat.zero_le _⟩ (k_int fun r_24 M_24 ir_24 hp_24 => ?_)
    obtain ⟨er_24, eM_24⟩ := hp_24; replace er_24 := er_24.symm; replace eM_24 := eM_24.symm; subst er_24; subst eM_24
    refine g_if_ne 34 hX d_WC_set_27 (by decide) (by first | omega | exact ite_iR) (fun h_27 => ?_) (fun h_27 => ?_)
    · have z2 := ite_ne h_27
      refine g_aload_n hX d_WC_set_34 rfl ?_
      refine g_getR hX fl_WC_26 d_WC_set_35 ⟨rfl, by decide⟩ rfl rfl ?_
      refine g_aload_n hX d_WC_set_38 rfl ?_
      refine g_getR hX fl_WC_10 d_WC_set_39 ⟨rfl, by decide⟩ rfl rfl ?_
      refine g_callV hX yo_History_record q_226 d_WC_set_42 (c_History_record (s := σ.1) h.2.1 hv) rfl rfl ⟨rfl, by decide⟩ rfl (by decide) (Nat.le_of_ble_eq_true rfl) ⟨Nat.zero_le _, Nat.zero_le _⟩ (k_void fun M_42 hp_42 => ?_)
      obtain ⟨p1, p2⟩ := hp_42
      have w1 : Sv M_42 1 σ.1.1 σ.1.2.1 σ.1.2.2 := hv.to (p2 1 (by omega)) (p2 2 (by omega)) (p2 3 (by omega))
      obtain ⟨y1, y2, y3, y4, y5⟩ := id w1
      refine g_aload_n hX d_WC_set_45 rfl ?_
      refine g_getR hX fl_WC_10 d_WC_set_46 ⟨rfl, by decide⟩ rfl rfl ?_
      refine g_iload_n hX d_WC_set_49 rfl ?_
      refine g_callV hX yo_State_setting q_297 d_WC_set_50 (c_State_setting st_1 (by omega)) rfl rfl ⟨rfl, by decide⟩ rfl (by decide) (Nat.le_of_ble_eq_true rfl) ⟨Nat.zero_le _, Nat.zero_le _⟩ (k_int fun r_50 M_50 ir_50 hp_50 => ?_)
      obtain ⟨er_50, eM_50⟩ := hp_50; replace er_50 := er_50.symm; replace eM_50 := eM_50.symm; subst er_50; subst eM_50
      rw [y5 w (by omega) (by omega)] at ir_50 ⊢
      refine g_istore_n hX d_WC_set_53 (by decide) ?_
      refine g_aload_n hX d_WC_set_54 rfl ?_
      refine g_getR hX fl_WC_10 d_WC_set_55 ⟨rfl, by decide⟩ rfl rfl ?_
      refine g_iload_n hX d_WC_set_58 rfl ?_
      refine g_iload_n hX d_WC_set_59 rfl ?_
      refine g_callV hX yo_State_changeSetting q_298 d_WC_set_60 (c_State_changeSetting st_1 (by omega) hc) rfl rfl ⟨rfl, by decide⟩ rfl (by decide) (Nat.le_of_ble_eq_true rfl) ⟨Nat.zero_le _, Nat.zero_le _⟩ (k_void fun M_60 hp_60 => ?_)
      replace hp_60 := hp_60.symm; subst hp_60
      refine g_iload_n hX d_WC_set_63 rfl ?_
      refine g_iret hX hR d_WC_set_64 (by omega) ?_
      unfold q_set; rw [if_neg (by omega)]; refine ⟨rfl, CR_rec h ⟨by rw [mU_cell (by omega)]; exact y1, v2, v3, fun j u v => by rw [mU_cell (by omega)]; exact y4 j u v, fun j u v => ?_⟩ (p1.to (fun a u v => by rw [mU_cell (by omega)])) (fun a u => by rw [mU_cell (by omega)]; exact p2 a (by omega)), fun a u => by rw [mU_cell (by omega)]; exact p2 a (by omega)⟩; rw [mU_if]; by_cases zj : j = w; (rw [if_pos zj]; exact (if_pos zj).symm); (rw [if_neg zj]; exact (y5 j u v).trans (if_neg zj).symm)
    · have z2 := ite_eq h_27
      refine g_sipush hX d_WC_set_30 rfl ?_
      refine g_iret hX hR d_WC_set_33 (by omega) ?_
      unfold q_set; rw [if_pos (by omega)]; exact ⟨rfl, h, fun _ _ => rfl⟩
theorem c_WC_letter {Γ : gX} {l : Launch} {M : mI} {σ : sG} {p : Int} (h : CR M σ) (hp : iR p) : Cn Γ l i_WC_letter R0 51 [.ref (gb Γ + 0), vI p] M (pI (fun r M' => r = q_letter σ p ∧ M' = M)) := by
  refine cn_intro (L := [some (.ref (gb Γ + 0)), some (vI p)]) yo_WC_letter.1 rfl (Nat.le_of_ble_eq_true rfl) rfl (fun X hX hR => ?_)
  have hv := h.1
  obtain ⟨v1, v2, v3, v4, v5⟩ := id hv
  refine g_aload_n hX d_WC_letter_0 rfl ?_
  refine g_getR hX fl_WC_10 d_WC_letter_1 ⟨rfl, by decide⟩ rfl rfl ?_
  refine g_iload_n hX d_WC_letter_4 rfl ?_
  refine g_callV hX yo_State_hasPlace q_282 d_WC_letter_5 (c_State_hasPlace st_1 hp) rfl rfl ⟨rfl, by decide⟩ rfl (by decide) (Nat.le_of_ble_eq_true rfl) ⟨Nat.zero_le _, Nat.zero_le _⟩ (k_int fun r_5 M_5 ir_5 hp_5 => ?_)
  obtain ⟨er_5, eM_5⟩ := hp_5; replace er_5 := er_5.symm; replace eM_5 := eM_5.symm; subst er_5; subst eM_5
  refine g_if_eq 22 hX d_WC_letter_8 (by decide) (by first | omega | exact ite_iR) (fun h_8 => ?_) (fun h_8 => ?_)
  · have z1 := ite_eq h_8
    rw [v1] at z1
    refine g_sipush hX d_WC_letter_22 rfl ?_
    refine g_iret hX hR d_WC_letter_25 (by omega) ?_
    unfold q_letter; first | (rw [if_pos z1]; exact ⟨v4 p z1.1 z1.2, rfl⟩) | (rw [if_neg z1]; exact ⟨rfl, rfl⟩)
  · have z1 := ite_ne h_8
    rw [v1] at z1
    refine g_aload_n hX d_WC_letter_11 rfl ?_
    refine g_getR hX fl_WC_10 d_WC_letter_12 ⟨rfl, by decide⟩ rfl rfl ?_
    refine g_iload_n hX d_WC_letter_15 rfl ?_
    refine g_callV hX yo_State_letterAt q_286 d_WC_letter_16 (c_State_letterAt st_1 (by omega)) rfl rfl ⟨rfl, by decide⟩ rfl (by decide) (Nat.le_of_ble_eq_true rfl) ⟨Nat.zero_le _, Nat.zero_le _⟩ (k_int fun r_16 M_16 ir_16 hp_16 => ?_)
    obtain ⟨er_16, eM_16⟩ := hp_16; replace er_16 := er_16.symm; replace eM_16 := eM_16.symm; subst er_16; subst eM_16
    refine g_goto 25 hX d_WC_letter_19 (by decide) ?_
    refine g_iret hX hR d_WC_letter_25 (by omega) ?_
    unfold q_letter; first | (rw [if_pos z1]; exact ⟨v4 p z1.1 z1.2, rfl⟩) | (rw [if_neg z1]; exact ⟨rfl, rfl⟩)
theorem CR_scr {M M' : mI} {σ : sG} (h : CR M σ) (he : ∀ a, a ≠ 21 → a ≠ 22 → a ≠ 23 → M' a = M a) : CR M' σ ∧ ∀ a, 37 ≤ a → M' a = M a := ⟨h.to (fun a u => he a (by omega) (by omega) (by omega)), fun a u => he a (by omega) (by omega) (by omega)⟩
theorem c_WC_candidate {Γ : gX} {l : Launch} {M : mI} {σ : sG} {p i w : Int} (h : CR M σ) (ok : OkV σ) (hp : iR p) (hi : iR i) (hw : iR w) : Cn Γ l i_WC_candidate R0 51 [.ref (gb Γ + 0), vI p, vI i, vI w] M (pI (fun r M' => r = q_candidate σ p i w ∧ CR M' σ ∧ ∀ a, 37 ≤ a → M' a = M a)) := by
  refine cn_intro (L := [some (.ref (gb Γ + 0)), some (vI p), some (vI i), some (vI w)]) yo_WC_candidate.1 rfl (Nat.le_of_ble_eq_true rfl) rfl (fun X hX hR => ?_)
  have hv := h.1
  obtain ⟨v1, v2, v3, v4, v5⟩ := id hv
  refine g_aload_n hX d_WC_candidate_0 rfl ?_
  refine g_getR hX fl_WC_10 d_WC_candidate_1 ⟨rfl, by decide⟩ rfl rfl ?_
  refine g_iload_n hX d_WC_candidate_4 rfl ?_
  refine g_callV hX yo_State_hasPlace q_282 d_WC_candidate_5 (c_State_hasPlace st_1 hp) rfl rfl ⟨rfl, by decide⟩ rfl (by decide) (Nat.le_of_ble_eq_true rfl) ⟨Nat.zero_le _, Nat.zero_le _⟩ (k_int fun r_5 M_5 ir_5 hp_5 => ?_)
  obtain ⟨er_5, eM_5⟩ := hp_5; replace er_5 := er_5.symm; replace eM_5 := eM_5.symm; subst er_5; subst eM_5
  refine g_if_eq 24 hX d_WC_candidate_8 (by decide) (by first | omega | exact ite_iR) (fun h_8 => ?_) (fun h_8 => ?_)
  · have z1 := ite_eq h_8
    refine g_sipush hX d_WC_candidate_24 rfl ?_
    refine g_iret hX hR d_WC_candidate_27 (by omega) ?_
    unfold q_candidate; rw [if_pos (by omega)]; exact ⟨rfl, h, fun _ _ => rfl⟩
  · have z1 := ite_ne h_8
    refine g_iload_n hX d_WC_candidate_11 rfl ?_
    refine g_if_lt 24 hX d_WC_candidate_12 (by decide) (by first | omega | exact ite_iR) (fun h_12 => ?_) (fun h_12 => ?_)
    · refine g_sipush hX d_WC_candidate_24 rfl ?_
      refine g_iret hX hR d_WC_candidate_27 (by omega) ?_
      unfold q_candidate; rw [if_pos (by omega)]; exact ⟨rfl, h, fun _ _ => rfl⟩
    · refine g_iload_n hX d_WC_candidate_15 rfl ?_
      refine g_iconst hX d_WC_candidate_16 ?_
      refine g_iconst hX d_WC_candidate_17 ?_
      refine g_callS hX yo_WC_isIn q_219 d_WC_candidate_18 (c_WC_isIn hw (by omega) (by omega)) rfl rfl (by decide) (Nat.le_of_ble_eq_true rfl) ⟨Nat.zero_le _, Nat.zero_le _⟩ (k_int fun r_18 M_18 ir_18 hp_18 => ?_)
      obtain ⟨er_18, eM_18⟩ := hp_18; replace er_18 := er_18.symm; replace eM_18 := eM_18.symm; subst er_18; subst eM_18
      refine g_if_ne 28 hX d_WC_candidate_21 (by decide) (by first | omega | exact ite_iR) (fun h_21 => ?_) (fun h_21 => ?_)
      · have z2 := ite_ne h_21
        rw [v1] at z1
        refine g_aload_n hX d_WC_candidate_28 rfl ?_
        refine g_getR hX fl_WC_35 d_WC_candidate_29 ⟨rfl, by decide⟩ rfl rfl ?_
        refine g_iload_n hX d_WC_candidate_32 rfl ?_
        refine g_callV hX yo_Cand_lookAt q_307 d_WC_candidate_33 (c_Cand_lookAt hv ok.1.2.1 z1) rfl rfl ⟨rfl, by decide⟩ rfl (by decide) (Nat.le_of_ble_eq_true rfl) ⟨Nat.zero_le _, Nat.zero_le _⟩ (k_void fun M_33 hp_33 => ?_)
        obtain ⟨p1, p2⟩ := hp_33
        obtain ⟨e1, e2⟩ := CR_scr h p2
        have p5 := p1.2.2.2.1
        refine g_iload_n hX d_WC_candidate_36 rfl ?_
        refine g_aload_n hX d_WC_candidate_37 rfl ?_
        refine g_getR hX fl_WC_35 d_WC_candidate_38 ⟨rfl, by decide⟩ rfl rfl ?_
        refine g_callV hX yo_Cand_lookedAt q_331 d_WC_candidate_41 c_Cand_lookedAt rfl rfl ⟨rfl, by decide⟩ rfl (by decide) (Nat.le_of_ble_eq_true rfl) ⟨Nat.zero_le _, Nat.zero_le _⟩ (k_int fun r_41 M_41 ir_41 hp_41 => ?_)
        obtain ⟨er_41, eM_41⟩ := hp_41; replace er_41 := er_41.symm; replace eM_41 := eM_41.symm; subst er_41; subst eM_41
        rw [p5] at ir_41 ⊢
        refine g_icmp_lt 51 hX d_WC_candidate_44 (by decide) (by omega) (by omega) (fun h_44 => ?_) (fun h_44 => ?_)
        · have hl : (cs σ.1.1 σ.1.2.1 σ.1.2.2 p)[i.toNat]? = some ((cs σ.1.1 σ.1.2.1 σ.1.2.2 p).getD i.toNat 0) := by (rw [List.getD_eq_getElem?_getD, List.getElem?_eq_getElem (by omega)]; rfl)
          have zi : ((i.toNat : Nat) : Int) = i := by omega
          refine g_iload_n hX d_WC_candidate_51 rfl ?_
          refine g_if_ne 66 hX d_WC_candidate_52 (by decide) (by first | omega | exact ite_iR) (fun h_52 => ?_) (fun h_52 => ?_)
          · refine g_aload_n hX d_WC_candidate_66 rfl ?_
            refine g_getR hX fl_WC_35 d_WC_candidate_67 ⟨rfl, by decide⟩ rfl rfl ?_
            refine g_iload_n hX d_WC_candidate_70 rfl ?_
            rw [← zi]
            refine g_callV hX yo_Cand_reach q_339 d_WC_candidate_71 (c_Cand_reach p1 ok.1.2.1 hl ⟨z1.1, by omega, v3⟩) rfl rfl ⟨rfl, by decide⟩ rfl (by decide) (Nat.le_of_ble_eq_true rfl) ⟨Nat.zero_le _, Nat.zero_le _⟩ (k_int fun r_71 M_71 ir_71 hp_71 => ?_)
            obtain ⟨er_71, eM_71⟩ := hp_71; replace er_71 := er_71.symm; replace eM_71 := eM_71.symm; subst er_71; subst eM_71
            refine g_iret hX hR d_WC_candidate_74 (by omega) ?_
            unfold q_candidate; rw [if_neg (by omega), if_neg (by omega)]; first | (rw [if_pos (by omega)]; exact ⟨rfl, e1, e2⟩) | (rw [if_neg (by omega)]; exact ⟨rfl, e1, e2⟩)
          · refine g_aload_n hX d_WC_candidate_55 rfl ?_
            refine g_getR hX fl_WC_35 d_WC_candidate_56 ⟨rfl, by decide⟩ rfl rfl ?_
            refine g_iload_n hX d_WC_candidate_59 rfl ?_
            rw [← zi]
            refine g_callV hX yo_Cand_distance q_335 d_WC_candidate_60 (c_Cand_distance p1 ok.1.2.1 hl) rfl rfl ⟨rfl, by decide⟩ rfl (by decide) (Nat.le_of_ble_eq_true rfl) ⟨Nat.zero_le _, Nat.zero_le _⟩ (k_int fun r_60 M_60 ir_60 hp_60 => ?_)
            obtain ⟨er_60, eM_60⟩ := hp_60; replace er_60 := er_60.symm; replace eM_60 := eM_60.symm; subst er_60; subst eM_60
            refine g_goto 74 hX d_WC_candidate_63 (by decide) ?_
            refine g_iret hX hR d_WC_candidate_74 (by omega) ?_
            unfold q_candidate; rw [if_neg (by omega), if_neg (by omega)]; first | (rw [if_pos (by omega)]; exact ⟨rfl, e1, e2⟩) | (rw [if_neg (by omega)]; exact ⟨rfl, e1, e2⟩)
        · refine g_sipush hX d_WC_candidate_47 rfl ?_
          refine g_iret hX hR d_WC_candidate_50 (by omega) ?_
          unfold q_candidate; rw [if_neg (by omega), if_pos (by omega)]; exact ⟨rfl, e1, e2⟩
      · have z2 := ite_eq h_21
        refine g_sipush hX d_WC_candidate_24 rfl ?_
        refine g_iret hX hR d_WC_candidate_27 (by omega) ?_
        unfold q_candidate; rw [if_pos (by omega)]; exact ⟨rfl, h, fun _ _ => rfl⟩
