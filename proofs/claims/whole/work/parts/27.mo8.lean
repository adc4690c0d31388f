/-! the reference: reading -/
theorem Nt.ch {M : mI} {t : List Int} (h : Nt M t) {i : Int} (hi : 0 ≤ i) (hl : i < t.length) : M 41 i = ch t i := by
  have zl : t[i.toNat]? = some (t.getD i.toNat 0) := by
    rw [List.getD_eq_getElem?_getD, List.getElem?_eq_getElem (by omega)]; rfl
  have zz := h.2.2 i.toNat _ zl
  rw [show ((i.toNat : Nat) : Int) = i by omega] at zz
  show _ = (if i < t.length then t.getD i.toNat 0 else -1)
  rw [if_pos hl, zz]
theorem ch_end {t : List Int} {i : Int} (h : (t.length : Int) ≤ i) : ch t i = -1 := by
  show (if i < t.length then t.getD i.toNat 0 else -1) = -1
  rw [if_neg (by omega)]
theorem ch_lt {t : List Int} {i : Int} (h : -1 < ch t i) : i < t.length := by
  rcases Int.lt_or_le i t.length with z | z
  · exact z
  · rw [ch_end z] at h; omega
def nV (t : List Int) (i : Int) : Int := if dgt t i = 0 ∨ dgt t (i + 1) = -1 then dgt t i else dgt t i * 10 + dgt t (i + 1)
def nP (t : List Int) (i : Int) : Int := if dgt t i = 0 ∨ dgt t (i + 1) = -1 then i + 1 else i + 2
theorem pN_no {t : List Int} {i pl : Int} (h : dgt t i = -1) : pN t (i, pl, 0) = (-1, i, i, 1) := by
  unfold pN
  rw [if_neg (by show ¬ (0 : Int) ≠ 0; omega), if_pos h]
theorem pN_yes {t : List Int} {i pl : Int} (h : dgt t i ≠ -1) : pN t (i, pl, 0) = (nV t i, nP t i, pl, 0) := by
  unfold pN nV nP
  rw [if_neg (by show ¬ (0 : Int) ≠ 0; omega), if_neg h]
  by_cases hc : dgt t i = 0 ∨ dgt t (i + 1) = -1
  · rw [if_pos hc, if_pos hc, if_pos hc]
  · rw [if_neg hc, if_neg hc, if_neg hc]
theorem pN_bad (t : List Int) (i pl w : Int) (h : w ≠ 0) : pN t (i, pl, w) = (-1, i, pl, w) := by
  unfold pN
  rw [if_pos h]
theorem pS_no {t : List Int} {c i pl : Int} (h : ch t i ≠ c) : pS t c (i, pl, 0) = (i, i, 1) := by
  unfold pS
  rw [if_neg (by show ¬ (0 : Int) ≠ 0; omega), if_neg h]
theorem pS_yes {t : List Int} {c i pl : Int} (h : ch t i = c) : pS t c (i, pl, 0) = (i + 1, pl, 0) := by
  unfold pS
  rw [if_neg (by show ¬ (0 : Int) ≠ 0; omega), if_pos h]
theorem pS_bad (t : List Int) (c i pl w : Int) (h : w ≠ 0) : pS t c (i, pl, w) = (i, pl, w) := by
  unfold pS
  rw [if_pos h]
theorem s4_A {t : List Int} {i pl : Int} (h : dgt t (i + 1) = -1) : s4C t i pl = (i + 1, i + 1, 1) := by
  unfold s4C
  rw [pN_no h]
  show pS t 41 (pN t (pS t 44 (i + 1, i + 1, 1))).2 = _
  rw [pS_bad t 44 (i + 1) (i + 1) 1 (by decide), pN_bad t (i + 1) (i + 1) 1 (by decide)]
  exact pS_bad t 41 (i + 1) (i + 1) 1 (by decide)
theorem s4_B {t : List Int} {i pl : Int} (h : dgt t (i + 1) ≠ -1) (h2 : ch t (nP t (i + 1)) ≠ 44) : s4C t i pl = (nP t (i + 1), nP t (i + 1), 1) := by
  unfold s4C
  rw [pN_yes h]
  show pS t 41 (pN t (pS t 44 (nP t (i + 1), pl, 0))).2 = _
  rw [pS_no h2, pN_bad _ _ _ _ (by decide)]
  exact pS_bad _ _ _ _ _ (by decide)
theorem s4_C {t : List Int} {i pl : Int} (h : dgt t (i + 1) ≠ -1) (h2 : ch t (nP t (i + 1)) = 44) (h3 : dgt t (nP t (i + 1) + 1) = -1) : s4C t i pl = (nP t (i + 1) + 1, nP t (i + 1) + 1, 1) := by
  unfold s4C
  rw [pN_yes h]
  show pS t 41 (pN t (pS t 44 (nP t (i + 1), pl, 0))).2 = _
  rw [pS_yes h2, pN_no h3]
  exact pS_bad _ _ _ _ _ (by decide)
theorem s4_D {t : List Int} {i pl : Int} (h : dgt t (i + 1) ≠ -1) (h2 : ch t (nP t (i + 1)) = 44) (h3 : dgt t (nP t (i + 1) + 1) ≠ -1) : s4C t i pl = (if ch t (nP t (nP t (i + 1) + 1)) = 41 then (nP t (nP t (i + 1) + 1) + 1, pl, 0) else (nP t (nP t (i + 1) + 1), nP t (nP t (i + 1) + 1), 1)) ∧ dC t i pl = nV t (i + 1) ∧ lC t i pl = nV t (nP t (i + 1) + 1) := by
  refine ⟨?_, ?_, ?_⟩
  · unfold s4C
    rw [pN_yes h]
    show pS t 41 (pN t (pS t 44 (nP t (i + 1), pl, 0))).2 = _
    rw [pS_yes h2, pN_yes h3]
    show pS t 41 (nP t (nP t (i + 1) + 1), pl, 0) = _
    split
    · rename_i h4; exact pS_yes h4
    · rename_i h4; exact pS_no h4
  · unfold dC
    rw [pN_yes h]
  · unfold lC
    rw [pN_yes h]
    show (pN t (pS t 44 (nP t (i + 1), pl, 0))).1 = _
    rw [pS_yes h2, pN_yes h3]
def NF (M' M : mI) : Prop := (∀ a, a ≠ 37 → M' a = M a) ∧ ∀ j, j ≠ 16 → j ≠ 18 → M' 37 j = M 37 j
theorem NF.trans {M M' M'' : mI} (h : NF M'' M') (h2 : NF M' M) : NF M'' M := ⟨fun a u => (h.1 a u).trans (h2.1 a u), fun j u v => (h.2 j u v).trans (h2.2 j u v)⟩
theorem NF.nt {M M' : mI} {t : List Int} (h : NF M' M) (ht : Nt M t) : Nt M' t := ht.to (h.2 6 (by decide) (by decide)) (h.1 41 (by decide))
def RF (M' M : mI) : Prop := (∀ a, a ≠ 37 → a ≠ 50 → M' a = M a) ∧ ∀ j, j < 16 → M' 37 j = M 37 j
theorem RF.trans {M M' M'' : mI} (h : RF M'' M') (h2 : RF M' M) : RF M'' M := ⟨fun a u v => (h.1 a u v).trans (h2.1 a u v), fun j u => (h.2 j u).trans (h2.2 j u)⟩
theorem RF.nt {M M' : mI} {t : List Int} (h : RF M' M) (ht : Nt M t) : Nt M' t := ht.to (h.2 6 (by decide)) (h.1 41 (by decide) (by decide))
theorem RF.mr {M M' : mI} {σ : sG} (h : RF M' M) (hm : MR M σ) : MR M' σ := hm.to (fun a u v => h.1 a (by omega) (by omega)) (h.2 3 (by decide)) (h.2 4 (by decide)) (h.2 6 (by decide))
theorem NF.rf {M M' : mI} (h : NF M' M) : RF M' M := ⟨fun a u _ => h.1 a u, fun j u => h.2 j (by omega) (by omega)⟩
theorem RF.put {M : mI} {j v : Int} (h : 16 ≤ j) : RF (mU M 37 j v) M := ⟨fun a u _ => mU_cell u, fun k u => mU_slot (by omega)⟩
theorem c_Mo_isAt {Γ : gX} {l : Launch} {M : mI} {t : List Int} {i a b : Int} (ht : Nt M t) (hi : M 37 16 = i) (h0 : 0 ≤ i) (ha : 0 ≤ a ∧ iR a) (hb : iR b) : Cn Γ l i_Mo_isAt R0 51 [.ref (gb Γ + 37), vI a, vI b] M (pI (fun r M' => r = (if a ≤ ch t i ∧ ch t i ≤ b then 1 else 0) ∧ M' = M)) := by
  refine cn_intro (L := [some (.ref (gb Γ + 37)), some (vI a), some (vI b)]) yo_Mo_isAt.1 rfl (Nat.le_of_ble_eq_true rfl) rfl (fun X hX hR => ?_)
  have t1 := ht.1
  have t2 := ht.2.1
  refine g_aload_n hX d_Mo_isAt_0 rfl ?_
  refine g_getI hX fl_Mo_143 d_Mo_isAt_1 16 ⟨rfl, by decide⟩ rfl rfl (fun r_1 => ?_)
  refine g_aload_n hX d_Mo_isAt_4 rfl ?_
  refine g_getI hX fl_Mo_123 d_Mo_isAt_5 6 ⟨rfl, by decide⟩ rfl rfl (fun r_5 => ?_)
  refine g_icmp_ge 32 hX d_Mo_isAt_8 (by decide) (by omega) (by omega) (fun h_8 => ?_) (fun h_8 => ?_)
  · have zc : ch t i = -1 := ch_end (by omega)
    refine g_iconst hX d_Mo_isAt_32 ?_
    refine g_zret hX hR d_Mo_isAt_33 (by omega) ?_
    exact ⟨by first | rw [if_pos (by omega)] | rw [if_neg (by omega)], rfl⟩
  · refine g_aload_n hX d_Mo_isAt_11 rfl ?_
    refine g_getR hX fl_Mo_19 d_Mo_isAt_12 ⟨rfl, by decide⟩ rfl rfl ?_
    refine g_aload_n hX d_Mo_isAt_15 rfl ?_
    refine g_getI hX fl_Mo_143 d_Mo_isAt_16 16 ⟨rfl, by decide⟩ rfl rfl (fun r_16 => ?_)
    rw [hi] at r_16 ⊢
    refine g_iald hX d_Mo_isAt_19 ⟨rfl, by decide⟩ (by omega) (fun r_19 => ?_)
    rw [ht.ch h0 (by omega)] at r_19 ⊢
    refine g_iload_n hX d_Mo_isAt_20 rfl ?_
    refine g_iload_n hX d_Mo_isAt_21 rfl ?_
    refine g_callS hX yo_Mo_in q_732 d_Mo_isAt_22 (c_Mo_in r_19 ha.2 hb) rfl rfl (by decide) (Nat.le_of_ble_eq_true rfl) ⟨Nat.zero_le _, Nat.zero_le _⟩ (k_int fun r_22 M_22 ir_22 hp_22 => ?_)
    obtain ⟨er_22, eM_22⟩ := hp_22; replace er_22 := er_22.symm; replace eM_22 := eM_22.symm; subst er_22; subst eM_22
    refine g_if_eq 32 hX d_Mo_isAt_25 (by decide) (by first | omega | exact ite_iR) (fun h_25 => ?_) (fun h_25 => ?_)
    · have z1 := ite_eq h_25
      refine g_iconst hX d_Mo_isAt_32 ?_
      refine g_zret hX hR d_Mo_isAt_33 (by omega) ?_
      exact ⟨by first | rw [if_pos (by omega)] | rw [if_neg (by omega)], rfl⟩
    · have z1 := ite_ne h_25
      refine g_iconst hX d_Mo_isAt_28 ?_
      refine g_goto 33 hX d_Mo_isAt_29 (by decide) ?_
      refine g_zret hX hR d_Mo_isAt_33 (by omega) ?_
      exact ⟨by first | rw [if_pos (by omega)] | rw [if_neg (by omega)], rfl⟩
theorem c_Mo_fails {Γ : gX} {l : Launch} {M : mI} {w : Int} (hw : iR w) : Cn Γ l i_Mo_fails R0 51 [.ref (gb Γ + 37), vI w] M (pI (fun r M' => r = 0 ∧ M' = mU M 37 17 w)) := by
  refine cn_intro (L := [some (.ref (gb Γ + 37)), some (vI w)]) yo_Mo_fails.1 rfl (Nat.le_of_ble_eq_true rfl) rfl (fun X hX hR => ?_)
  refine g_aload_n hX d_Mo_fails_0 rfl ?_
  refine g_iload_n hX d_Mo_fails_1 rfl ?_
  refine g_putI hX fl_Mo_146 d_Mo_fails_2 17 ⟨rfl, by decide⟩ rfl rfl (fun q h => by cases h; rfl) rfl (by omega) ?_
  refine g_iconst hX d_Mo_fails_5 ?_
  refine g_zret hX hR d_Mo_fails_6 (by omega) ?_
  exact ⟨rfl, rfl⟩
theorem c_Mo_sign {Γ : gX} {l : Launch} {M : mI} {t : List Int} {i c : Int} (ht : Nt M t) (hi : M 37 16 = i) (h0 : 0 ≤ i ∧ i ≤ 200) (hc : 0 ≤ c ∧ iR c) : Cn Γ l i_Mo_sign R0 51 [.ref (gb Γ + 37), vI c] M (pI (fun r M' => r = (if ch t i = c then 1 else 0) ∧ (ch t i = c → M' 37 16 = i + 1) ∧ (ch t i ≠ c → M' 37 16 = i) ∧ NF M' M ∧ M' 37 18 = M 37 18)) := by
  refine cn_intro (L := [some (.ref (gb Γ + 37)), some (vI c), none]) yo_Mo_sign.1 rfl (Nat.le_of_ble_eq_true rfl) rfl (fun X hX hR => ?_)
  refine g_aload_n hX d_Mo_sign_0 rfl ?_
  refine g_iload_n hX d_Mo_sign_1 rfl ?_
  refine g_iload_n hX d_Mo_sign_2 rfl ?_
  refine g_callV hX yo_Mo_isAt q_907 d_Mo_sign_3 (c_Mo_isAt ht hi h0.1 hc hc.2) rfl rfl ⟨rfl, by decide⟩ rfl (by decide) (Nat.le_of_ble_eq_true rfl) ⟨Nat.zero_le _, Nat.zero_le _⟩ (k_int fun r_3 M_3 ir_3 hp_3 => ?_)
  obtain ⟨er_3, eM_3⟩ := hp_3; replace er_3 := er_3.symm; replace eM_3 := eM_3.symm; subst er_3; subst eM_3
  refine g_istore_n hX d_Mo_sign_6 (by decide) ?_
  refine g_aload_n hX d_Mo_sign_7 rfl ?_
  refine g_dup hX d_Mo_sign_8 rfl ?_
  refine g_getI hX fl_Mo_143 d_Mo_sign_9 16 ⟨rfl, by decide⟩ rfl rfl (fun r_9 => ?_)
  rw [hi] at r_9 ⊢
  refine g_iload_n hX d_Mo_sign_12 rfl ?_
  refine g_if_eq 20 hX d_Mo_sign_13 (by decide) (by first | omega | exact ite_iR) (fun h_13 => ?_) (fun h_13 => ?_)
  · have z1 := ite_eq h_13
    refine g_iconst hX d_Mo_sign_20 ?_
    refine g_iadd hX d_Mo_sign_21 ?_
    refine g_putI hX fl_Mo_143 d_Mo_sign_22 16 ⟨rfl, by decide⟩ rfl rfl (fun q h => by cases h; rfl) rfl (by omega) ?_
    refine g_iload_n hX d_Mo_sign_25 rfl ?_
    refine g_zret hX hR d_Mo_sign_26 (by first | (rw [if_pos (by omega)]; omega) | (rw [if_neg (by omega)]; omega)) ?_
    refine ⟨?_, fun z => by (rw [mU_self]; first | done | omega), fun z => by (rw [mU_self]; first | done | omega), ⟨fun a u => mU_cell u, fun j u _ => mU_slot u⟩, mU_slot (by decide)⟩; first | rw [if_pos (by omega), if_pos (by omega)] | rw [if_neg (by omega), if_neg (by omega)]
  · have z1 := ite_ne h_13
    refine g_iconst hX d_Mo_sign_16 ?_
    refine g_goto 21 hX d_Mo_sign_17 (by decide) ?_
    refine g_iadd hX d_Mo_sign_21 ?_
    refine g_putI hX fl_Mo_143 d_Mo_sign_22 16 ⟨rfl, by decide⟩ rfl rfl (fun q h => by cases h; rfl) rfl (by omega) ?_
    refine g_iload_n hX d_Mo_sign_25 rfl ?_
    refine g_zret hX hR d_Mo_sign_26 (by first | (rw [if_pos (by omega)]; omega) | (rw [if_neg (by omega)]; omega)) ?_
    refine ⟨?_, fun z => by (rw [mU_self]; first | done | omega), fun z => by (rw [mU_self]; first | done | omega), ⟨fun a u => mU_cell u, fun j u _ => mU_slot u⟩, mU_slot (by decide)⟩; first | rw [if_pos (by omega), if_pos (by omega)] | rw [if_neg (by omega), if_neg (by omega)]
theorem c_Mo_numbered {Γ : gX} {l : Launch} {M : mI} {t : List Int} {i : Int} (ht : Nt M t) (hi : M 37 16 = i) (h0 : 0 ≤ i) : Cn Γ l i_Mo_numbered R0 51 [.ref (gb Γ + 37)] M (pI (fun r M' => r = (if dgt t i = -1 then 0 else 1) ∧ (dgt t i = -1 → M' 37 16 = i) ∧ (dgt t i ≠ -1 → M' 37 18 = nV t i ∧ M' 37 16 = nP t i) ∧ NF M' M)) := by
  refine cn_intro (L := [some (.ref (gb Γ + 37))]) yo_Mo_numbered.1 rfl (Nat.le_of_ble_eq_true rfl) rfl (fun X hX hR => ?_)
  have t1 := ht.1
  have t2 := ht.2.1
  refine g_aload_n hX d_Mo_numbered_0 rfl ?_
  refine g_bipush hX d_Mo_numbered_1 rfl ?_
  refine g_bipush hX d_Mo_numbered_3 rfl ?_
  refine g_callV hX yo_Mo_isAt q_907 d_Mo_numbered_5 (c_Mo_isAt ht hi h0 (by omega) (by omega)) rfl rfl ⟨rfl, by decide⟩ rfl (by decide) (Nat.le_of_ble_eq_true rfl) ⟨Nat.zero_le _, Nat.zero_le _⟩ (k_int fun r_5 M_5 ir_5 hp_5 => ?_)
  obtain ⟨er_5, eM_5⟩ := hp_5; replace er_5 := er_5.symm; replace eM_5 := eM_5.symm; subst er_5; subst eM_5
  refine g_if_ne 13 hX d_Mo_numbered_8 (by decide) (by first | omega | exact ite_iR) (fun h_8 => ?_) (fun h_8 => ?_)
  · have z1 := ite_ne h_8
    have zd : dgt t i = ch t i - 48 := by (unfold dgt; rw [if_pos z1])
    have zlen : i < t.length := ch_lt (by omega)
    refine g_aload_n hX d_Mo_numbered_13 rfl ?_
    refine g_aload_n hX d_Mo_numbered_14 rfl ?_
    refine g_getR hX fl_Mo_19 d_Mo_numbered_15 ⟨rfl, by decide⟩ rfl rfl ?_
    refine g_aload_n hX d_Mo_numbered_18 rfl ?_
    refine g_getI hX fl_Mo_143 d_Mo_numbered_19 16 ⟨rfl, by decide⟩ rfl rfl (fun r_19 => ?_)
    rw [hi] at r_19 ⊢
    refine g_iald hX d_Mo_numbered_22 ⟨rfl, by decide⟩ (by omega) (fun r_22 => ?_)
    rw [ht.ch h0 zlen] at r_22 ⊢
    refine g_bipush hX d_Mo_numbered_23 rfl ?_
    refine g_isub hX d_Mo_numbered_25 ?_
    refine g_putI hX fl_Mo_152 d_Mo_numbered_26 18 ⟨rfl, by decide⟩ rfl rfl (fun q h => by cases h; rfl) rfl (by omega) ?_
    refine g_aload_n hX d_Mo_numbered_29 rfl ?_
    refine g_dup hX d_Mo_numbered_30 rfl ?_
    refine g_getI hX fl_Mo_143 d_Mo_numbered_31 16 ⟨rfl, by decide⟩ rfl rfl (fun r_31 => ?_)
    rw [mU_slot (by decide), hi] at r_31 ⊢
    refine g_iconst hX d_Mo_numbered_34 ?_
    refine g_iadd hX d_Mo_numbered_35 ?_
    refine g_putI hX fl_Mo_143 d_Mo_numbered_36 16 ⟨rfl, by decide⟩ rfl rfl (fun q h => by cases h; rfl) rfl (by omega) ?_
    refine g_aload_n hX d_Mo_numbered_39 rfl ?_
    refine g_getI hX fl_Mo_152 d_Mo_numbered_40 18 ⟨rfl, by decide⟩ rfl rfl (fun r_40 => ?_)
    rw [mU_slot (by decide), mU_self] at r_40 ⊢
    refine g_if_le 91 hX d_Mo_numbered_43 (by decide) (by first | omega | exact ite_iR) (fun h_43 => ?_) (fun h_43 => ?_)
    · have zn : nV t i = ch t i - 48 ∧ nP t i = i + 1 := by (unfold nV nP; rw [if_pos (Or.inl (by omega)), if_pos (Or.inl (by omega))]; exact ⟨zd, rfl⟩)
      refine g_iconst hX d_Mo_numbered_91 ?_
      refine g_zret hX hR d_Mo_numbered_92 (by omega) ?_
      exact ⟨by rw [if_neg (by omega)], fun z => absurd z (by omega), fun _ => ⟨by rw [mU_slot (by decide), mU_self]; omega, by rw [mU_self]; omega⟩, fun a u => by simp only [mU_cell u], fun j u v => by simp only [mU_slot u, mU_slot v]⟩
    · refine g_aload_n hX d_Mo_numbered_46 rfl ?_
      refine g_bipush hX d_Mo_numbered_47 rfl ?_
      refine g_bipush hX d_Mo_numbered_49 rfl ?_
      refine g_callV hX yo_Mo_isAt q_907 d_Mo_numbered_51 (c_Mo_isAt (t := t) (i := i + 1) (ht.to (by rw [mU_slot (by decide), mU_slot (by decide)]) (by rw [mU_cell (by decide), mU_cell (by decide)])) (by rw [mU_self]) (by omega) (by omega) (by omega)) rfl rfl ⟨rfl, by decide⟩ rfl (by decide) (Nat.le_of_ble_eq_true rfl) ⟨Nat.zero_le _, Nat.zero_le _⟩ (k_int fun r_51 M_51 ir_51 hp_51 => ?_)
      obtain ⟨er_51, eM_51⟩ := hp_51; replace er_51 := er_51.symm; replace eM_51 := eM_51.symm; subst er_51; subst eM_51
      refine g_if_eq 91 hX d_Mo_numbered_54 (by decide) (by first | omega | exact ite_iR) (fun h_54 => ?_) (fun h_54 => ?_)
      · have z2 := ite_eq h_54
        have zd2 : dgt t (i + 1) = -1 := by (unfold dgt; rw [if_neg z2])
        have zn : nV t i = ch t i - 48 ∧ nP t i = i + 1 := by (unfold nV nP; rw [if_pos (Or.inr zd2), if_pos (Or.inr zd2)]; exact ⟨zd, rfl⟩)
        refine g_iconst hX d_Mo_numbered_91 ?_
        refine g_zret hX hR d_Mo_numbered_92 (by omega) ?_
        exact ⟨by rw [if_neg (by omega)], fun z => absurd z (by omega), fun _ => ⟨by rw [mU_slot (by decide), mU_self]; omega, by rw [mU_self]; omega⟩, fun a u => by simp only [mU_cell u], fun j u v => by simp only [mU_slot u, mU_slot v]⟩
      · have z2 := ite_ne h_54
        have zd2 : dgt t (i + 1) = ch t (i + 1) - 48 := by (unfold dgt; rw [if_pos z2])
        have zlen2 : i + 1 < t.length := ch_lt (by omega)
        have zn : nV t i = (ch t i - 48) * 10 + (ch t (i + 1) - 48) ∧ nP t i = i + 2 := by (unfold nV nP; rw [if_neg (by omega), if_neg (by omega), zd, zd2]; exact ⟨rfl, rfl⟩)
        refine g_aload_n hX d_Mo_numbered_57 rfl ?_
        refine g_bipush hX d_Mo_numbered_58 rfl ?_
        refine g_aload_n hX d_Mo_numbered_60 rfl ?_
        refine g_getI hX fl_Mo_152 d_Mo_numbered_61 18 ⟨rfl, by decide⟩ rfl rfl (fun r_61 => ?_)
        rw [mU_slot (by decide), mU_self] at r_61 ⊢
        refine g_imul hX d_Mo_numbered_64 ?_
        refine g_aload_n hX d_Mo_numbered_65 rfl ?_
        refine g_getR hX fl_Mo_19 d_Mo_numbered_66 ⟨rfl, by decide⟩ rfl rfl ?_
        refine g_aload_n hX d_Mo_numbered_69 rfl ?_
        refine g_getI hX fl_Mo_143 d_Mo_numbered_70 16 ⟨rfl, by decide⟩ rfl rfl (fun r_70 => ?_)
        rw [mU_self] at r_70 ⊢
        refine g_iald hX d_Mo_numbered_73 ⟨rfl, by decide⟩ (by omega) (fun r_73 => ?_)
        rw [mU_cell (by decide), mU_cell (by decide), ht.ch (by omega) zlen2] at r_73 ⊢
        refine g_iadd hX d_Mo_numbered_74 ?_
        refine g_bipush hX d_Mo_numbered_75 rfl ?_
        refine g_isub hX d_Mo_numbered_77 ?_
        refine g_putI hX fl_Mo_152 d_Mo_numbered_78 18 ⟨rfl, by decide⟩ rfl rfl (fun q h => by cases h; rfl) rfl (by omega) ?_
        refine g_aload_n hX d_Mo_numbered_81 rfl ?_
        refine g_dup hX d_Mo_numbered_82 rfl ?_
        refine g_getI hX fl_Mo_143 d_Mo_numbered_83 16 ⟨rfl, by decide⟩ rfl rfl (fun r_83 => ?_)
        rw [mU_slot (by decide), mU_self] at r_83 ⊢
        refine g_iconst hX d_Mo_numbered_86 ?_
        refine g_iadd hX d_Mo_numbered_87 ?_
        refine g_putI hX fl_Mo_143 d_Mo_numbered_88 16 ⟨rfl, by decide⟩ rfl rfl (fun q h => by cases h; rfl) rfl (by omega) ?_
        refine g_iconst hX d_Mo_numbered_91 ?_
        refine g_zret hX hR d_Mo_numbered_92 (by omega) ?_
        exact ⟨by rw [if_neg (by omega)], fun z => absurd z (by omega), fun _ => ⟨by rw [mU_slot (by decide), mU_self]; omega, by rw [mU_self]; omega⟩, fun a u => by simp only [mU_cell u], fun j u v => by simp only [mU_slot u, mU_slot v]⟩
  · have z1 := ite_eq h_8
    have zd : dgt t i = -1 := by unfold dgt; rw [if_neg z1]
    refine g_iconst hX d_Mo_numbered_11 ?_
    refine g_zret hX hR d_Mo_numbered_12 (by omega) ?_
    exact ⟨by rw [if_pos zd], fun _ => hi, fun z => absurd zd z, fun _ _ => rfl, fun _ _ _ => rfl⟩
theorem c_Mo_wrong {Γ : gX} {l : Launch} {M : mI} {n n0 d c : Int} {x g : Int → Int} (hv : Ns M n0 x g) (hg : Og g) (hn : M 37 19 = n) (hb : 0 ≤ n ∧ n ≤ 60) (hd : -1 ≤ d ∧ d ≤ 99) (hc : -1 ≤ c ∧ c ≤ 99) : Cn Γ l i_Mo_wrong R0 51 [.ref (gb Γ + 37), vI d, vI c] M (pI (fun r M' => r = wrg g d c n ∧ M' = M)) := by
  refine cn_intro (L := [some (.ref (gb Γ + 37)), some (vI d), some (vI c), none]) yo_Mo_wrong.1 rfl (Nat.le_of_ble_eq_true rfl) rfl (fun X hX hR => ?_)
  obtain ⟨s0, s1, s2, s3, s4⟩ := hv.s
  obtain ⟨g0, g1, g2, g3, g4⟩ := id hg
  refine g_iload_n hX d_Mo_wrong_0 rfl ?_
  refine g_iconst hX d_Mo_wrong_1 ?_
  refine g_aload_n hX d_Mo_wrong_2 rfl ?_
  refine g_getR hX fl_Mo_7 d_Mo_wrong_3 ⟨rfl, by decide⟩ rfl rfl ?_
  refine g_iconst hX d_Mo_wrong_6 ?_
  refine g_iald hX d_Mo_wrong_7 ⟨rfl, by decide⟩ (by omega) (fun r_7 => ?_)
  refine g_callS hX yo_Mo_in q_732 d_Mo_wrong_8 (c_Mo_in (by omega) (by omega) r_7) rfl rfl (by decide) (Nat.le_of_ble_eq_true rfl) ⟨Nat.zero_le _, Nat.zero_le _⟩ (k_int fun r_8 M_8 ir_8 hp_8 => ?_)
  obtain ⟨er_8, eM_8⟩ := hp_8; replace er_8 := er_8.symm; replace eM_8 := eM_8.symm; subst er_8; subst eM_8
  refine g_if_eq 26 hX d_Mo_wrong_11 (by decide) (by first | omega | exact ite_iR) (fun h_11 => ?_) (fun h_11 => ?_)
  · have z1 := ite_eq h_11
    refine g_iconst hX d_Mo_wrong_26 ?_
    refine g_istore_n hX d_Mo_wrong_27 (by decide) ?_
    refine g_iload_n hX d_Mo_wrong_28 rfl ?_
    refine g_if_ne 36 hX d_Mo_wrong_29 (by decide) (by first | omega | exact ite_iR) (fun h_29 => ?_) (fun h_29 => ?_)
    · refine g_iload_n hX d_Mo_wrong_36 rfl ?_
      refine g_aload_n hX d_Mo_wrong_37 rfl ?_
      refine g_getR hX fl_Mo_7 d_Mo_wrong_38 ⟨rfl, by decide⟩ rfl rfl ?_
      refine g_iconst hX d_Mo_wrong_41 ?_
      refine g_iald hX d_Mo_wrong_42 ⟨rfl, by decide⟩ (by omega) (fun r_42 => ?_)
      refine g_bipush hX d_Mo_wrong_43 rfl ?_
      refine g_callS hX yo_Mo_in q_732 d_Mo_wrong_45 (c_Mo_in (by omega) r_42 (by omega)) rfl rfl (by decide) (Nat.le_of_ble_eq_true rfl) ⟨Nat.zero_le _, Nat.zero_le _⟩ (k_int fun r_45 M_45 ir_45 hp_45 => ?_)
      obtain ⟨er_45, eM_45⟩ := hp_45; replace er_45 := er_45.symm; replace eM_45 := eM_45.symm; subst er_45; subst eM_45
      refine g_if_ne 55 hX d_Mo_wrong_48 (by decide) (by first | omega | exact ite_iR) (fun h_48 => ?_) (fun h_48 => ?_)
      · have z2 := ite_ne h_48
        refine g_iload_n hX d_Mo_wrong_55 rfl ?_
        refine g_bipush hX d_Mo_wrong_56 rfl ?_
        refine g_aload_n hX d_Mo_wrong_58 rfl ?_
        refine g_getI hX fl_Mo_155 d_Mo_wrong_59 19 ⟨rfl, by decide⟩ rfl rfl (fun r_59 => ?_)
        refine g_isub hX d_Mo_wrong_62 ?_
        refine g_icmp_le 70 hX d_Mo_wrong_63 (by decide) (by omega) (by omega) (fun h_63 => ?_) (fun h_63 => ?_)
        · refine g_iconst hX d_Mo_wrong_70 ?_
          refine g_iret hX hR d_Mo_wrong_71 (by omega) ?_
          refine ⟨?_, rfl⟩; unfold wrg; first | (exfalso; omega) | (rw [if_pos (by omega)]; done) | (rw [if_neg (by omega), if_pos (by omega)]; done) | (rw [if_neg (by omega), if_neg (by omega), if_pos (by omega)]; done) | (rw [if_neg (by omega), if_neg (by omega), if_neg (by omega)]; done)
        · refine g_iconst hX d_Mo_wrong_66 ?_
          refine g_goto 71 hX d_Mo_wrong_67 (by decide) ?_
          refine g_iret hX hR d_Mo_wrong_71 (by omega) ?_
          refine ⟨?_, rfl⟩; unfold wrg; first | (exfalso; omega) | (rw [if_pos (by omega)]; done) | (rw [if_neg (by omega), if_pos (by omega)]; done) | (rw [if_neg (by omega), if_neg (by omega), if_pos (by omega)]; done) | (rw [if_neg (by omega), if_neg (by omega), if_neg (by omega)]; done)
      · have z2 := ite_eq h_48
        refine g_iconst hX d_Mo_wrong_51 ?_
        refine g_goto 71 hX d_Mo_wrong_52 (by decide) ?_
        refine g_iret hX hR d_Mo_wrong_71 (by omega) ?_
        refine ⟨?_, rfl⟩; unfold wrg; first | (exfalso; omega) | (rw [if_pos (by omega)]; done) | (rw [if_neg (by omega), if_pos (by omega)]; done) | (rw [if_neg (by omega), if_neg (by omega), if_pos (by omega)]; done) | (rw [if_neg (by omega), if_neg (by omega), if_neg (by omega)]; done)
    · refine g_iconst hX d_Mo_wrong_32 ?_
      refine g_goto 71 hX d_Mo_wrong_33 (by decide) ?_
      refine g_iret hX hR d_Mo_wrong_71 (by omega) ?_
      refine ⟨?_, rfl⟩; unfold wrg; first | (exfalso; omega) | (rw [if_pos (by omega)]; done) | (rw [if_neg (by omega), if_pos (by omega)]; done) | (rw [if_neg (by omega), if_neg (by omega), if_pos (by omega)]; done) | (rw [if_neg (by omega), if_neg (by omega), if_neg (by omega)]; done)
  · have z1 := ite_ne h_11
    refine g_iload_n hX d_Mo_wrong_14 rfl ?_
    refine g_aload_n hX d_Mo_wrong_15 rfl ?_
    refine g_getI hX fl_Mo_155 d_Mo_wrong_16 19 ⟨rfl, by decide⟩ rfl rfl (fun r_16 => ?_)
    refine g_icmp_gt 26 hX d_Mo_wrong_19 (by decide) (by omega) (by omega) (fun h_19 => ?_) (fun h_19 => ?_)
    · refine g_iconst hX d_Mo_wrong_26 ?_
      refine g_istore_n hX d_Mo_wrong_27 (by decide) ?_
      refine g_iload_n hX d_Mo_wrong_28 rfl ?_
      refine g_if_ne 36 hX d_Mo_wrong_29 (by decide) (by first | omega | exact ite_iR) (fun h_29 => ?_) (fun h_29 => ?_)
      · refine g_iload_n hX d_Mo_wrong_36 rfl ?_
        refine g_aload_n hX d_Mo_wrong_37 rfl ?_
        refine g_getR hX fl_Mo_7 d_Mo_wrong_38 ⟨rfl, by decide⟩ rfl rfl ?_
        refine g_iconst hX d_Mo_wrong_41 ?_
        refine g_iald hX d_Mo_wrong_42 ⟨rfl, by decide⟩ (by omega) (fun r_42 => ?_)
        refine g_bipush hX d_Mo_wrong_43 rfl ?_
        refine g_callS hX yo_Mo_in q_732 d_Mo_wrong_45 (c_Mo_in (by omega) r_42 (by omega)) rfl rfl (by decide) (Nat.le_of_ble_eq_true rfl) ⟨Nat.zero_le _, Nat.zero_le _⟩ (k_int fun r_45 M_45 ir_45 hp_45 => ?_)
        obtain ⟨er_45, eM_45⟩ := hp_45; replace er_45 := er_45.symm; replace eM_45 := eM_45.symm; subst er_45; subst eM_45
        refine g_if_ne 55 hX d_Mo_wrong_48 (by decide) (by first | omega | exact ite_iR) (fun h_48 => ?_) (fun h_48 => ?_)
        · have z2 := ite_ne h_48
          refine g_iload_n hX d_Mo_wrong_55 rfl ?_
          refine g_bipush hX d_Mo_wrong_56 rfl ?_
          refine g_aload_n hX d_Mo_wrong_58 rfl ?_
          refine g_getI hX fl_Mo_155 d_Mo_wrong_59 19 ⟨rfl, by decide⟩ rfl rfl (fun r_59 => ?_)
          refine g_isub hX d_Mo_wrong_62 ?_
          refine g_icmp_le 70 hX d_Mo_wrong_63 (by decide) (by omega) (by omega) (fun h_63 => ?_) (fun h_63 => ?_)
          · refine g_iconst hX d_Mo_wrong_70 ?_
            refine g_iret hX hR d_Mo_wrong_71 (by omega) ?_
            refine ⟨?_, rfl⟩; unfold wrg; first | (exfalso; omega) | (rw [if_pos (by omega)]; done) | (rw [if_neg (by omega), if_pos (by omega)]; done) | (rw [if_neg (by omega), if_neg (by omega), if_pos (by omega)]; done) | (rw [if_neg (by omega), if_neg (by omega), if_neg (by omega)]; done)
          · refine g_iconst hX d_Mo_wrong_66 ?_
            refine g_goto 71 hX d_Mo_wrong_67 (by decide) ?_
            refine g_iret hX hR d_Mo_wrong_71 (by omega) ?_
            refine ⟨?_, rfl⟩; unfold wrg; first | (exfalso; omega) | (rw [if_pos (by omega)]; done) | (rw [if_neg (by omega), if_pos (by omega)]; done) | (rw [if_neg (by omega), if_neg (by omega), if_pos (by omega)]; done) | (rw [if_neg (by omega), if_neg (by omega), if_neg (by omega)]; done)
        · have z2 := ite_eq h_48
          refine g_iconst hX d_Mo_wrong_51 ?_
          refine g_goto 71 hX d_Mo_wrong_52 (by decide) ?_
          refine g_iret hX hR d_Mo_wrong_71 (by omega) ?_
          refine ⟨?_, rfl⟩; unfold wrg; first | (exfalso; omega) | (rw [if_pos (by omega)]; done) | (rw [if_neg (by omega), if_pos (by omega)]; done) | (rw [if_neg (by omega), if_neg (by omega), if_pos (by omega)]; done) | (rw [if_neg (by omega), if_neg (by omega), if_neg (by omega)]; done)
      · refine g_iconst hX d_Mo_wrong_32 ?_
        refine g_goto 71 hX d_Mo_wrong_33 (by decide) ?_
        refine g_iret hX hR d_Mo_wrong_71 (by omega) ?_
        refine ⟨?_, rfl⟩; unfold wrg; first | (exfalso; omega) | (rw [if_pos (by omega)]; done) | (rw [if_neg (by omega), if_pos (by omega)]; done) | (rw [if_neg (by omega), if_neg (by omega), if_pos (by omega)]; done) | (rw [if_neg (by omega), if_neg (by omega), if_neg (by omega)]; done)
    · refine g_iconst hX d_Mo_wrong_22 ?_
      refine g_goto 27 hX d_Mo_wrong_23 (by decide) ?_
      refine g_istore_n hX d_Mo_wrong_27 (by decide) ?_
      refine g_iload_n hX d_Mo_wrong_28 rfl ?_
      refine g_if_ne 36 hX d_Mo_wrong_29 (by decide) (by first | omega | exact ite_iR) (fun h_29 => ?_) (fun h_29 => ?_)
      · refine g_iload_n hX d_Mo_wrong_36 rfl ?_
        refine g_aload_n hX d_Mo_wrong_37 rfl ?_
        refine g_getR hX fl_Mo_7 d_Mo_wrong_38 ⟨rfl, by decide⟩ rfl rfl ?_
        refine g_iconst hX d_Mo_wrong_41 ?_
        refine g_iald hX d_Mo_wrong_42 ⟨rfl, by decide⟩ (by omega) (fun r_42 => ?_)
        refine g_bipush hX d_Mo_wrong_43 rfl ?_
        refine g_callS hX yo_Mo_in q_732 d_Mo_wrong_45 (c_Mo_in (by omega) r_42 (by omega)) rfl rfl (by decide) (Nat.le_of_ble_eq_true rfl) ⟨Nat.zero_le _, Nat.zero_le _⟩ (k_int fun r_45 M_45 ir_45 hp_45 => ?_)
        obtain ⟨er_45, eM_45⟩ := hp_45; replace er_45 := er_45.symm; replace eM_45 := eM_45.symm; subst er_45; subst eM_45
        refine g_if_ne 55 hX d_Mo_wrong_48 (by decide) (by first | omega | exact ite_iR) (fun h_48 => ?_) (fun h_48 => ?_)
        · have z2 := ite_ne h_48
          refine g_iload_n hX d_Mo_wrong_55 rfl ?_
          refine g_bipush hX d_Mo_wrong_56 rfl ?_
          refine g_aload_n hX d_Mo_wrong_58 rfl ?_
          refine g_getI hX fl_Mo_155 d_Mo_wrong_59 19 ⟨rfl, by decide⟩ rfl rfl (fun r_59 => ?_)
          refine g_isub hX d_Mo_wrong_62 ?_
          refine g_icmp_le 70 hX d_Mo_wrong_63 (by decide) (by omega) (by omega) (fun h_63 => ?_) (fun h_63 => ?_)
          · refine g_iconst hX d_Mo_wrong_70 ?_
            refine g_iret hX hR d_Mo_wrong_71 (by omega) ?_
            refine ⟨?_, rfl⟩; unfold wrg; first | (exfalso; omega) | (rw [if_pos (by omega)]; done) | (rw [if_neg (by omega), if_pos (by omega)]; done) | (rw [if_neg (by omega), if_neg (by omega), if_pos (by omega)]; done) | (rw [if_neg (by omega), if_neg (by omega), if_neg (by omega)]; done)
          · refine g_iconst hX d_Mo_wrong_66 ?_
            refine g_goto 71 hX d_Mo_wrong_67 (by decide) ?_
            refine g_iret hX hR d_Mo_wrong_71 (by omega) ?_
            refine ⟨?_, rfl⟩; unfold wrg; first | (exfalso; omega) | (rw [if_pos (by omega)]; done) | (rw [if_neg (by omega), if_pos (by omega)]; done) | (rw [if_neg (by omega), if_neg (by omega), if_pos (by omega)]; done) | (rw [if_neg (by omega), if_neg (by omega), if_neg (by omega)]; done)
        · have z2 := ite_eq h_48
          refine g_iconst hX d_Mo_wrong_51 ?_
          refine g_goto 71 hX d_Mo_wrong_52 (by decide) ?_
          refine g_iret hX hR d_Mo_wrong_71 (by omega) ?_
          refine ⟨?_, rfl⟩; unfold wrg; first | (exfalso; omega) | (rw [if_pos (by omega)]; done) | (rw [if_neg (by omega), if_pos (by omega)]; done) | (rw [if_neg (by omega), if_neg (by omega), if_pos (by omega)]; done) | (rw [if_neg (by omega), if_neg (by omega), if_neg (by omega)]; done)
      · refine g_iconst hX d_Mo_wrong_32 ?_
        refine g_goto 71 hX d_Mo_wrong_33 (by decide) ?_
        refine g_iret hX hR d_Mo_wrong_71 (by omega) ?_
        refine ⟨?_, rfl⟩; unfold wrg; first | (exfalso; omega) | (rw [if_pos (by omega)]; done) | (rw [if_neg (by omega), if_pos (by omega)]; done) | (rw [if_neg (by omega), if_neg (by omega), if_pos (by omega)]; done) | (rw [if_neg (by omega), if_neg (by omega), if_neg (by omega)]; done)
/-- what a reading of the text has found: s tells -/
def RP (M : mI) (s : pT) : Prop := (s.2.2.1 = 0 → M 37 16 = s.1 ∧ M 37 19 = s.2.2.2.1 ∧ ∀ j, 0 ≤ j → j < s.2.2.2.1 → M 50 j = s.2.2.2.2 j) ∧ (s.2.2.1 ≠ 0 → M 37 16 = s.2.1 ∧ M 37 17 = s.2.2.1)
theorem nV_b (t : List Int) (i : Int) (h : dgt t i ≠ -1) : 0 ≤ nV t i ∧ nV t i ≤ 99 := by
  have z1 := dgt_b t i
  have z2 := dgt_b t (i + 1)
  unfold nV
  split <;> omega
theorem nP_b (t : List Int) (i : Int) : i + 1 ≤ nP t i ∧ nP t i ≤ i + 2 := by
  unfold nP
  split <;> omega
theorem wrgM_0 {g : Int → Int} {d c n : Int} (h : wrg g d c n = 0) : (1 ≤ d ∧ d ≤ g 0 ∧ d ≤ n) ∧ (g 1 ≤ c ∧ c ≤ 20) ∧ n + c ≤ 60 := by
  unfold wrg at h
  split at h
  · omega
  · split at h
    · omega
    · split at h
      · omega
      · omega
theorem wrgM_b (g : Int → Int) (d c n : Int) : 0 ≤ wrg g d c n ∧ wrg g d c n ≤ 4 := by
  unfold wrg
  split
  · omega
  · split
    · omega
    · split <;> omega
def AD (i : Int) (s : pT) : Prop := s.2.2.1 = 0 → i + 1 ≤ s.1 ∧ 0 ≤ s.2.2.2.1 ∧ s.2.2.2.1 ≤ 60
theorem c_Mo_readsCopy {Γ : gX} {l : Launch} {M : mI} {t : List Int} {n0 i pl n : Int} {x g y : Int → Int} (hv : Ns M n0 x g) (hg : Og g) (ht : Nt M t) (hi : M 37 16 = i) (h0 : 0 ≤ i ∧ i < 120) (hn : M 37 19 = n) (hb : 0 ≤ n ∧ n ≤ 60) (hy : ∀ j, 0 ≤ j → j < n → M 50 j = y j) : Cn Γ l i_Mo_readsCopy R0 51 [.ref (gb Γ + 37)] M (pI (fun r M' => r = (if (pC t g (i, pl, 0, n, y)).2.2.1 = 0 then 1 else 0) ∧ RP M' (pC t g (i, pl, 0, n, y)) ∧ RF M' M ∧ AD i (pC t g (i, pl, 0, n, y)))) := by
  refine cn_intro (L := [some (.ref (gb Γ + 37)), none, none, none, none]) yo_Mo_readsCopy.1 rfl (Nat.le_of_ble_eq_true rfl) rfl (fun X hX hR => ?_)
  have BAD : ∀ (M1 : mI) (e pl2 : Int), RF M1 M → M1 37 16 = e → s4C t i pl = (e, e, 1) → (0 : Int) = (if (pC t g (i, pl, 0, n, y)).2.2.1 = 0 then 1 else 0) ∧ RP (mU M1 37 17 1) (pC t g (i, pl, 0, n, y)) ∧ RF (mU M1 37 17 1) M ∧ AD i (pC t g (i, pl, 0, n, y)) := by
    intro M1 e pl2 h1 h2 h3
    have zp : pC t g (i, pl, 0, n, y) = (e, e, 1, n, y) := by
      unfold pC
      show (if (s4C t i pl).2.2 ≠ 0 then _ else _) = _
      rw [h3, if_pos (by show (1 : Int) ≠ 0; decide)]
    rw [zp]
    exact ⟨rfl, ⟨fun z => absurd z (by show ¬ (1 : Int) = 0; decide), fun _ => ⟨by rw [mU_slot (by decide)]; exact h2, by rw [mU_self]⟩⟩, (RF.put (by decide)).trans h1, fun z => absurd z (by show ¬ (1 : Int) = 0; decide)⟩
  have LOOP : ∀ (q : Nat) (k : Nat) (M1 : mI) (d c e2 a3 : Int), (c.toNat - k) = q → (k : Int) ≤ c → M1 37 18 = c → M1 37 19 = n + k → M1 37 16 = e2 → (∀ j, 0 ≤ j → j < n + k → M1 50 j = cpF y n d k j) → wrg g d c n = 0 → pC t g (i, pl, 0, n, y) = (e2, pl, 0, n + c, cpF y n d c.toNat) → i + 1 ≤ e2 → RF M1 M → G Γ X 5 (R0, 51, 0, 0) 92 [some (.ref (gb Γ + 37)), some (vI i), some (vI d), some (vI a3), some (vI k)] [] M1 := by
    intro q
    induction q with
    | zero =>
      intro k M1 d c e2 a3 hq hk h1 h2 h3 h4 hw hp he hF
      have zw := wrgM_0 hw
      refine g_iload hX d_Mo_readsCopy_92 rfl ?_
      refine g_aload_n hX d_Mo_readsCopy_94 rfl ?_
      refine g_getI hX fl_Mo_152 d_Mo_readsCopy_95 18 ⟨rfl, by decide⟩ rfl rfl (fun r_95 => ?_)
      refine g_icmp_ge 137 hX d_Mo_readsCopy_98 (by decide) (by omega) (by omega) (fun h_98 => ?_) (fun h_98 => ?_)
      · refine g_iconst hX d_Mo_readsCopy_137 ?_
        refine g_zret hX hR d_Mo_readsCopy_138 (by omega) ?_
        rw [hp]; refine ⟨rfl, ⟨fun _ => ⟨h3, by rw [h2]; show n + (k : Int) = n + c; omega, fun j u v => ?_⟩, fun z => absurd rfl z⟩, hF, fun _ => ⟨he, by show 0 ≤ n + c; omega, by show n + c ≤ 60; omega⟩⟩; rw [h4 j u (by have v2 : j < n + c := v; omega), show c.toNat = k by omega]
      · exact absurd h_98 (by omega)
    | succ q ih =>
      intro k M1 d c e2 a3 hq hk h1 h2 h3 h4 hw hp he hF
      have zw := wrgM_0 hw
      refine g_iload hX d_Mo_readsCopy_92 rfl ?_
      refine g_aload_n hX d_Mo_readsCopy_94 rfl ?_
      refine g_getI hX fl_Mo_152 d_Mo_readsCopy_95 18 ⟨rfl, by decide⟩ rfl rfl (fun r_95 => ?_)
      refine g_icmp_ge 137 hX d_Mo_readsCopy_98 (by decide) (by omega) (by omega) (fun h_98 => ?_) (fun h_98 => ?_)
      · exact absurd h_98 (by omega)
      · refine g_aload_n hX d_Mo_readsCopy_101 rfl ?_
        refine g_getR hX fl_Mo_46 d_Mo_readsCopy_102 ⟨rfl, by decide⟩ rfl rfl ?_
        refine g_aload_n hX d_Mo_readsCopy_105 rfl ?_
        refine g_getI hX fl_Mo_155 d_Mo_readsCopy_106 19 ⟨rfl, by decide⟩ rfl rfl (fun r_106 => ?_)
        rw [h2] at r_106 ⊢
        refine g_aload_n hX d_Mo_readsCopy_109 rfl ?_
        refine g_getR hX fl_Mo_46 d_Mo_readsCopy_110 ⟨rfl, by decide⟩ rfl rfl ?_
        refine g_aload_n hX d_Mo_readsCopy_113 rfl ?_
        refine g_getI hX fl_Mo_155 d_Mo_readsCopy_114 19 ⟨rfl, by decide⟩ rfl rfl (fun r_114 => ?_)
        rw [h2] at r_114 ⊢
        refine g_iload_n hX d_Mo_readsCopy_117 rfl ?_
        refine g_isub hX d_Mo_readsCopy_118 ?_
        refine g_iald hX d_Mo_readsCopy_119 ⟨rfl, by decide⟩ (by omega) (fun r_119 => ?_)
        rw [h4 (n + k - d) (by omega) (by omega)] at r_119 ⊢
        refine g_iast hX d_Mo_readsCopy_120 ⟨rfl, by decide⟩ (by omega) (by omega) ?_
        refine g_aload_n hX d_Mo_readsCopy_121 rfl ?_
        refine g_dup hX d_Mo_readsCopy_122 rfl ?_
        refine g_getI hX fl_Mo_155 d_Mo_readsCopy_123 19 ⟨rfl, by decide⟩ rfl rfl (fun r_123 => ?_)
        rw [mU_cell (by decide), h2] at r_123 ⊢
        refine g_iconst hX d_Mo_readsCopy_126 ?_
        refine g_iadd hX d_Mo_readsCopy_127 ?_
        refine g_putI hX fl_Mo_155 d_Mo_readsCopy_128 19 ⟨rfl, by decide⟩ rfl rfl (fun q h => by cases h; rfl) rfl (by omega) ?_
        refine g_iinc hX d_Mo_readsCopy_131 rfl (by decide) ?_
        refine g_goto 92 hX d_Mo_readsCopy_134 (by decide) ?_
        rw [show (k : Int) + 1 = ((k + 1 : Nat) : Int) by omega]
        refine ih (k + 1) _ d c e2 a3 (by omega) (by omega) (by rw [mU_slot (by decide), mU_cell (by decide)]; exact h1) (by rw [mU_self]; omega) (by rw [mU_slot (by decide), mU_cell (by decide)]; exact h3) (fun j u v => ?_) hw hp he ⟨fun a u v => by rw [mU_cell u, mU_cell v]; exact hF.1 a u v, fun j u => by rw [mU_slot (by omega), mU_cell (by decide)]; exact hF.2 j u⟩
        rw [mU_cell (by decide), mU_if, cpF_succ]
        by_cases zj : j = n + k
        · rw [if_pos zj, if_pos zj]
        · rw [if_neg zj, if_neg zj]; exact h4 j u (by omega)
  have zP1 := nP_b t (i + 1)
  have zP2 := nP_b t (nP t (i + 1) + 1)
  refine g_aload_n hX d_Mo_readsCopy_0 rfl ?_
  refine g_getI hX fl_Mo_143 d_Mo_readsCopy_1 16 ⟨rfl, by decide⟩ rfl rfl (fun r_1 => ?_)
  rw [hi] at r_1 ⊢
  refine g_istore_n hX d_Mo_readsCopy_4 (by decide) ?_
  refine g_aload_n hX d_Mo_readsCopy_5 rfl ?_
  refine g_dup hX d_Mo_readsCopy_6 rfl ?_
  refine g_getI hX fl_Mo_143 d_Mo_readsCopy_7 16 ⟨rfl, by decide⟩ rfl rfl (fun r_7 => ?_)
  rw [hi] at r_7 ⊢
  refine g_iconst hX d_Mo_readsCopy_10 ?_
  refine g_iadd hX d_Mo_readsCopy_11 ?_
  refine g_putI hX fl_Mo_143 d_Mo_readsCopy_12 16 ⟨rfl, by decide⟩ rfl rfl (fun q h => by cases h; rfl) rfl (by omega) ?_
  refine g_aload_n hX d_Mo_readsCopy_15 rfl ?_
  refine g_callV hX yo_Mo_numbered q_915 d_Mo_readsCopy_16 (c_Mo_numbered (t := t) (i := i + 1) (ht.to (mU_slot (by decide)) (mU_cell (by decide))) (mU_self _ _ _ _) (by omega)) rfl rfl ⟨rfl, by decide⟩ rfl (by decide) (Nat.le_of_ble_eq_true rfl) ⟨Nat.zero_le _, Nat.zero_le _⟩ (k_int fun r_16 M_16 ir_16 hp_16 => ?_)
  obtain ⟨er16, a16, b16, f16⟩ := hp_16
  have f1 : RF M_16 M := f16.rf.trans (RF.put (by decide))
  have ht1 := f1.nt ht
  have g19 : M_16 37 19 = n := by rw [f16.2 19 (by decide) (by decide), mU_slot (by decide)]; exact hn
  refine g_if_ne 28 hX d_Mo_readsCopy_19 (by decide) (by first | omega | exact ite_iR) (fun h_19 => ?_) (fun h_19 => ?_)
  · have zd : dgt t (i + 1) ≠ -1 := fun zz => by (rw [if_pos zz] at er16; omega)
    have zv := nV_b t (i + 1) zd
    obtain ⟨b1, b2⟩ := b16 zd
    refine g_aload_n hX d_Mo_readsCopy_28 rfl ?_
    refine g_getI hX fl_Mo_152 d_Mo_readsCopy_29 18 ⟨rfl, by decide⟩ rfl rfl (fun r_29 => ?_)
    rw [b1] at r_29 ⊢
    refine g_istore_n hX d_Mo_readsCopy_32 (by decide) ?_
    refine g_aload_n hX d_Mo_readsCopy_33 rfl ?_
    refine g_bipush hX d_Mo_readsCopy_34 rfl ?_
    refine g_callV hX yo_Mo_sign q_923 d_Mo_readsCopy_36 (c_Mo_sign (t := t) (i := nP t (i + 1)) ht1 b2 (by omega) (by omega)) rfl rfl ⟨rfl, by decide⟩ rfl (by decide) (Nat.le_of_ble_eq_true rfl) ⟨Nat.zero_le _, Nat.zero_le _⟩ (k_int fun r_36 M_36 ir_36 hp_36 => ?_)
    obtain ⟨er36, a36, b36, f36, -⟩ := hp_36
    have f2 : RF M_36 M := f36.rf.trans f1
    have ht2 := f2.nt ht
    have g19b : M_36 37 19 = n := by rw [f36.2 19 (by decide) (by decide)]; exact g19
    refine g_if_eq 58 hX d_Mo_readsCopy_39 (by decide) (by first | omega | exact ite_iR) (fun h_39 => ?_) (fun h_39 => ?_)
    · have zc : ch t (nP t (i + 1)) ≠ 44 := fun zz => by (rw [if_pos zz] at er36; omega)
      have zf : s4C t i pl = (nP t (i + 1), nP t (i + 1), 1) := s4_B zd zc
      have zg := b36 zc
      have ff := f2
      refine g_aload_n hX d_Mo_readsCopy_58 rfl ?_
      refine g_iconst hX d_Mo_readsCopy_59 ?_
      refine g_callV hX yo_Mo_fails q_919 d_Mo_readsCopy_60 (c_Mo_fails (by omega)) rfl rfl ⟨rfl, by decide⟩ rfl (by decide) (Nat.le_of_ble_eq_true rfl) ⟨Nat.zero_le _, Nat.zero_le _⟩ (k_int fun r_60 M_60 ir_60 hp_60 => ?_)
      obtain ⟨er_60, eM_60⟩ := hp_60; replace er_60 := er_60.symm; replace eM_60 := eM_60.symm; subst er_60; subst eM_60
      refine g_zret hX hR d_Mo_readsCopy_63 (by omega) ?_
      exact BAD _ _ pl ff zg zf
    · have zc : ch t (nP t (i + 1)) = 44 := by (rcases Decidable.em (ch t (nP t (i + 1)) = 44) with zz | zz; exact zz; (rw [if_neg zz] at er36; omega))
      refine g_aload_n hX d_Mo_readsCopy_42 rfl ?_
      refine g_callV hX yo_Mo_numbered q_915 d_Mo_readsCopy_43 (c_Mo_numbered (t := t) (i := nP t (i + 1) + 1) ht2 (a36 zc) (by omega)) rfl rfl ⟨rfl, by decide⟩ rfl (by decide) (Nat.le_of_ble_eq_true rfl) ⟨Nat.zero_le _, Nat.zero_le _⟩ (k_int fun r_43 M_43 ir_43 hp_43 => ?_)
      obtain ⟨er43, a43, b43, f43⟩ := hp_43
      have f3 : RF M_43 M := f43.rf.trans f2
      have ht3 := f3.nt ht
      have g19c : M_43 37 19 = n := by rw [f43.2 19 (by decide) (by decide)]; exact g19b
      refine g_if_eq 58 hX d_Mo_readsCopy_46 (by decide) (by first | omega | exact ite_iR) (fun h_46 => ?_) (fun h_46 => ?_)
      · have zd2 : dgt t (nP t (i + 1) + 1) = -1 := by (rcases Decidable.em (dgt t (nP t (i + 1) + 1) = -1) with zz | zz; exact zz; (rw [if_neg zz] at er43; omega))
        have zf : s4C t i pl = (nP t (i + 1) + 1, nP t (i + 1) + 1, 1) := s4_C zd zc zd2
        have zg := a43 zd2
        have ff := f3
        refine g_aload_n hX d_Mo_readsCopy_58 rfl ?_
        refine g_iconst hX d_Mo_readsCopy_59 ?_
        refine g_callV hX yo_Mo_fails q_919 d_Mo_readsCopy_60 (c_Mo_fails (by omega)) rfl rfl ⟨rfl, by decide⟩ rfl (by decide) (Nat.le_of_ble_eq_true rfl) ⟨Nat.zero_le _, Nat.zero_le _⟩ (k_int fun r_60 M_60 ir_60 hp_60 => ?_)
        obtain ⟨er_60, eM_60⟩ := hp_60; replace er_60 := er_60.symm; replace eM_60 := eM_60.symm; subst er_60; subst eM_60
        refine g_zret hX hR d_Mo_readsCopy_63 (by omega) ?_
        exact BAD _ _ pl ff zg zf
      · have zd2 : dgt t (nP t (i + 1) + 1) ≠ -1 := fun zz => by (rw [if_pos zz] at er43; omega)
        obtain ⟨b3, b4⟩ := b43 zd2
        obtain ⟨zD, zdC, zlC⟩ := s4_D (pl := pl) zd zc zd2
        have zv2 := nV_b t (nP t (i + 1) + 1) zd2
        refine g_aload_n hX d_Mo_readsCopy_49 rfl ?_
        refine g_bipush hX d_Mo_readsCopy_50 rfl ?_
        refine g_callV hX yo_Mo_sign q_923 d_Mo_readsCopy_52 (c_Mo_sign (t := t) (i := nP t (nP t (i + 1) + 1)) ht3 b4 (by omega) (by omega)) rfl rfl ⟨rfl, by decide⟩ rfl (by decide) (Nat.le_of_ble_eq_true rfl) ⟨Nat.zero_le _, Nat.zero_le _⟩ (k_int fun r_52 M_52 ir_52 hp_52 => ?_)
        obtain ⟨er52, a52, b52, f52, k52⟩ := hp_52
        have f4 : RF M_52 M := f52.rf.trans f3
        have g19d : M_52 37 19 = n := by rw [f52.2 19 (by decide) (by decide)]; exact g19c
        refine g_if_ne 64 hX d_Mo_readsCopy_55 (by decide) (by first | omega | exact ite_iR) (fun h_55 => ?_) (fun h_55 => ?_)
        · have zc2 : ch t (nP t (nP t (i + 1) + 1)) = 41 := by (rcases Decidable.em (ch t (nP t (nP t (i + 1) + 1)) = 41) with zz | zz; exact zz; (rw [if_neg zz] at er52; omega))
          rw [if_pos zc2] at zD
          have g18 : M_52 37 18 = nV t (nP t (i + 1) + 1) := by (rw [k52]; exact b3)
          have g16 := a52 zc2
          refine g_aload_n hX d_Mo_readsCopy_64 rfl ?_
          refine g_iload_n hX d_Mo_readsCopy_65 rfl ?_
          refine g_aload_n hX d_Mo_readsCopy_66 rfl ?_
          refine g_getI hX fl_Mo_152 d_Mo_readsCopy_67 18 ⟨rfl, by decide⟩ rfl rfl (fun r_67 => ?_)
          rw [g18] at r_67 ⊢
          refine g_callV hX yo_Mo_wrong q_927 d_Mo_readsCopy_70 (c_Mo_wrong (n := n) (hv.to (f4.1 38 (by decide) (by decide))) hg g19d hb (by omega) (by omega)) rfl rfl ⟨rfl, by decide⟩ rfl (by decide) (Nat.le_of_ble_eq_true rfl) ⟨Nat.zero_le _, Nat.zero_le _⟩ (k_int fun r_70 M_70 ir_70 hp_70 => ?_)
          obtain ⟨er_70, eM_70⟩ := hp_70; replace er_70 := er_70.symm; replace eM_70 := eM_70.symm; subst er_70; subst eM_70
          refine g_istore_n hX d_Mo_readsCopy_73 (by decide) ?_
          refine g_iload_n hX d_Mo_readsCopy_74 rfl ?_
          refine g_if_le 89 hX d_Mo_readsCopy_75 (by decide) (by first | omega | exact ite_iR) (fun h_75 => ?_) (fun h_75 => ?_)
          · have zwb := wrgM_b g (nV t (i + 1)) (nV t (nP t (i + 1) + 1)) n
            have zw : wrg g (nV t (i + 1)) (nV t (nP t (i + 1) + 1)) n = 0 := by omega
            have zp : pC t g (i, pl, 0, n, y) = (nP t (nP t (i + 1) + 1) + 1, pl, 0, n + nV t (nP t (i + 1) + 1), cpF y n (nV t (i + 1)) (nV t (nP t (i + 1) + 1)).toNat) := by (unfold pC; rw [if_neg (by rw [zD]; exact fun z => z rfl), if_neg (by rw [zdC, zlC]; exact fun z => z zw), zD, zdC, zlC])
            refine g_iconst hX d_Mo_readsCopy_89 ?_
            refine g_istore hX d_Mo_readsCopy_90 (by decide) ?_
            exact LOOP _ 0 _ (nV t (i + 1)) (nV t (nP t (i + 1) + 1)) _ _ rfl (by omega) g18 (by rw [g19d]; omega) g16 (fun j u v => by rw [f52.1 50 (by decide), f43.1 50 (by decide), f36.1 50 (by decide), f16.1 50 (by decide), mU_cell (by decide)]; exact hy j u (by omega)) zw zp (by omega) f4
          · have zw : wrg g (nV t (i + 1)) (nV t (nP t (i + 1) + 1)) n ≠ 0 := by omega
            have zp : pC t g (i, pl, 0, n, y) = (nP t (nP t (i + 1) + 1) + 1, i, wrg g (nV t (i + 1)) (nV t (nP t (i + 1) + 1)) n, n, y) := by (unfold pC; rw [if_neg (by rw [zD]; exact fun z => z rfl), if_pos (by rw [zdC, zlC]; exact zw), zD, zdC, zlC])
            refine g_aload_n hX d_Mo_readsCopy_78 rfl ?_
            refine g_iload_n hX d_Mo_readsCopy_79 rfl ?_
            refine g_putI hX fl_Mo_143 d_Mo_readsCopy_80 16 ⟨rfl, by decide⟩ rfl rfl (fun q h => by cases h; rfl) rfl (by omega) ?_
            refine g_aload_n hX d_Mo_readsCopy_83 rfl ?_
            refine g_iload_n hX d_Mo_readsCopy_84 rfl ?_
            refine g_callV hX yo_Mo_fails q_919 d_Mo_readsCopy_85 (c_Mo_fails (by omega)) rfl rfl ⟨rfl, by decide⟩ rfl (by decide) (Nat.le_of_ble_eq_true rfl) ⟨Nat.zero_le _, Nat.zero_le _⟩ (k_int fun r_85 M_85 ir_85 hp_85 => ?_)
            obtain ⟨er_85, eM_85⟩ := hp_85; replace er_85 := er_85.symm; replace eM_85 := eM_85.symm; subst er_85; subst eM_85
            refine g_zret hX hR d_Mo_readsCopy_88 (by omega) ?_
            rw [zp]; exact ⟨(if_neg zw).symm, ⟨fun z => absurd z zw, fun _ => ⟨by rw [mU_slot (by decide), mU_self], by rw [mU_self]⟩⟩, (RF.put (by decide)).trans ((RF.put (by decide)).trans f4), fun z => absurd z zw⟩
        · have zc2 : ch t (nP t (nP t (i + 1) + 1)) ≠ 41 := fun zz => by (rw [if_pos zz] at er52; omega)
          have zf : s4C t i pl = (nP t (nP t (i + 1) + 1), nP t (nP t (i + 1) + 1), 1) := by (rw [zD, if_neg zc2])
          have zg := b52 zc2
          have ff := f4
          refine g_aload_n hX d_Mo_readsCopy_58 rfl ?_
          refine g_iconst hX d_Mo_readsCopy_59 ?_
          refine g_callV hX yo_Mo_fails q_919 d_Mo_readsCopy_60 (c_Mo_fails (by omega)) rfl rfl ⟨rfl, by decide⟩ rfl (by decide) (Nat.le_of_ble_eq_true rfl) ⟨Nat.zero_le _, Nat.zero_le _⟩ (k_int fun r_60 M_60 ir_60 hp_60 => ?_)
          obtain ⟨er_60, eM_60⟩ := hp_60; replace er_60 := er_60.symm; replace eM_60 := eM_60.symm; subst er_60; subst eM_60
          refine g_zret hX hR d_Mo_readsCopy_63 (by omega) ?_
          exact BAD _ _ pl ff zg zf
  · have zd : dgt t (i + 1) = -1 := by (rcases Decidable.em (dgt t (i + 1) = -1) with zz | zz; exact zz; (rw [if_neg zz] at er16; omega))
    refine g_aload_n hX d_Mo_readsCopy_22 rfl ?_
    refine g_iconst hX d_Mo_readsCopy_23 ?_
    refine g_callV hX yo_Mo_fails q_919 d_Mo_readsCopy_24 (c_Mo_fails (by omega)) rfl rfl ⟨rfl, by decide⟩ rfl (by decide) (Nat.le_of_ble_eq_true rfl) ⟨Nat.zero_le _, Nat.zero_le _⟩ (k_int fun r_24 M_24 ir_24 hp_24 => ?_)
    obtain ⟨er_24, eM_24⟩ := hp_24; replace er_24 := er_24.symm; replace eM_24 := eM_24.symm; subst er_24; subst eM_24
    refine g_zret hX hR d_Mo_readsCopy_27 (by omega) ?_
    exact BAD _ _ pl f1 (a16 zd) (s4_A zd)
theorem c_Mo_readsLetter {Γ : gX} {l : Launch} {M : mI} {t : List Int} {i pl n : Int} {y : Int → Int} (ht : Nt M t) (hi : M 37 16 = i) (h0 : 0 ≤ i ∧ i < t.length) (hn : M 37 19 = n) (hb : 0 ≤ n ∧ n ≤ 60) (hy : ∀ j, 0 ≤ j → j < n → M 50 j = y j) : Cn Γ l i_Mo_readsLetter R0 51 [.ref (gb Γ + 37)] M (pI (fun r M' => r = (if (pA (ch t i - 97) (i, pl, 0, n, y)).2.2.1 = 0 then 1 else 0) ∧ RP M' (pA (ch t i - 97) (i, pl, 0, n, y)) ∧ RF M' M ∧ AD i (pA (ch t i - 97) (i, pl, 0, n, y)))) := by
  refine cn_intro (L := [some (.ref (gb Γ + 37))]) yo_Mo_readsLetter.1 rfl (Nat.le_of_ble_eq_true rfl) rfl (fun X hX hR => ?_)
  have t1 := ht.1
  have t2 := ht.2.1
  refine g_aload_n hX d_Mo_readsLetter_0 rfl ?_
  refine g_bipush hX d_Mo_readsLetter_1 rfl ?_
  refine g_bipush hX d_Mo_readsLetter_3 rfl ?_
  refine g_callV hX yo_Mo_isAt q_907 d_Mo_readsLetter_5 (c_Mo_isAt ht hi h0.1 (by omega) (by omega)) rfl rfl ⟨rfl, by decide⟩ rfl (by decide) (Nat.le_of_ble_eq_true rfl) ⟨Nat.zero_le _, Nat.zero_le _⟩ (k_int fun r_5 M_5 ir_5 hp_5 => ?_)
  obtain ⟨er_5, eM_5⟩ := hp_5; replace er_5 := er_5.symm; replace eM_5 := eM_5.symm; subst er_5; subst eM_5
  refine g_if_ne 17 hX d_Mo_readsLetter_8 (by decide) (by first | omega | exact ite_iR) (fun h_8 => ?_) (fun h_8 => ?_)
  · have z1 := ite_ne h_8
    refine g_aload_n hX d_Mo_readsLetter_17 rfl ?_
    refine g_getI hX fl_Mo_155 d_Mo_readsLetter_18 19 ⟨rfl, by decide⟩ rfl rfl (fun r_18 => ?_)
    refine g_bipush hX d_Mo_readsLetter_21 rfl ?_
    refine g_icmp_ne 32 hX d_Mo_readsLetter_23 (by decide) (by omega) (by omega) (fun h_23 => ?_) (fun h_23 => ?_)
    · refine g_aload_n hX d_Mo_readsLetter_32 rfl ?_
      refine g_getR hX fl_Mo_46 d_Mo_readsLetter_33 ⟨rfl, by decide⟩ rfl rfl ?_
      refine g_aload_n hX d_Mo_readsLetter_36 rfl ?_
      refine g_getI hX fl_Mo_155 d_Mo_readsLetter_37 19 ⟨rfl, by decide⟩ rfl rfl (fun r_37 => ?_)
      rw [hn] at r_37 ⊢
      refine g_aload_n hX d_Mo_readsLetter_40 rfl ?_
      refine g_getR hX fl_Mo_19 d_Mo_readsLetter_41 ⟨rfl, by decide⟩ rfl rfl ?_
      refine g_aload_n hX d_Mo_readsLetter_44 rfl ?_
      refine g_getI hX fl_Mo_143 d_Mo_readsLetter_45 16 ⟨rfl, by decide⟩ rfl rfl (fun r_45 => ?_)
      rw [hi] at r_45 ⊢
      refine g_iald hX d_Mo_readsLetter_48 ⟨rfl, by decide⟩ (by omega) (fun r_48 => ?_)
      rw [ht.ch h0.1 h0.2] at r_48 ⊢
      refine g_bipush hX d_Mo_readsLetter_49 rfl ?_
      refine g_isub hX d_Mo_readsLetter_51 ?_
      refine g_iast hX d_Mo_readsLetter_52 ⟨rfl, by decide⟩ (by omega) (by omega) ?_
      refine g_aload_n hX d_Mo_readsLetter_53 rfl ?_
      refine g_dup hX d_Mo_readsLetter_54 rfl ?_
      refine g_getI hX fl_Mo_155 d_Mo_readsLetter_55 19 ⟨rfl, by decide⟩ rfl rfl (fun r_55 => ?_)
      rw [mU_cell (by decide), hn] at r_55 ⊢
      refine g_iconst hX d_Mo_readsLetter_58 ?_
      refine g_iadd hX d_Mo_readsLetter_59 ?_
      refine g_putI hX fl_Mo_155 d_Mo_readsLetter_60 19 ⟨rfl, by decide⟩ rfl rfl (fun q h => by cases h; rfl) rfl (by omega) ?_
      refine g_aload_n hX d_Mo_readsLetter_63 rfl ?_
      refine g_dup hX d_Mo_readsLetter_64 rfl ?_
      refine g_getI hX fl_Mo_143 d_Mo_readsLetter_65 16 ⟨rfl, by decide⟩ rfl rfl (fun r_65 => ?_)
      rw [mU_slot (by decide), mU_cell (by decide), hi] at r_65 ⊢
      refine g_iconst hX d_Mo_readsLetter_68 ?_
      refine g_iadd hX d_Mo_readsLetter_69 ?_
      refine g_putI hX fl_Mo_143 d_Mo_readsLetter_70 16 ⟨rfl, by decide⟩ rfl rfl (fun q h => by cases h; rfl) rfl (by omega) ?_
      refine g_iconst hX d_Mo_readsLetter_73 ?_
      refine g_zret hX hR d_Mo_readsLetter_74 (by omega) ?_
      have zp : pA (ch t i - 97) (i, pl, 0, n, y) = (i + 1, pl, 0, n + 1, fun j => if j = n then ch t i - 97 else y j) := (if_neg (by omega)).trans (if_neg (by show ¬ 60 ≤ n; omega)); rw [zp]; refine ⟨rfl, ⟨fun _ => ⟨by rw [mU_self], by rw [mU_slot (by decide), mU_self], fun j u v => ?_⟩, fun z => absurd rfl z⟩, ⟨fun a u v => by rw [mU_cell u, mU_cell u, mU_cell v], fun j u => by rw [mU_slot (by omega), mU_slot (by omega), mU_cell (by decide)]⟩, fun _ => ⟨by show i + 1 ≤ i + 1; omega, by show 0 ≤ n + 1; omega, by show n + 1 ≤ 60; omega⟩⟩; rw [mU_cell (by decide), mU_cell (by decide), mU_if]; show _ = (if j = n then ch t i - 97 else y j); by_cases zj : j = n; (rw [if_pos zj, if_pos zj]); (rw [if_neg zj, if_neg zj]; exact hy j u (by have v2 : j < n + 1 := v; omega))
    · refine g_aload_n hX d_Mo_readsLetter_26 rfl ?_
      refine g_iconst hX d_Mo_readsLetter_27 ?_
      refine g_callV hX yo_Mo_fails q_919 d_Mo_readsLetter_28 (c_Mo_fails (by omega)) rfl rfl ⟨rfl, by decide⟩ rfl (by decide) (Nat.le_of_ble_eq_true rfl) ⟨Nat.zero_le _, Nat.zero_le _⟩ (k_int fun r_28 M_28 ir_28 hp_28 => ?_)
      obtain ⟨er_28, eM_28⟩ := hp_28; replace er_28 := er_28.symm; replace eM_28 := eM_28.symm; subst er_28; subst eM_28
      refine g_zret hX hR d_Mo_readsLetter_31 (by omega) ?_
      have zp : pA (ch t i - 97) (i, pl, 0, n, y) = (i, i, 4, n, y) := (if_neg (by omega)).trans (if_pos (by show 60 ≤ n; omega)); rw [zp]; exact ⟨rfl, ⟨fun z => absurd z (by show ¬ (4 : Int) = 0; decide), fun _ => ⟨by rw [mU_slot (by decide)]; exact hi, by rw [mU_self]⟩⟩, RF.put (by decide), fun z => absurd z (by show ¬ (4 : Int) = 0; decide)⟩
  · have z1 := ite_eq h_8
    refine g_aload_n hX d_Mo_readsLetter_11 rfl ?_
    refine g_iconst hX d_Mo_readsLetter_12 ?_
    refine g_callV hX yo_Mo_fails q_919 d_Mo_readsLetter_13 (c_Mo_fails (by omega)) rfl rfl ⟨rfl, by decide⟩ rfl (by decide) (Nat.le_of_ble_eq_true rfl) ⟨Nat.zero_le _, Nat.zero_le _⟩ (k_int fun r_13 M_13 ir_13 hp_13 => ?_)
    obtain ⟨er_13, eM_13⟩ := hp_13; replace er_13 := er_13.symm; replace eM_13 := eM_13.symm; subst er_13; subst eM_13
    refine g_zret hX hR d_Mo_readsLetter_16 (by omega) ?_
    have zp : pA (ch t i - 97) (i, pl, 0, n, y) = (i, i, 1, n, y) := if_pos (by omega); rw [zp]; exact ⟨rfl, ⟨fun z => absurd z (by show ¬ (1 : Int) = 0; decide), fun _ => ⟨by rw [mU_slot (by decide)]; exact hi, by rw [mU_self]⟩⟩, RF.put (by decide), fun z => absurd z (by show ¬ (1 : Int) = 0; decide)⟩
theorem c_Mo_isRight {Γ : gX} {l : Launch} {M : mI} {t : List Int} {n0 : Int} {x g : Int → Int} (hv : Ns M n0 x g) (hg : Og g) (ht : Nt M t) : Cn Γ l i_Mo_isRight R0 51 [.ref (gb Γ + 37)] M (pI (fun r M' => r = (if (prT t g).2.2.1 = 0 then 1 else 0) ∧ RP M' (prT t g) ∧ RF M' M ∧ ((prT t g).2.2.1 = 0 → 0 ≤ (prT t g).2.2.2.1 ∧ (prT t g).2.2.2.1 ≤ 60))) := by
  refine cn_intro (L := [some (.ref (gb Γ + 37)), none]) yo_Mo_isRight.1 rfl (Nat.le_of_ble_eq_true rfl) rfl (fun X hX hR => ?_)
  have t2 := ht.2.1
  have LOOP : ∀ (q : Nat) (s : pT) (b : Int) (M1 : mI), prs t g q s = prT t g → b = (if s.2.2.1 = 0 then 1 else 0) → RP M1 s → (s.2.2.1 = 0 → (t.length : Int) - s.1 ≤ q ∧ 0 ≤ s.1 ∧ 0 ≤ s.2.2.2.1 ∧ s.2.2.2.1 ≤ 60) → RF M1 M → G Γ X 2 (R0, 51, 0, 0) 12 [some (.ref (gb Γ + 37)), some (vI b)] [] M1 := by
    intro q
    induction q with
    | zero =>
      intro s b M1 hp hb hRP hz hF
      have t6 := (hF.nt ht).1
      have hp2 : s = prT t g := hp
      have hbb : b = 0 ∨ b = 1 := by rw [hb]; split <;> omega
      refine g_iload_n hX d_Mo_isRight_12 rfl ?_
      refine g_if_eq 53 hX d_Mo_isRight_13 (by decide) (by first | omega | exact ite_iR) (fun h_13 => ?_) (fun h_13 => ?_)
      · refine g_iload_n hX d_Mo_isRight_53 rfl ?_
        refine g_zret hX hR d_Mo_isRight_54 (by omega) ?_
        rw [← hp2]; exact ⟨hb, hRP, hF, fun z => (hz z).2.2⟩
      · have zr : s.2.2.1 = 0 := by (rcases Decidable.em (s.2.2.1 = 0) with zz | zz; exact zz; (rw [if_neg zz] at hb; omega))
        have zR := hRP.1 zr
        have zz := hz zr
        refine g_aload_n hX d_Mo_isRight_16 rfl ?_
        refine g_getI hX fl_Mo_143 d_Mo_isRight_17 16 ⟨rfl, by decide⟩ rfl rfl (fun r_17 => ?_)
        refine g_aload_n hX d_Mo_isRight_20 rfl ?_
        refine g_getI hX fl_Mo_123 d_Mo_isRight_21 6 ⟨rfl, by decide⟩ rfl rfl (fun r_21 => ?_)
        refine g_icmp_ge 53 hX d_Mo_isRight_24 (by decide) (by omega) (by omega) (fun h_24 => ?_) (fun h_24 => ?_)
        · refine g_iload_n hX d_Mo_isRight_53 rfl ?_
          refine g_zret hX hR d_Mo_isRight_54 (by omega) ?_
          rw [← hp2]; exact ⟨hb, hRP, hF, fun z => (hz z).2.2⟩
        · exact absurd h_24 (by omega)
    | succ q ih =>
      intro s b M1 hp hb hRP hz hF
      obtain ⟨i, pl, w, n, y⟩ := s
      have ht1 := hF.nt ht
      have t6 := ht1.1
      have hbb : b = 0 ∨ b = 1 := by rw [hb]; split <;> omega
      rw [prs_succ] at hp
      refine g_iload_n hX d_Mo_isRight_12 rfl ?_
      refine g_if_eq 53 hX d_Mo_isRight_13 (by decide) (by first | omega | exact ite_iR) (fun h_13 => ?_) (fun h_13 => ?_)
      · have zr : w ≠ 0 := by (intro zz; rw [if_pos (by exact zz)] at hb; omega)
        rw [if_neg (fun zz => zr zz.2)] at hp
        refine g_iload_n hX d_Mo_isRight_53 rfl ?_
        refine g_zret hX hR d_Mo_isRight_54 (by omega) ?_
        rw [← hp]; exact ⟨hb, hRP, hF, fun z => (hz z).2.2⟩
      · have zr : w = 0 := by (rcases Decidable.em (w = 0) with zz | zz; exact zz; (rw [if_neg (by exact zz)] at hb; omega))
        subst zr
        have zR : M1 37 16 = i ∧ M1 37 19 = n ∧ ∀ j, 0 ≤ j → j < n → M1 50 j = y j := hRP.1 rfl
        have zz : (t.length : Int) - i ≤ (q + 1 : Nat) ∧ 0 ≤ i ∧ 0 ≤ n ∧ n ≤ 60 := hz rfl
        refine g_aload_n hX d_Mo_isRight_16 rfl ?_
        refine g_getI hX fl_Mo_143 d_Mo_isRight_17 16 ⟨rfl, by decide⟩ rfl rfl (fun r_17 => ?_)
        refine g_aload_n hX d_Mo_isRight_20 rfl ?_
        refine g_getI hX fl_Mo_123 d_Mo_isRight_21 6 ⟨rfl, by decide⟩ rfl rfl (fun r_21 => ?_)
        refine g_icmp_ge 53 hX d_Mo_isRight_24 (by decide) (by omega) (by omega) (fun h_24 => ?_) (fun h_24 => ?_)
        · rw [if_neg (fun zq => absurd (show i < (t.length : Int) from zq.1) (by omega))] at hp
          refine g_iload_n hX d_Mo_isRight_53 rfl ?_
          refine g_zret hX hR d_Mo_isRight_54 (by omega) ?_
          rw [← hp]; exact ⟨hb, hRP, hF, fun z => (hz z).2.2⟩
        · have zlt : i < (t.length : Int) := by omega
          rw [if_pos ⟨zlt, rfl⟩] at hp
          refine g_aload_n hX d_Mo_isRight_27 rfl ?_
          refine g_bipush hX d_Mo_isRight_28 rfl ?_
          refine g_bipush hX d_Mo_isRight_30 rfl ?_
          refine g_callV hX yo_Mo_isAt q_907 d_Mo_isRight_32 (c_Mo_isAt (t := t) (i := i) ht1 zR.1 zz.2.1 (by omega) (by omega)) rfl rfl ⟨rfl, by decide⟩ rfl (by decide) (Nat.le_of_ble_eq_true rfl) ⟨Nat.zero_le _, Nat.zero_le _⟩ (k_int fun r_32 M_32 ir_32 hp_32 => ?_)
          obtain ⟨er_32, eM_32⟩ := hp_32; replace er_32 := er_32.symm; replace eM_32 := eM_32.symm; subst er_32; subst eM_32
          refine g_if_eq 45 hX d_Mo_isRight_35 (by decide) (by first | omega | exact ite_iR) (fun h_35 => ?_) (fun h_35 => ?_)
          · have z1 := ite_eq h_35
            have hp3 : prs t g q (pA (ch t i - 97) (i, pl, 0, n, y)) = prT t g := by (rw [← hp, if_neg (by show ¬ ch t i = 40; omega)])
            refine g_aload_n hX d_Mo_isRight_45 rfl ?_
            refine g_callV hX yo_Mo_readsLetter q_931 d_Mo_isRight_46 (c_Mo_readsLetter (pl := pl) ht1 zR.1 (by omega) zR.2.1 zz.2.2 zR.2.2) rfl rfl ⟨rfl, by decide⟩ rfl (by decide) (Nat.le_of_ble_eq_true rfl) ⟨Nat.zero_le _, Nat.zero_le _⟩ (k_int fun r_46 M_46 ir_46 hp_46 => ?_)
            obtain ⟨er, hR2, hF2, hA⟩ := hp_46
            refine g_istore_n hX d_Mo_isRight_49 (by decide) ?_
            refine g_goto 12 hX d_Mo_isRight_50 (by decide) ?_
            exact ih _ _ _ hp3 er hR2 (fun z => by have zA := hA z; omega) (hF2.trans hF)
          · have z1 := ite_ne h_35
            have hp3 : prs t g q (pC t g (i, pl, 0, n, y)) = prT t g := by (rw [← hp, if_pos (by show ch t i = 40; omega)])
            refine g_aload_n hX d_Mo_isRight_38 rfl ?_
            refine g_callV hX yo_Mo_readsCopy q_911 d_Mo_isRight_39 (c_Mo_readsCopy (pl := pl) (hv.to (hF.1 38 (by decide) (by decide))) hg ht1 zR.1 (by omega) zR.2.1 zz.2.2 zR.2.2) rfl rfl ⟨rfl, by decide⟩ rfl (by decide) (Nat.le_of_ble_eq_true rfl) ⟨Nat.zero_le _, Nat.zero_le _⟩ (k_int fun r_39 M_39 ir_39 hp_39 => ?_)
            obtain ⟨er, hR2, hF2, hA⟩ := hp_39
            refine g_goto 49 hX d_Mo_isRight_42 (by decide) ?_
            refine g_istore_n hX d_Mo_isRight_49 (by decide) ?_
            refine g_goto 12 hX d_Mo_isRight_50 (by decide) ?_
            exact ih _ _ _ hp3 er hR2 (fun z => by have zA := hA z; omega) (hF2.trans hF)
  refine g_aload_n hX d_Mo_isRight_0 rfl ?_
  refine g_iconst hX d_Mo_isRight_1 ?_
  refine g_putI hX fl_Mo_143 d_Mo_isRight_2 16 ⟨rfl, by decide⟩ rfl rfl (fun q h => by cases h; rfl) rfl (by omega) ?_
  refine g_aload_n hX d_Mo_isRight_5 rfl ?_
  refine g_iconst hX d_Mo_isRight_6 ?_
  refine g_putI hX fl_Mo_155 d_Mo_isRight_7 19 ⟨rfl, by decide⟩ rfl rfl (fun q h => by cases h; rfl) rfl (by omega) ?_
  refine g_iconst hX d_Mo_isRight_10 ?_
  refine g_istore_n hX d_Mo_isRight_11 (by decide) ?_
  exact LOOP 120 (0, 0, 0, 0, fun _ => 0) 1 _ rfl rfl ⟨fun _ => ⟨by rw [mU_slot (by decide), mU_self], by rw [mU_self], fun j u v => absurd v (by show ¬ j < 0; omega)⟩, fun z => absurd rfl z⟩ (fun _ => ⟨by show (t.length : Int) - 0 ≤ ((120 : Nat) : Int); omega, Int.le_refl _, Int.le_refl _, by show (0 : Int) ≤ 60; omega⟩) ((RF.put (by decide)).trans (RF.put (by decide)))
theorem c_Mo_fault {Γ : gX} {l : Launch} {M : mI} {σ : sG} {k : Int} (h : MR M σ) (ok : OkV σ) (hk : iR k) : Cn Γ l i_Mo_fault R0 51 [.ref (gb Γ + 37), vI k] M (pI (fun r M' => r = q_fault σ k ∧ MR M' σ ∧ ∀ a, a < 37 → M' a = M a)) := by
  refine cn_intro (L := [some (.ref (gb Γ + 37)), some (vI k)]) yo_Mo_fault.1 rfl (Nat.le_of_ble_eq_true rfl) rfl (fun X hX hR => ?_)
  refine g_iload_n hX d_Mo_fault_0 rfl ?_
  refine g_iconst hX d_Mo_fault_1 ?_
  refine g_iconst hX d_Mo_fault_2 ?_
  refine g_callS hX yo_Mo_in q_732 d_Mo_fault_3 (c_Mo_in hk (by omega) (by omega)) rfl rfl (by decide) (Nat.le_of_ble_eq_true rfl) ⟨Nat.zero_le _, Nat.zero_le _⟩ (k_int fun r_3 M_3 ir_3 hp_3 => ?_)
  obtain ⟨er_3, eM_3⟩ := hp_3; replace er_3 := er_3.symm; replace eM_3 := eM_3.symm; subst er_3; subst eM_3
  refine g_if_ne 13 hX d_Mo_fault_6 (by decide) (by first | omega | exact ite_iR) (fun h_6 => ?_) (fun h_6 => ?_)
  · have z1 := ite_ne h_6
    refine g_aload_n hX d_Mo_fault_13 rfl ?_
    refine g_callV hX yo_Mo_isRight q_903 d_Mo_fault_14 (c_Mo_isRight h.1 ok.1.2.1 h.2.2.2.2) rfl rfl ⟨rfl, by decide⟩ rfl (by decide) (Nat.le_of_ble_eq_true rfl) ⟨Nat.zero_le _, Nat.zero_le _⟩ (k_int fun r_14 M_14 ir_14 hp_14 => ?_)
    obtain ⟨er, hRP, hF, hB⟩ := hp_14
    have hlo : ∀ a, a < 37 → M_14 a = M a := fun a u => hF.1 a (by omega) (by omega)
    refine g_if_eq 26 hX d_Mo_fault_17 (by decide) (by first | omega | exact ite_iR) (fun h_17 => ?_) (fun h_17 => ?_)
    · have zr : (prT σ.2.2.2 σ.1.2.2).2.2.1 ≠ 0 := by (intro zz; rw [if_pos zz] at er; omega)
      obtain ⟨zR1, zR2⟩ := hRP.2 zr
      refine g_iload_n hX d_Mo_fault_26 rfl ?_
      refine g_if_ne 37 hX d_Mo_fault_27 (by decide) (by first | omega | exact ite_iR) (fun h_27 => ?_) (fun h_27 => ?_)
      · refine g_aload_n hX d_Mo_fault_37 rfl ?_
        refine g_getI hX fl_Mo_146 d_Mo_fault_38 17 ⟨rfl, by decide⟩ rfl rfl (fun r_38 => ?_)
        refine g_iret hX hR d_Mo_fault_41 (by omega) ?_
        refine ⟨?_, hF.mr h, hlo⟩; unfold q_fault; rw [if_neg (by omega)]; first | (rw [if_pos zr]; done) | (rw [if_neg zr, if_pos h_27]; exact zR1) | (rw [if_neg zr, if_neg h_27]; exact zR2)
      · refine g_aload_n hX d_Mo_fault_30 rfl ?_
        refine g_getI hX fl_Mo_143 d_Mo_fault_31 16 ⟨rfl, by decide⟩ rfl rfl (fun r_31 => ?_)
        refine g_goto 41 hX d_Mo_fault_34 (by decide) ?_
        refine g_iret hX hR d_Mo_fault_41 (by omega) ?_
        refine ⟨?_, hF.mr h, hlo⟩; unfold q_fault; rw [if_neg (by omega)]; first | (rw [if_pos zr]; done) | (rw [if_neg zr, if_pos h_27]; exact zR1) | (rw [if_neg zr, if_neg h_27]; exact zR2)
    · have zr : (prT σ.2.2.2 σ.1.2.2).2.2.1 = 0 := by (rcases Decidable.em ((prT σ.2.2.2 σ.1.2.2).2.2.1 = 0) with zz | zz; exact zz; (rw [if_neg zz] at er; omega))
      refine g_sipush hX d_Mo_fault_20 rfl ?_
      refine g_goto 41 hX d_Mo_fault_23 (by decide) ?_
      refine g_iret hX hR d_Mo_fault_41 (by omega) ?_
      refine ⟨?_, hF.mr h, hlo⟩; unfold q_fault; rw [if_neg (by omega)]; first | (rw [if_pos zr]; done) | (rw [if_neg zr, if_pos h_27]; exact zR1) | (rw [if_neg zr, if_neg h_27]; exact zR2)
  · have z1 := ite_eq h_6
    refine g_sipush hX d_Mo_fault_9 rfl ?_
    refine g_iret hX hR d_Mo_fault_12 (by omega) ?_
    refine ⟨?_, h, fun _ _ => rfl⟩; unfold q_fault; rw [if_pos z1]
theorem c_Mo_read {Γ : gX} {l : Launch} {M : mI} {σ : sG} (h : MR M σ) (ok : OkV σ) : Cn Γ l i_Mo_read R0 51 [.ref (gb Γ + 37)] M (pI (fun r M' => r = (q_read σ).1 ∧ MR M' (q_read σ).2 ∧ ∀ a, a < 37 → M' a = M a)) := by
  refine cn_intro (L := [some (.ref (gb Γ + 37)), none]) yo_Mo_read.1 rfl (Nat.le_of_ble_eq_true rfl) rfl (fun X hX hR => ?_)
  have LOOP : ∀ (q k : Nat) (n : Int) (y : Int → Int) (M1 M0 : mI), (prT σ.2.2.2 σ.1.2.2).2.2.1 = 0 → n = (prT σ.2.2.2 σ.1.2.2).2.2.2.1 → y = (prT σ.2.2.2 σ.1.2.2).2.2.2.2 → (0 ≤ n ∧ n ≤ 60) → n.toNat - k = q → (k : Int) ≤ n → M0 37 19 = n → (∀ j, 0 ≤ j → j < n → M0 50 j = y j) → M1 38 0 = n → (∀ j : Int, 0 ≤ j → j < k → M1 38 (6 + j) = y j) → (∀ j, 0 ≤ j → j < 5 → M1 38 (1 + j) = σ.1.2.2 j) → (∀ a, a ≠ 38 → M1 a = M0 a) → Nh M0 (hPush σ.2.1 σ.1) → (∀ a, a ≠ 37 → a ≠ 39 → a ≠ 50 → M0 a = M a) → (∀ j, j ≠ 4 → j < 16 → M0 37 j = M 37 j) → G Γ X 2 (R0, 51, 0, 0) 27 [some (.ref (gb Γ + 37)), some (vI k)] [] M1 := by
    intro q
    induction q with
    | zero =>
      intro k n y M1 M0 zr hn hy hb hq hk h19 h50 e0 e1 e2 e3 e4 e5 e6
      have f19 : M1 37 19 = n := by rw [e3 37 (by decide)]; exact h19
      refine g_iload_n hX d_Mo_read_27 rfl ?_
      refine g_aload_n hX d_Mo_read_28 rfl ?_
      refine g_getI hX fl_Mo_155 d_Mo_read_29 19 ⟨rfl, by decide⟩ rfl rfl (fun r_29 => ?_)
      refine g_icmp_ge 56 hX d_Mo_read_32 (by decide) (by omega) (by omega) (fun h_32 => ?_) (fun h_32 => ?_)
      · refine g_aload_n hX d_Mo_read_56 rfl ?_
        refine g_getI hX fl_Mo_155 d_Mo_read_57 19 ⟨rfl, by decide⟩ rfl rfl (fun r_57 => ?_)
        refine g_iret hX hR d_Mo_read_60 (by omega) ?_
        have zq : q_read σ = (n, chg σ (n, y, σ.1.2.2)) := by (unfold q_read; rw [if_neg (fun z => z zr), hn, hy])
        rw [zq]
        exact ⟨f19, MR_rec h ⟨e0, hb.1, hb.2, fun j u v => e1 j u (by have v2 : j < n := v; omega), e2⟩ (e4.to (by rw [e3 37 (by decide)]) (e3 39 (by decide))) (fun a u v => by rw [e3 a (by omega)]; exact e5 a (by omega) (by omega) (by omega)) (by rw [e3 37 (by decide)]; exact e6 3 (by decide) (by decide)) (by rw [e3 37 (by decide)]; exact e6 6 (by decide) (by decide)), fun a u => by rw [e3 a (by omega)]; exact e5 a (by omega) (by omega) (by omega)⟩
      · exact absurd h_32 (by omega)
    | succ q ih =>
      intro k n y M1 M0 zr hn hy hb hq hk h19 h50 e0 e1 e2 e3 e4 e5 e6
      have f19 : M1 37 19 = n := by rw [e3 37 (by decide)]; exact h19
      refine g_iload_n hX d_Mo_read_27 rfl ?_
      refine g_aload_n hX d_Mo_read_28 rfl ?_
      refine g_getI hX fl_Mo_155 d_Mo_read_29 19 ⟨rfl, by decide⟩ rfl rfl (fun r_29 => ?_)
      refine g_icmp_ge 56 hX d_Mo_read_32 (by decide) (by omega) (by omega) (fun h_32 => ?_) (fun h_32 => ?_)
      · exact absurd h_32 (by omega)
      · refine g_aload_n hX d_Mo_read_35 rfl ?_
        refine g_getR hX fl_Mo_7 d_Mo_read_36 ⟨rfl, by decide⟩ rfl rfl ?_
        refine g_bipush hX d_Mo_read_39 rfl ?_
        refine g_iload_n hX d_Mo_read_41 rfl ?_
        refine g_iadd hX d_Mo_read_42 ?_
        refine g_aload_n hX d_Mo_read_43 rfl ?_
        refine g_getR hX fl_Mo_46 d_Mo_read_44 ⟨rfl, by decide⟩ rfl rfl ?_
        refine g_iload_n hX d_Mo_read_47 rfl ?_
        refine g_iald hX d_Mo_read_48 ⟨rfl, by decide⟩ (by omega) (fun r_48 => ?_)
        rw [e3 50 (by decide), h50 k (by omega) (by omega)] at r_48 ⊢
        refine g_iast hX d_Mo_read_49 ⟨rfl, by decide⟩ (by omega) (by omega) ?_
        refine g_iinc hX d_Mo_read_50 rfl (by decide) ?_
        refine g_goto 27 hX d_Mo_read_53 (by decide) ?_
        rw [show (k : Int) + 1 = ((k + 1 : Nat) : Int) by omega]
        refine ih (k + 1) n y _ M0 zr hn hy hb (by omega) (by omega) h19 h50 (by rw [mU_slot (by omega)]; exact e0) (fun j u v => ?_) (fun j u v => by rw [mU_slot (by omega)]; exact e2 j u v) (fun a u => by rw [mU_cell u]; exact e3 a u) e4 e5 e6
        by_cases zj : j = k
        · subst zj; rw [mU_self]
        · rw [mU_slot (by omega)]; exact e1 j u (by omega)
  refine g_aload_n hX d_Mo_read_0 rfl ?_
  refine g_callV hX yo_Mo_isRight q_903 d_Mo_read_1 (c_Mo_isRight h.1 ok.1.2.1 h.2.2.2.2) rfl rfl ⟨rfl, by decide⟩ rfl (by decide) (Nat.le_of_ble_eq_true rfl) ⟨Nat.zero_le _, Nat.zero_le _⟩ (k_int fun r_1 M_1 ir_1 hp_1 => ?_)
  obtain ⟨er, hRP, hF, hB⟩ := hp_1
  have hm := hF.mr h
  have hlo : ∀ a, a < 37 → M_1 a = M a := fun a u => hF.1 a (by omega) (by omega)
  refine g_if_ne 11 hX d_Mo_read_4 (by decide) (by first | omega | exact ite_iR) (fun h_4 => ?_) (fun h_4 => ?_)
  · have zr : (prT σ.2.2.2 σ.1.2.2).2.2.1 = 0 := by (rcases Decidable.em ((prT σ.2.2.2 σ.1.2.2).2.2.1 = 0) with zz | zz; exact zz; (rw [if_neg zz] at er; omega))
    obtain ⟨zR1, zR2, zR3⟩ := hRP.1 zr
    have zB := hB zr
    refine g_aload_n hX d_Mo_read_11 rfl ?_
    refine g_callV hX yo_Mo_changes q_735 d_Mo_read_12 (c_Mo_changes hm.2.1 hm.1) rfl rfl ⟨rfl, by decide⟩ rfl (by decide) (Nat.le_of_ble_eq_true rfl) ⟨Nat.zero_le _, Nat.zero_le _⟩ (k_void fun M_12 hp_12 => ?_)
    obtain ⟨p1, p2, p3⟩ := hp_12
    have g19 : M_12 37 19 = (prT σ.2.2.2 σ.1.2.2).2.2.2.1 := by rw [p3 19 (by decide)]; exact zR2
    refine g_aload_n hX d_Mo_read_15 rfl ?_
    refine g_getR hX fl_Mo_7 d_Mo_read_16 ⟨rfl, by decide⟩ rfl rfl ?_
    refine g_iconst hX d_Mo_read_19 ?_
    refine g_aload_n hX d_Mo_read_20 rfl ?_
    refine g_getI hX fl_Mo_155 d_Mo_read_21 19 ⟨rfl, by decide⟩ rfl rfl (fun r_21 => ?_)
    rw [g19] at r_21 ⊢
    refine g_iast hX d_Mo_read_24 ⟨rfl, by decide⟩ (by omega) (by omega) ?_
    refine g_iconst hX d_Mo_read_25 ?_
    refine g_istore_n hX d_Mo_read_26 (by decide) ?_
    exact LOOP _ 0 _ _ _ M_12 zr rfl rfl zB rfl (by omega) g19 (fun j u v => by rw [p2 50 (by decide) (by decide)]; exact zR3 j u v) (by rw [mU_self]) (fun j u v => absurd v (by omega)) (fun j u v => by rw [mU_slot (by omega), p2 38 (by decide) (by decide)]; exact hm.1.2.2.2.2 j u v) (fun a u => mU_cell u) p1 (fun a u v z => by rw [p2 a u v]; exact hF.1 a u z) (fun j u v => by rw [p3 j u]; exact hF.2 j v)
  · have zr : (prT σ.2.2.2 σ.1.2.2).2.2.1 ≠ 0 := by (intro zz; rw [if_pos zz] at er; omega)
    refine g_sipush hX d_Mo_read_7 rfl ?_
    refine g_iret hX hR d_Mo_read_10 (by omega) ?_
    unfold q_read; rw [if_pos zr]; exact ⟨rfl, hm, hlo⟩
