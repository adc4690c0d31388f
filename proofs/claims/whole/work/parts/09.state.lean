theorem c_WC_isIn {Γ : gX} {l : Launch} {M : mI} {a b c : Int} (ha : iR a) (hb : iR b) (hc : iR c) {R : mR} {K : Nat} : Cn Γ l i_WC_isIn R K [vI a, vI b, vI c] M (pI (fun r M' => r = (if b ≤ a ∧ a ≤ c then 1 else 0) ∧ M' = M)) := by
  refine cn_intro (L := [some (vI a), some (vI b), some (vI c)]) yo_WC_isIn.1 rfl (Nat.le_of_ble_eq_true rfl) rfl (fun X hX hR => ?_)
  refine g_iload_n hX d_WC_isIn_0 rfl ?_
  refine g_iload_n hX d_WC_isIn_1 rfl ?_
  refine g_icmp_lt 14 hX d_WC_isIn_2 (by decide) (by omega) (by omega) (fun h_2 => ?_) (fun h_2 => ?_)
  · refine g_iconst hX d_WC_isIn_14 ?_
    refine g_zret hX hR d_WC_isIn_15 (by omega) ?_
    exact ⟨by first | rw [if_pos (by omega)] | rw [if_neg (by omega)], rfl⟩
  · refine g_iload_n hX d_WC_isIn_5 rfl ?_
    refine g_iload_n hX d_WC_isIn_6 rfl ?_
    refine g_icmp_gt 14 hX d_WC_isIn_7 (by decide) (by omega) (by omega) (fun h_7 => ?_) (fun h_7 => ?_)
    · refine g_iconst hX d_WC_isIn_14 ?_
      refine g_zret hX hR d_WC_isIn_15 (by omega) ?_
      exact ⟨by first | rw [if_pos (by omega)] | rw [if_neg (by omega)], rfl⟩
    · refine g_iconst hX d_WC_isIn_10 ?_
      refine g_goto 15 hX d_WC_isIn_11 (by decide) ?_
      refine g_zret hX hR d_WC_isIn_15 (by omega) ?_
      exact ⟨by first | rw [if_pos (by omega)] | rw [if_neg (by omega)], rfl⟩
theorem c_WC_isLetter {Γ : gX} {l : Launch} {M : mI} {a : Int} (ha : iR a) : Cn Γ l i_WC_isLetter R0 51 [vI a] M (pI (fun r M' => r = (if 0 ≤ a ∧ a ≤ 7 then 1 else 0) ∧ M' = M)) := by
  refine cn_intro (L := [some (vI a)]) yo_WC_isLetter.1 rfl (Nat.le_of_ble_eq_true rfl) rfl (fun X hX hR => ?_)
  refine g_iload_n hX d_WC_isLetter_0 rfl ?_
  refine g_iconst hX d_WC_isLetter_1 ?_
  refine g_bipush hX d_WC_isLetter_2 rfl ?_
  refine g_callS hX yo_WC_isIn q_219 d_WC_isLetter_4 (c_WC_isIn ha (by omega) (by omega)) rfl rfl (by decide) (Nat.le_of_ble_eq_true rfl) ⟨Nat.zero_le _, Nat.zero_le _⟩ (k_int fun r_4 M_4 ir_4 hp_4 => ?_)
  obtain ⟨er_4, eM_4⟩ := hp_4; replace er_4 := er_4.symm; replace eM_4 := eM_4.symm; subst er_4; subst eM_4
  refine g_zret hX hR d_WC_isLetter_7 (by split <;> omega) ?_
  exact ⟨rfl, rfl⟩
theorem c_WC_isWay {Γ : gX} {l : Launch} {M : mI} {a : Int} (ha : iR a) : Cn Γ l i_WC_isWay R0 51 [vI a] M (pI (fun r M' => r = (if 0 ≤ a ∧ a ≤ 2 then 1 else 0) ∧ M' = M)) := by
  refine cn_intro (L := [some (vI a)]) yo_WC_isWay.1 rfl (Nat.le_of_ble_eq_true rfl) rfl (fun X hX hR => ?_)
  refine g_iload_n hX d_WC_isWay_0 rfl ?_
  refine g_iconst hX d_WC_isWay_1 ?_
  refine g_iconst hX d_WC_isWay_2 ?_
  refine g_callS hX yo_WC_isIn q_219 d_WC_isWay_3 (c_WC_isIn ha (by omega) (by omega)) rfl rfl (by decide) (Nat.le_of_ble_eq_true rfl) ⟨Nat.zero_le _, Nat.zero_le _⟩ (k_int fun r_3 M_3 ir_3 hp_3 => ?_)
  obtain ⟨er_3, eM_3⟩ := hp_3; replace er_3 := er_3.symm; replace eM_3 := eM_3.symm; subst er_3; subst eM_3
  refine g_zret hX hR d_WC_isWay_6 (by split <;> omega) ?_
  exact ⟨rfl, rfl⟩
theorem c_WC_at {Γ : gX} {l : Launch} {M : mI} {R : mR} {K k n : Nat} {i : Int} (hd : dsL[k]? = some (0, n)) (hk : k < K) (hi : 0 ≤ i ∧ i < n) : Cn Γ l i_WC_at R K [.ref (gb Γ + k), vI i] M (pI (fun r M' => r = M k i ∧ M' = M)) := by
  refine cn_intro (L := [some (.ref (gb Γ + k)), some (vI i)]) yo_WC_at.1 rfl (Nat.le_of_ble_eq_true rfl) rfl (fun X hX hR => ?_)
  have hn := ds_small k n hd
  refine g_iload_n hX d_WC_at_0 rfl ?_
  refine g_if_lt 16 hX d_WC_at_1 (by decide) (by omega) (fun h_1 => ?_) (fun h_1 => ?_)
  · exact absurd h_1 (by omega)
  · refine g_iload_n hX d_WC_at_4 rfl ?_
    refine g_aload_n hX d_WC_at_5 rfl ?_
    refine g_alen hX d_WC_at_6 ⟨hd, hk⟩ ?_
    refine g_icmp_ge 16 hX d_WC_at_7 (by decide) (by omega) (by omega) (fun h_7 => ?_) (fun h_7 => ?_)
    · exact absurd h_7 (by omega)
    · refine g_aload_n hX d_WC_at_10 rfl ?_
      refine g_iload_n hX d_WC_at_11 rfl ?_
      refine g_iald hX d_WC_at_12 ⟨hd, hk⟩ (by omega) (fun r_12 => ?_)
      refine g_goto 17 hX d_WC_at_13 (by decide) ?_
      refine g_iret hX hR d_WC_at_17 (by omega) ?_
      exact ⟨rfl, rfl⟩
theorem c_WC_store {Γ : gX} {l : Launch} {M : mI} {R : mR} {K k n : Nat} {i x : Int} (hd : dsL[k]? = some (0, n)) (hk : k < K) (hi : 0 ≤ i ∧ i < n) (hx : iR x) : Cn Γ l i_WC_store R K [.ref (gb Γ + k), vI i, vI x] M (pV (fun M' => M' = mU M k i x)) := by
  refine cn_intro (L := [some (.ref (gb Γ + k)), some (vI i), some (vI x)]) yo_WC_store.1 rfl (Nat.le_of_ble_eq_true rfl) rfl (fun X hX hR => ?_)
  have hn := ds_small k n hd
  refine g_iload_n hX d_WC_store_0 rfl ?_
  refine g_if_lt 14 hX d_WC_store_1 (by decide) (by omega) (fun h_1 => ?_) (fun h_1 => ?_)
  · exact absurd h_1 (by omega)
  · refine g_iload_n hX d_WC_store_4 rfl ?_
    refine g_aload_n hX d_WC_store_5 rfl ?_
    refine g_alen hX d_WC_store_6 ⟨hd, hk⟩ ?_
    refine g_icmp_ge 14 hX d_WC_store_7 (by decide) (by omega) (by omega) (fun h_7 => ?_) (fun h_7 => ?_)
    · exact absurd h_7 (by omega)
    · refine g_aload_n hX d_WC_store_10 rfl ?_
      refine g_iload_n hX d_WC_store_11 rfl ?_
      refine g_iload_n hX d_WC_store_12 rfl ?_
      refine g_iast hX d_WC_store_13 ⟨hd, hk⟩ (by omega) hx ?_
      refine g_vret hX hR d_WC_store_14 ?_
      rfl
theorem c_State_size {Γ : gX} {l : Launch} {M : mI} {k : Nat} (hs : St k) : Cn Γ l i_State_size R0 51 [.ref (gb Γ + k)] M (pI (fun r M' => r = M k 2 ∧ M' = M)) := by
  refine cn_intro (L := [some (.ref (gb Γ + k))]) yo_State_size.1 rfl (Nat.le_of_ble_eq_true rfl) rfl (fun X hX hR => ?_)
  refine g_aload_n hX d_State_size_0 rfl ?_
  refine g_getI hX fl_State_18 d_State_size_1 2 hs.d rfl rfl (fun r_1 => ?_)
  refine g_iret hX hR d_State_size_4 (by omega) ?_
  exact ⟨rfl, rfl⟩
theorem c_State_hasPlace {Γ : gX} {l : Launch} {M : mI} {k : Nat} {p : Int} (hs : St k) (hp : iR p) : Cn Γ l i_State_hasPlace R0 51 [.ref (gb Γ + k), vI p] M (pI (fun r M' => r = (if 0 ≤ p ∧ p < M k 2 then 1 else 0) ∧ M' = M)) := by
  refine cn_intro (L := [some (.ref (gb Γ + k)), some (vI p)]) yo_State_hasPlace.1 rfl (Nat.le_of_ble_eq_true rfl) rfl (fun X hX hR => ?_)
  refine g_iload_n hX d_State_hasPlace_0 rfl ?_
  refine g_if_lt 16 hX d_State_hasPlace_1 (by decide) (by omega) (fun h_1 => ?_) (fun h_1 => ?_)
  · refine g_iconst hX d_State_hasPlace_16 ?_
    refine g_zret hX hR d_State_hasPlace_17 (by omega) ?_
    exact ⟨by first | rw [if_pos (by omega)] | rw [if_neg (by omega)], rfl⟩
  · refine g_iload_n hX d_State_hasPlace_4 rfl ?_
    refine g_aload_n hX d_State_hasPlace_5 rfl ?_
    refine g_getI hX fl_State_18 d_State_hasPlace_6 2 hs.d rfl rfl (fun r_6 => ?_)
    refine g_icmp_ge 16 hX d_State_hasPlace_9 (by decide) (by omega) (by omega) (fun h_9 => ?_) (fun h_9 => ?_)
    · refine g_iconst hX d_State_hasPlace_16 ?_
      refine g_zret hX hR d_State_hasPlace_17 (by omega) ?_
      exact ⟨by first | rw [if_pos (by omega)] | rw [if_neg (by omega)], rfl⟩
    · refine g_iconst hX d_State_hasPlace_12 ?_
      refine g_goto 17 hX d_State_hasPlace_13 (by decide) ?_
      refine g_zret hX hR d_State_hasPlace_17 (by omega) ?_
      exact ⟨by first | rw [if_pos (by omega)] | rw [if_neg (by omega)], rfl⟩
theorem c_State_letterAt {Γ : gX} {l : Launch} {M : mI} {k : Nat} {p : Int} (hs : St k) (hp : 0 ≤ p ∧ p < 60) : Cn Γ l i_State_letterAt R0 51 [.ref (gb Γ + k), vI p] M (pI (fun r M' => r = M (k + 1) p ∧ M' = M)) := by
  refine cn_intro (L := [some (.ref (gb Γ + k)), some (vI p)]) yo_State_letterAt.1 rfl (Nat.le_of_ble_eq_true rfl) rfl (fun X hX hR => ?_)
  refine g_aload_n hX d_State_letterAt_0 rfl ?_
  refine g_getR hX fl_State_9 d_State_letterAt_1 hs.d hs.2.1 rfl ?_
  refine g_iload_n hX d_State_letterAt_4 rfl ?_
  refine g_callSN (host := "WindowCopies") hX yo_WC_at (by unfold nestWs; simp) d_State_letterAt_5 (c_WC_at hs.2.2.2.1 hs.kl hp) rfl rfl (by decide) (Nat.le_of_ble_eq_true rfl) ⟨Nat.zero_le _, Nat.zero_le _⟩ (k_int fun r_5 M_5 ir_5 hp_5 => ?_)
  obtain ⟨er_5, eM_5⟩ := hp_5; replace er_5 := er_5.symm; replace eM_5 := eM_5.symm; subst er_5; subst eM_5
  refine g_iret hX hR d_State_letterAt_8 (by omega) ?_
  exact ⟨rfl, rfl⟩
theorem c_State_changeLetter {Γ : gX} {l : Launch} {M : mI} {k : Nat} {p v : Int} (hs : St k) (hp : 0 ≤ p ∧ p < 60) (hv : iR v) : Cn Γ l i_State_changeLetter R0 51 [.ref (gb Γ + k), vI p, vI v] M (pV (fun M' => M' = mU M (k + 1) p v)) := by
  refine cn_intro (L := [some (.ref (gb Γ + k)), some (vI p), some (vI v)]) yo_State_changeLetter.1 rfl (Nat.le_of_ble_eq_true rfl) rfl (fun X hX hR => ?_)
  refine g_aload_n hX d_State_changeLetter_0 rfl ?_
  refine g_getR hX fl_State_9 d_State_changeLetter_1 hs.d hs.2.1 rfl ?_
  refine g_iload_n hX d_State_changeLetter_4 rfl ?_
  refine g_iload_n hX d_State_changeLetter_5 rfl ?_
  refine g_callSN (host := "WindowCopies") hX yo_WC_store (by unfold nestWs; simp) d_State_changeLetter_6 (c_WC_store hs.2.2.2.1 hs.kl hp hv) rfl rfl (by decide) (Nat.le_of_ble_eq_true rfl) ⟨Nat.zero_le _, Nat.zero_le _⟩ (k_void fun M_6 hp_6 => ?_)
  replace hp_6 := hp_6.symm; subst hp_6
  refine g_vret hX hR d_State_changeLetter_9 ?_
  rfl
theorem c_State_append {Γ : gX} {l : Launch} {M : mI} {k : Nat} {v : Int} (hs : St k) (h0 : 0 ≤ M k 2 ∧ M k 2 < 60) (hv : iR v) : Cn Γ l i_State_append R0 51 [.ref (gb Γ + k), vI v] M (pV (fun M' => M' = mU (mU M (k + 1) (M k 2) v) k 2 (M k 2 + 1))) := by
  refine cn_intro (L := [some (.ref (gb Γ + k)), some (vI v)]) yo_State_append.1 rfl (Nat.le_of_ble_eq_true rfl) rfl (fun X hX hR => ?_)
  refine g_aload_n hX d_State_append_0 rfl ?_
  refine g_getI hX fl_State_18 d_State_append_1 2 hs.d rfl rfl (fun r_1 => ?_)
  refine g_bipush hX d_State_append_4 rfl ?_
  refine g_icmp_ge 31 hX d_State_append_6 (by decide) (by omega) (by omega) (fun h_6 => ?_) (fun h_6 => ?_)
  · exact absurd h_6 (by omega)
  · refine g_aload_n hX d_State_append_9 rfl ?_
    refine g_getR hX fl_State_9 d_State_append_10 hs.d hs.2.1 rfl ?_
    refine g_aload_n hX d_State_append_13 rfl ?_
    refine g_getI hX fl_State_18 d_State_append_14 2 hs.d rfl rfl (fun r_14 => ?_)
    refine g_iload_n hX d_State_append_17 rfl ?_
    refine g_callSN (host := "WindowCopies") hX yo_WC_store (by unfold nestWs; simp) d_State_append_18 (c_WC_store hs.2.2.2.1 hs.kl (by omega) hv) rfl rfl (by decide) (Nat.le_of_ble_eq_true rfl) ⟨Nat.zero_le _, Nat.zero_le _⟩ (k_void fun M_18 hp_18 => ?_)
    replace hp_18 := hp_18.symm; subst hp_18
    refine g_aload_n hX d_State_append_21 rfl ?_
    refine g_dup hX d_State_append_22 rfl ?_
    refine g_getI hX fl_State_18 d_State_append_23 2 hs.d rfl rfl (fun r_23 => ?_)
    have e23 : mU M (k + 1) (M k 2) v k 2 = M k 2 := by rw [mU_cell (by omega)]
    rw [e23]
    refine g_iconst hX d_State_append_26 ?_
    refine g_iadd hX d_State_append_27 ?_
    refine g_putI hX fl_State_18 d_State_append_28 2 hs.d rfl rfl (fun q h => by cases h; rfl) rfl (by omega) ?_
    refine g_vret hX hR d_State_append_31 ?_
    rfl
theorem c_State_shorten {Γ : gX} {l : Launch} {M : mI} {k : Nat} {v : Int} (hs : St k) (h0 : iR (M k 2 - v)) : Cn Γ l i_State_shorten R0 51 [.ref (gb Γ + k), vI v] M (pV (fun M' => M' = mU M k 2 (max 0 (M k 2 - v)))) := by
  refine cn_intro (L := [some (.ref (gb Γ + k)), some (vI v)]) yo_State_shorten.1 rfl (Nat.le_of_ble_eq_true rfl) rfl (fun X hX hR => ?_)
  refine g_aload_n hX d_State_shorten_0 rfl ?_
  refine g_iconst hX d_State_shorten_1 ?_
  refine g_aload_n hX d_State_shorten_2 rfl ?_
  refine g_getI hX fl_State_18 d_State_shorten_3 2 hs.d rfl rfl (fun r_3 => ?_)
  refine g_iload_n hX d_State_shorten_6 rfl ?_
  refine g_isub hX d_State_shorten_7 ?_
  refine g_max hX d_State_shorten_8 q_275 (by omega) (by omega) (by decide) (Nat.le_of_ble_eq_true rfl) ⟨Nat.zero_le _, Nat.zero_le _⟩ ?_
  refine g_putI hX fl_State_18 d_State_shorten_11 2 hs.d rfl rfl (fun q h => by cases h; rfl) rfl (by omega) ?_
  refine g_vret hX hR d_State_shorten_14 ?_
  rfl
theorem c_State_setting {Γ : gX} {l : Launch} {M : mI} {k : Nat} {p : Int} (hs : St k) (hp : 0 ≤ p ∧ p < 5) : Cn Γ l i_State_setting R0 51 [.ref (gb Γ + k), vI p] M (pI (fun r M' => r = M (k + 2) p ∧ M' = M)) := by
  refine cn_intro (L := [some (.ref (gb Γ + k)), some (vI p)]) yo_State_setting.1 rfl (Nat.le_of_ble_eq_true rfl) rfl (fun X hX hR => ?_)
  refine g_aload_n hX d_State_setting_0 rfl ?_
  refine g_getR hX fl_State_15 d_State_setting_1 hs.d hs.2.2.1 rfl ?_
  refine g_iload_n hX d_State_setting_4 rfl ?_
  refine g_callSN (host := "WindowCopies") hX yo_WC_at (by unfold nestWs; simp) d_State_setting_5 (c_WC_at hs.2.2.2.2.1 hs.kg hp) rfl rfl (by decide) (Nat.le_of_ble_eq_true rfl) ⟨Nat.zero_le _, Nat.zero_le _⟩ (k_int fun r_5 M_5 ir_5 hp_5 => ?_)
  obtain ⟨er_5, eM_5⟩ := hp_5; replace er_5 := er_5.symm; replace eM_5 := eM_5.symm; subst er_5; subst eM_5
  refine g_iret hX hR d_State_setting_8 (by omega) ?_
  exact ⟨rfl, rfl⟩
theorem c_State_changeSetting {Γ : gX} {l : Launch} {M : mI} {k : Nat} {p v : Int} (hs : St k) (hp : 0 ≤ p ∧ p < 5) (hv : iR v) : Cn Γ l i_State_changeSetting R0 51 [.ref (gb Γ + k), vI p, vI v] M (pV (fun M' => M' = mU M (k + 2) p v)) := by
  refine cn_intro (L := [some (.ref (gb Γ + k)), some (vI p), some (vI v)]) yo_State_changeSetting.1 rfl (Nat.le_of_ble_eq_true rfl) rfl (fun X hX hR => ?_)
  refine g_aload_n hX d_State_changeSetting_0 rfl ?_
  refine g_getR hX fl_State_15 d_State_changeSetting_1 hs.d hs.2.2.1 rfl ?_
  refine g_iload_n hX d_State_changeSetting_4 rfl ?_
  refine g_iload_n hX d_State_changeSetting_5 rfl ?_
  refine g_callSN (host := "WindowCopies") hX yo_WC_store (by unfold nestWs; simp) d_State_changeSetting_6 (c_WC_store hs.2.2.2.2.1 hs.kg hp hv) rfl rfl (by decide) (Nat.le_of_ble_eq_true rfl) ⟨Nat.zero_le _, Nat.zero_le _⟩ (k_void fun M_6 hp_6 => ?_)
  replace hp_6 := hp_6.symm; subst hp_6
  refine g_vret hX hR d_State_changeSetting_9 ?_
  rfl
theorem c_State_savingOf {Γ : gX} {l : Launch} {M : mI} {k : Nat} {v : Int} (hs : St k) (hv : iR (v * M (k + 2) 3 - M (k + 2) 4)) : Cn Γ l i_State_savingOf R0 51 [.ref (gb Γ + k), vI v] M (pI (fun r M' => r = v * M (k + 2) 3 - M (k + 2) 4 ∧ M' = M)) := by
  refine cn_intro (L := [some (.ref (gb Γ + k)), some (vI v)]) yo_State_savingOf.1 rfl (Nat.le_of_ble_eq_true rfl) rfl (fun X hX hR => ?_)
  refine g_iload_n hX d_State_savingOf_0 rfl ?_
  refine g_aload_n hX d_State_savingOf_1 rfl ?_
  refine g_iconst hX d_State_savingOf_2 ?_
  refine g_callV hX yo_State_setting q_255 d_State_savingOf_3 (c_State_setting hs (by omega)) rfl rfl hs.d rfl (by decide) (Nat.le_of_ble_eq_true rfl) ⟨Nat.zero_le _, Nat.zero_le _⟩ (k_int fun r_3 M_3 ir_3 hp_3 => ?_)
  obtain ⟨er_3, eM_3⟩ := hp_3; replace er_3 := er_3.symm; replace eM_3 := eM_3.symm; subst er_3; subst eM_3
  refine g_imul hX d_State_savingOf_6 ?_
  refine g_aload_n hX d_State_savingOf_7 rfl ?_
  refine g_iconst hX d_State_savingOf_8 ?_
  refine g_callV hX yo_State_setting q_255 d_State_savingOf_9 (c_State_setting hs (by omega)) rfl rfl hs.d rfl (by decide) (Nat.le_of_ble_eq_true rfl) ⟨Nat.zero_le _, Nat.zero_le _⟩ (k_int fun r_9 M_9 ir_9 hp_9 => ?_)
  obtain ⟨er_9, eM_9⟩ := hp_9; replace er_9 := er_9.symm; replace eM_9 := eM_9.symm; subst er_9; subst eM_9
  refine g_isub hX d_State_savingOf_12 ?_
  refine g_iret hX hR d_State_savingOf_13 hv ?_
  exact ⟨rfl, rfl⟩
theorem c_State_likeLength {Γ : gX} {l : Launch} {M : mI} {k : Nat} {n f p : Int} {x g : Int → Int} (hs : St k) (hv : Sv M k n x g) (hf : 0 ≤ f ∧ f ≤ p) (hp : p ≤ n) : Cn Γ l i_State_likeLength R0 51 [.ref (gb Γ + k), vI f, vI p] M (pI (fun r M' => r = lk n x p (p - f) ∧ M' = M)) := by
  refine cn_intro (L := [some (.ref (gb Γ + k)), some (vI f), some (vI p), none]) yo_State_likeLength.1 rfl (Nat.le_of_ble_eq_true rfl) rfl (fun X hX hR => ?_)
  obtain ⟨v1, v2, v3, v4, v5⟩ := hv
  have LOOP : ∀ (q : Nat) (i : Int), (n - (p + i)).toNat = q → 0 ≤ i → p + i ≤ n → lk n x p (p - f) = i + lk n x (p + i) (p - f) → G Γ X 4 (R0, 51, 0, 0) 2 [some (.ref (gb Γ + k)), some (vI f), some (vI p), some (vI i)] [] M := by
    intro q
    induction q with
    | zero =>
      intro i hq h0 h1 h2
      refine g_iload_n hX d_State_likeLength_2 rfl ?_
      refine g_iload_n hX d_State_likeLength_3 rfl ?_
      refine g_iadd hX d_State_likeLength_4 ?_
      refine g_aload_n hX d_State_likeLength_5 rfl ?_
      refine g_getI hX fl_State_18 d_State_likeLength_6 2 hs.d rfl rfl (fun r_6 => ?_)
      refine g_icmp_ge 35 hX d_State_likeLength_9 (by decide) (by omega) (by omega) (fun h_9 => ?_) (fun h_9 => ?_)
      · refine g_iload_n hX d_State_likeLength_35 rfl ?_
        refine g_iret hX hR d_State_likeLength_36 (by omega) ?_
        refine ⟨?_, rfl⟩
        rw [h2, lk_end (by omega)]; omega
      · exact absurd h_9 (by omega)
    | succ q ih =>
      intro i hq h0 h1 h2
      refine g_iload_n hX d_State_likeLength_2 rfl ?_
      refine g_iload_n hX d_State_likeLength_3 rfl ?_
      refine g_iadd hX d_State_likeLength_4 ?_
      refine g_aload_n hX d_State_likeLength_5 rfl ?_
      refine g_getI hX fl_State_18 d_State_likeLength_6 2 hs.d rfl rfl (fun r_6 => ?_)
      refine g_icmp_ge 35 hX d_State_likeLength_9 (by decide) (by omega) (by omega) (fun h_9 => ?_) (fun h_9 => ?_)
      · exact absurd h_9 (by omega)
      · refine g_aload_n hX d_State_likeLength_12 rfl ?_
        refine g_iload_n hX d_State_likeLength_13 rfl ?_
        refine g_iload_n hX d_State_likeLength_14 rfl ?_
        refine g_iadd hX d_State_likeLength_15 ?_
        refine g_callV hX yo_State_letterAt q_247 d_State_likeLength_16 (c_State_letterAt hs (by omega)) rfl rfl hs.d rfl (by decide) (Nat.le_of_ble_eq_true rfl) ⟨Nat.zero_le _, Nat.zero_le _⟩ (k_int fun r_16 M_16 ir_16 hp_16 => ?_)
        obtain ⟨er_16, eM_16⟩ := hp_16; replace er_16 := er_16.symm; replace eM_16 := eM_16.symm; subst er_16; subst eM_16
        refine g_aload_n hX d_State_likeLength_19 rfl ?_
        refine g_iload_n hX d_State_likeLength_20 rfl ?_
        refine g_iload_n hX d_State_likeLength_21 rfl ?_
        refine g_iadd hX d_State_likeLength_22 ?_
        refine g_callV hX yo_State_letterAt q_247 d_State_likeLength_23 (c_State_letterAt hs (by omega)) rfl rfl hs.d rfl (by decide) (Nat.le_of_ble_eq_true rfl) ⟨Nat.zero_le _, Nat.zero_le _⟩ (k_int fun r_23 M_23 ir_23 hp_23 => ?_)
        obtain ⟨er_23, eM_23⟩ := hp_23; replace er_23 := er_23.symm; replace eM_23 := eM_23.symm; subst er_23; subst eM_23
        rw [v4 (f + i) (by omega) (by omega), v4 (p + i) (by omega) (by omega)] at *
        refine g_icmp_ne 35 hX d_State_likeLength_26 (by decide) (by omega) (by omega) (fun h_26 => ?_) (fun h_26 => ?_)
        · refine g_iload_n hX d_State_likeLength_35 rfl ?_
          refine g_iret hX hR d_State_likeLength_36 (by omega) ?_
          refine ⟨?_, rfl⟩
          rw [h2, lk_ne (by omega) (by rw [show p + i - (p - f) = f + i by omega]; exact fun z => h_26 z.symm)]; omega
        · refine g_iinc hX d_State_likeLength_29 rfl (by decide) ?_
          refine g_goto 2 hX d_State_likeLength_32 (by decide) ?_
          exact ih (i + 1) (by omega) (by omega) (by omega) (by rw [h2, lk_eq (by omega) (by rw [show p + i - (p - f) = f + i by omega]; exact h_26.symm), show p + (i + 1) = p + i + 1 by omega]; omega)
  refine g_iconst hX d_State_likeLength_0 ?_
  refine g_istore_n hX d_State_likeLength_1 (by decide) ?_
  exact LOOP _ 0 rfl (by omega) (by omega) (by rw [show p + 0 = p by omega]; omega)
theorem c_State_holds {Γ : gX} {l : Launch} {M : mI} {k : Nat} {n v : Int} {x g : Int → Int} (hs : St k) (hv : Sv M k n x g) (hi : iR v) : Cn Γ l i_State_holds R0 51 [.ref (gb Γ + k), vI v] M (pI (fun r M' => r = b2i (hasF x v n.toNat) ∧ M' = M)) := by
  refine cn_intro (L := [some (.ref (gb Γ + k)), some (vI v), none]) yo_State_holds.1 rfl (Nat.le_of_ble_eq_true rfl) rfl (fun X hX hR => ?_)
  obtain ⟨v1, v2, v3, v4, v5⟩ := hv
  have LOOP : ∀ (q : Nat) (i : Nat), n - i = q → hasF x v i = false → G Γ X 3 (R0, 51, 0, 0) 2 [some (.ref (gb Γ + k)), some (vI v), some (vI i)] [] M := by
    intro q
    induction q with
    | zero =>
      intro i hq h0
      refine g_iload_n hX d_State_holds_2 rfl ?_
      refine g_aload_n hX d_State_holds_3 rfl ?_
      refine g_getI hX fl_State_18 d_State_holds_4 2 hs.d rfl rfl (fun r_4 => ?_)
      refine g_icmp_ge 27 hX d_State_holds_7 (by decide) (by omega) (by omega) (fun h_7 => ?_) (fun h_7 => ?_)
      · refine g_iconst hX d_State_holds_27 ?_
        refine g_zret hX hR d_State_holds_28 (by omega) ?_
        refine ⟨?_, rfl⟩
        rw [show n.toNat = i by omega, h0]; rfl
      · exact absurd h_7 (by omega)
    | succ q ih =>
      intro i hq h0
      refine g_iload_n hX d_State_holds_2 rfl ?_
      refine g_aload_n hX d_State_holds_3 rfl ?_
      refine g_getI hX fl_State_18 d_State_holds_4 2 hs.d rfl rfl (fun r_4 => ?_)
      refine g_icmp_ge 27 hX d_State_holds_7 (by decide) (by omega) (by omega) (fun h_7 => ?_) (fun h_7 => ?_)
      · exact absurd h_7 (by omega)
      · refine g_aload_n hX d_State_holds_10 rfl ?_
        refine g_iload_n hX d_State_holds_11 rfl ?_
        refine g_callV hX yo_State_letterAt q_247 d_State_holds_12 (c_State_letterAt hs (by omega)) rfl rfl hs.d rfl (by decide) (Nat.le_of_ble_eq_true rfl) ⟨Nat.zero_le _, Nat.zero_le _⟩ (k_int fun r_12 M_12 ir_12 hp_12 => ?_)
        obtain ⟨er_12, eM_12⟩ := hp_12; replace er_12 := er_12.symm; replace eM_12 := eM_12.symm; subst er_12; subst eM_12
        rw [v4 i (by omega) (by omega)] at *
        refine g_iload_n hX d_State_holds_15 rfl ?_
        refine g_icmp_ne 21 hX d_State_holds_16 (by decide) (by omega) (by omega) (fun h_16 => ?_) (fun h_16 => ?_)
        · refine g_iinc hX d_State_holds_21 rfl (by decide) ?_
          refine g_goto 2 hX d_State_holds_24 (by decide) ?_
          exact ih (i + 1) (by omega) (by unfold hasF; rw [h0]; simp [h_16])
        · refine g_iconst hX d_State_holds_19 ?_
          refine g_zret hX hR d_State_holds_20 (by omega) ?_
          refine ⟨?_, rfl⟩
          rw [(hasF_iff x v n.toNat).mpr ⟨i, by omega, by omega, h_16⟩]; rfl
  refine g_iconst hX d_State_holds_0 ?_
  refine g_istore_n hX d_State_holds_1 (by decide) ?_
  exact LOOP n.toNat 0 (by omega) rfl
theorem c_State_unlikeLetters {Γ : gX} {l : Launch} {M : mI} {k : Nat} {n : Int} {x g : Int → Int} (hs : St k) (hv : Sv M k n x g) : Cn Γ l i_State_unlikeLetters R0 51 [.ref (gb Γ + k)] M (pI (fun r M' => r = unl n x ∧ M' = M)) := by
  refine cn_intro (L := [some (.ref (gb Γ + k)), none, none]) yo_State_unlikeLetters.1 rfl (Nat.le_of_ble_eq_true rfl) rfl (fun X hX hR => ?_)
  have LOOP : ∀ (q : Nat) (i : Nat), i + q = 8 → G Γ X 3 (R0, 51, 0, 0) 4 [some (.ref (gb Γ + k)), some (vI (unlV x n.toNat i)), some (vI i)] [] M := by
    intro q
    induction q with
    | zero =>
      intro i hq
      have hb := unlV_bound x n.toNat i
      refine g_iload_n hX d_State_unlikeLetters_4 rfl ?_
      refine g_bipush hX d_State_unlikeLetters_5 rfl ?_
      refine g_icmp_gt 27 hX d_State_unlikeLetters_7 (by decide) (by omega) (by omega) (fun h_7 => ?_) (fun h_7 => ?_)
      · refine g_iload_n hX d_State_unlikeLetters_27 rfl ?_
        refine g_iret hX hR d_State_unlikeLetters_28 (by omega) ?_
        refine ⟨?_, rfl⟩
        rw [show i = 8 by omega]; rfl
      · exact absurd h_7 (by omega)
    | succ q ih =>
      intro i hq
      have hb := unlV_bound x n.toNat i
      refine g_iload_n hX d_State_unlikeLetters_4 rfl ?_
      refine g_bipush hX d_State_unlikeLetters_5 rfl ?_
      refine g_icmp_gt 27 hX d_State_unlikeLetters_7 (by decide) (by omega) (by omega) (fun h_7 => ?_) (fun h_7 => ?_)
      · exact absurd h_7 (by omega)
      · refine g_aload_n hX d_State_unlikeLetters_10 rfl ?_
        refine g_iload_n hX d_State_unlikeLetters_11 rfl ?_
        refine g_callV hX yo_State_holds q_505 d_State_unlikeLetters_12 (c_State_holds hs hv (by omega)) rfl rfl hs.d rfl (by decide) (Nat.le_of_ble_eq_true rfl) ⟨Nat.zero_le _, Nat.zero_le _⟩ (k_int fun r_12 M_12 ir_12 hp_12 => ?_)
        obtain ⟨er_12, eM_12⟩ := hp_12; replace er_12 := er_12.symm; replace eM_12 := eM_12.symm; subst er_12; subst eM_12
        refine g_if_eq 21 hX d_State_unlikeLetters_15 (by decide) (by have := b2i_01 (hasF x i n.toNat); omega) (fun h_15 => ?_) (fun h_15 => ?_)
        · have e16 : unlV x n.toNat (i + 1) = unlV x n.toNat i + b2i (hasF x i n.toNat) := rfl
          have e15 : unlV x n.toNat i = unlV x n.toNat (i + 1) := by omega
          rw [e15]
          have e17 := e15
          try rw [e15]
          refine g_iinc hX d_State_unlikeLetters_21 rfl (by decide) ?_
          refine g_goto 4 hX d_State_unlikeLetters_24 (by decide) ?_
          exact ih (i + 1) (by omega)
        · have e16 : unlV x n.toNat (i + 1) = unlV x n.toNat i + b2i (hasF x i n.toNat) := rfl
          have e15 : unlV x n.toNat i + 1 = unlV x n.toNat (i + 1) := by have := b2i_01 (hasF x i n.toNat); omega
          refine g_iinc hX d_State_unlikeLetters_18 rfl (by decide) ?_
          have e17 := e15
          try rw [e15]
          refine g_iinc hX d_State_unlikeLetters_21 rfl (by decide) ?_
          refine g_goto 4 hX d_State_unlikeLetters_24 (by decide) ?_
          exact ih (i + 1) (by omega)
  refine g_iconst hX d_State_unlikeLetters_0 ?_
  refine g_istore_n hX d_State_unlikeLetters_1 (by decide) ?_
  refine g_iconst hX d_State_unlikeLetters_2 ?_
  refine g_istore_n hX d_State_unlikeLetters_3 (by decide) ?_
  exact LOOP 8 0 rfl
theorem c_State_copyRowFrom {Γ : gX} {l : Launch} {M : mI} {k o : Nat} {n : Int} {x g : Int → Int} (hs : St k) (ho : St o) (hko : o + 2 < k ∨ k + 2 < o) (hv : Sv M o n x g) : Cn Γ l i_State_copyRowFrom R0 51 [.ref (gb Γ + k), .ref (gb Γ + o)] M (pV (fun M' => M' k 2 = n ∧ (∀ j, 0 ≤ j → j < n → M' (k + 1) j = x j) ∧ ∀ a, a ≠ k → a ≠ k + 1 → M' a = M a)) := by
  refine cn_intro (L := [some (.ref (gb Γ + k)), some (.ref (gb Γ + o)), none]) yo_State_copyRowFrom.1 rfl (Nat.le_of_ble_eq_true rfl) rfl (fun X hX hR => ?_)
  obtain ⟨v1, v2, v3, v4, v5⟩ := hv
  have LOOP : ∀ (q : Nat) (i : Int) (M' : mI), (n - i).toNat = q → 0 ≤ i → i ≤ n → M' k 2 = n → (∀ j, 0 ≤ j → j < i → M' (k + 1) j = x j) → (∀ a, a ≠ k → a ≠ k + 1 → M' a = M a) → G Γ X 3 (R0, 51, 0, 0) 10 [some (.ref (gb Γ + k)), some (.ref (gb Γ + o)), some (vI i)] [] M' := by
    intro q
    induction q with
    | zero =>
      intro i M' hq h0 h1 h2 h3 h4
      refine g_iload_n hX d_State_copyRowFrom_10 rfl ?_
      refine g_aload_n hX d_State_copyRowFrom_11 rfl ?_
      refine g_getI hX fl_State_18 d_State_copyRowFrom_12 2 hs.d rfl rfl (fun r_12 => ?_)
      refine g_icmp_ge 34 hX d_State_copyRowFrom_15 (by decide) (by omega) (by omega) (fun h_15 => ?_) (fun h_15 => ?_)
      · refine g_vret hX hR d_State_copyRowFrom_34 ?_
        exact ⟨h2, fun j u v => h3 j u (by omega), h4⟩
      · exact absurd h_15 (by omega)
    | succ q ih =>
      intro i M' hq h0 h1 h2 h3 h4
      refine g_iload_n hX d_State_copyRowFrom_10 rfl ?_
      refine g_aload_n hX d_State_copyRowFrom_11 rfl ?_
      refine g_getI hX fl_State_18 d_State_copyRowFrom_12 2 hs.d rfl rfl (fun r_12 => ?_)
      refine g_icmp_ge 34 hX d_State_copyRowFrom_15 (by decide) (by omega) (by omega) (fun h_15 => ?_) (fun h_15 => ?_)
      · exact absurd h_15 (by omega)
      · refine g_aload_n hX d_State_copyRowFrom_18 rfl ?_
        refine g_iload_n hX d_State_copyRowFrom_19 rfl ?_
        refine g_aload_n hX d_State_copyRowFrom_20 rfl ?_
        refine g_iload_n hX d_State_copyRowFrom_21 rfl ?_
        refine g_callV hX yo_State_letterAt q_247 d_State_copyRowFrom_22 (c_State_letterAt ho (by omega)) rfl rfl ho.d rfl (by decide) (Nat.le_of_ble_eq_true rfl) ⟨Nat.zero_le _, Nat.zero_le _⟩ (k_int fun r_22 M_22 ir_22 hp_22 => ?_)
        obtain ⟨er_22, eM_22⟩ := hp_22; replace er_22 := er_22.symm; replace eM_22 := eM_22.symm; subst er_22; subst eM_22
        have e22 : M' (o + 1) i = x i := by rw [h4 (o + 1) (by omega) (by omega)]; exact v4 i (by omega) (by omega)
        rw [e22] at ir_22 ⊢
        refine g_callV hX yo_State_changeLetter q_251 d_State_copyRowFrom_25 (c_State_changeLetter hs (by omega) (by omega)) rfl rfl hs.d rfl (by decide) (Nat.le_of_ble_eq_true rfl) ⟨Nat.zero_le _, Nat.zero_le _⟩ (k_void fun M_25 hp_25 => ?_)
        replace hp_25 := hp_25.symm; subst hp_25
        refine g_iinc hX d_State_copyRowFrom_28 rfl (by decide) ?_
        refine g_goto 10 hX d_State_copyRowFrom_31 (by decide) ?_
        refine ih (i + 1) _ (by omega) (by omega) (by omega) ?_ (fun j u v => ?_) (fun a u v => ?_)
        · rw [mU_cell (by omega)]; exact h2
        · by_cases hj : j = i
          · subst hj; rw [mU_self]
          · rw [mU_slot hj]; exact h3 j u (by omega)
        · rw [mU_cell v]; exact h4 a u v
  refine g_aload_n hX d_State_copyRowFrom_0 rfl ?_
  refine g_aload_n hX d_State_copyRowFrom_1 rfl ?_
  refine g_callV hX yo_State_size q_246 d_State_copyRowFrom_2 (c_State_size ho) rfl rfl ho.d rfl (by decide) (Nat.le_of_ble_eq_true rfl) ⟨Nat.zero_le _, Nat.zero_le _⟩ (k_int fun r_2 M_2 ir_2 hp_2 => ?_)
  obtain ⟨er_2, eM_2⟩ := hp_2; replace er_2 := er_2.symm; replace eM_2 := eM_2.symm; subst er_2; subst eM_2
  refine g_putI hX fl_State_18 d_State_copyRowFrom_5 2 hs.d rfl rfl (fun q h => by cases h; rfl) rfl (by omega) ?_
  refine g_iconst hX d_State_copyRowFrom_8 ?_
  refine g_istore_n hX d_State_copyRowFrom_9 (by decide) ?_
  exact LOOP _ 0 _ rfl (by omega) (by omega) (by rw [mU_self]; exact v1) (fun j u v => by omega) (fun a u v => by rw [mU_cell u])
theorem c_State_copyFrom {Γ : gX} {l : Launch} {M : mI} {k o : Nat} {n : Int} {x g : Int → Int} (hs : St k) (ho : St o) (hko : o + 2 < k ∨ k + 2 < o) (hv : Sv M o n x g) : Cn Γ l i_State_copyFrom R0 51 [.ref (gb Γ + k), .ref (gb Γ + o)] M (pV (fun M' => Sv M' k n x g ∧ ∀ a, a ≠ k → a ≠ k + 1 → a ≠ k + 2 → M' a = M a)) := by
  refine cn_intro (L := [some (.ref (gb Γ + k)), some (.ref (gb Γ + o)), none]) yo_State_copyFrom.1 rfl (Nat.le_of_ble_eq_true rfl) rfl (fun X hX hR => ?_)
  obtain ⟨v1, v2, v3, v4, v5⟩ := id hv
  have LOOP : ∀ (q : Nat) (i : Int) (M' : mI), (5 - i).toNat = q → 0 ≤ i → i ≤ 5 → M' k 2 = n → (∀ j, 0 ≤ j → j < n → M' (k + 1) j = x j) → (∀ j, 0 ≤ j → j < i → M' (k + 2) j = g j) → (∀ a, a ≠ k → a ≠ k + 1 → a ≠ k + 2 → M' a = M a) → G Γ X 3 (R0, 51, 0, 0) 7 [some (.ref (gb Γ + k)), some (.ref (gb Γ + o)), some (vI i)] [] M' := by
    intro q
    induction q with
    | zero =>
      intro i M' hq h0 h1 h2 h3 h4 h5
      refine g_iload_n hX d_State_copyFrom_7 rfl ?_
      refine g_iconst hX d_State_copyFrom_8 ?_
      refine g_icmp_ge 28 hX d_State_copyFrom_9 (by decide) (by omega) (by omega) (fun h_9 => ?_) (fun h_9 => ?_)
      · refine g_vret hX hR d_State_copyFrom_28 ?_
        exact ⟨⟨h2, v2, v3, h3, fun j u v => h4 j u (by omega)⟩, h5⟩
      · exact absurd h_9 (by omega)
    | succ q ih =>
      intro i M' hq h0 h1 h2 h3 h4 h5
      refine g_iload_n hX d_State_copyFrom_7 rfl ?_
      refine g_iconst hX d_State_copyFrom_8 ?_
      refine g_icmp_ge 28 hX d_State_copyFrom_9 (by decide) (by omega) (by omega) (fun h_9 => ?_) (fun h_9 => ?_)
      · exact absurd h_9 (by omega)
      · refine g_aload_n hX d_State_copyFrom_12 rfl ?_
        refine g_iload_n hX d_State_copyFrom_13 rfl ?_
        refine g_aload_n hX d_State_copyFrom_14 rfl ?_
        refine g_iload_n hX d_State_copyFrom_15 rfl ?_
        refine g_callV hX yo_State_setting q_255 d_State_copyFrom_16 (c_State_setting ho (by omega)) rfl rfl ho.d rfl (by decide) (Nat.le_of_ble_eq_true rfl) ⟨Nat.zero_le _, Nat.zero_le _⟩ (k_int fun r_16 M_16 ir_16 hp_16 => ?_)
        obtain ⟨er_16, eM_16⟩ := hp_16; replace er_16 := er_16.symm; replace eM_16 := eM_16.symm; subst er_16; subst eM_16
        have e16 : M' (o + 2) i = g i := by rw [h5 (o + 2) (by omega) (by omega) (by omega)]; exact v5 i (by omega) (by omega)
        rw [e16] at ir_16 ⊢
        refine g_callV hX yo_State_changeSetting q_259 d_State_copyFrom_19 (c_State_changeSetting hs (by omega) (by omega)) rfl rfl hs.d rfl (by decide) (Nat.le_of_ble_eq_true rfl) ⟨Nat.zero_le _, Nat.zero_le _⟩ (k_void fun M_19 hp_19 => ?_)
        replace hp_19 := hp_19.symm; subst hp_19
        refine g_iinc hX d_State_copyFrom_22 rfl (by decide) ?_
        refine g_goto 7 hX d_State_copyFrom_25 (by decide) ?_
        refine ih (i + 1) _ (by omega) (by omega) (by omega) ?_ (fun j u v => ?_) (fun j u v => ?_) (fun a u v w => ?_)
        · rw [mU_cell (by omega)]; exact h2
        · rw [mU_cell (by omega)]; exact h3 j u v
        · by_cases hj : j = i
          · subst hj; rw [mU_self]
          · rw [mU_slot hj]; exact h4 j u (by omega)
        · rw [mU_cell w]; exact h5 a u v w
  refine g_aload_n hX d_State_copyFrom_0 rfl ?_
  refine g_aload_n hX d_State_copyFrom_1 rfl ?_
  refine g_callV hX yo_State_copyRowFrom q_242 d_State_copyFrom_2 (c_State_copyRowFrom hs ho hko hv) rfl rfl hs.d rfl (by decide) (Nat.le_of_ble_eq_true rfl) ⟨Nat.zero_le _, Nat.zero_le _⟩ (k_void fun M_2 hp_2 => ?_)
  obtain ⟨p1, p2, p3⟩ := hp_2
  refine g_iconst hX d_State_copyFrom_5 ?_
  refine g_istore_n hX d_State_copyFrom_6 (by decide) ?_
  exact LOOP _ 0 _ rfl (by omega) (by omega) p1 p2 (fun j u v => by omega) (fun a u v w => p3 a u v)
theorem c_State_appendCopy {Γ : gX} {l : Launch} {M : mI} {k : Nat} {n d c : Int} {x g : Int → Int} (hs : St k) (hv : Sv M k n x g) (hd : 1 ≤ d ∧ d ≤ n) (hc : 0 ≤ c ∧ n + c ≤ 60) : Cn Γ l i_State_appendCopy R0 51 [.ref (gb Γ + k), vI d, vI c] M (pV (fun M' => M' k 2 = n + c ∧ (∀ j, 0 ≤ j → j < n → M' (k + 1) j = x j) ∧ (∀ j, n ≤ j → j < n + c → M' (k + 1) j = M' (k + 1) (j - d)) ∧ ∀ a, a ≠ k → a ≠ k + 1 → M' a = M a)) := by
  refine cn_intro (L := [some (.ref (gb Γ + k)), some (vI d), some (vI c), none]) yo_State_appendCopy.1 rfl (Nat.le_of_ble_eq_true rfl) rfl (fun X hX hR => ?_)
  obtain ⟨v1, v2, v3, v4, v5⟩ := hv
  have LOOP : ∀ (q : Nat) (i : Int) (M' : mI), (c - i).toNat = q → 0 ≤ i → i ≤ c → M' k 2 = n + i → (∀ j, 0 ≤ j → j < n → M' (k + 1) j = x j) → (∀ j, n ≤ j → j < n + i → M' (k + 1) j = M' (k + 1) (j - d)) → (∀ a, a ≠ k → a ≠ k + 1 → M' a = M a) → G Γ X 4 (R0, 51, 0, 0) 2 [some (.ref (gb Γ + k)), some (vI d), some (vI c), some (vI i)] [] M' := by
    intro q
    induction q with
    | zero =>
      intro i M' hq h0 h1 h2 h3 h4 h5
      refine g_iload_n hX d_State_appendCopy_2 rfl ?_
      refine g_iload_n hX d_State_appendCopy_3 rfl ?_
      refine g_icmp_ge 27 hX d_State_appendCopy_4 (by decide) (by omega) (by omega) (fun h_4 => ?_) (fun h_4 => ?_)
      · refine g_vret hX hR d_State_appendCopy_27 ?_
        rw [show c = i by omega]; exact ⟨h2, h3, h4, h5⟩
      · exact absurd h_4 (by omega)
    | succ q ih =>
      intro i M' hq h0 h1 h2 h3 h4 h5
      refine g_iload_n hX d_State_appendCopy_2 rfl ?_
      refine g_iload_n hX d_State_appendCopy_3 rfl ?_
      refine g_icmp_ge 27 hX d_State_appendCopy_4 (by decide) (by omega) (by omega) (fun h_4 => ?_) (fun h_4 => ?_)
      · exact absurd h_4 (by omega)
      · refine g_aload_n hX d_State_appendCopy_7 rfl ?_
        refine g_aload_n hX d_State_appendCopy_8 rfl ?_
        refine g_aload_n hX d_State_appendCopy_9 rfl ?_
        refine g_getI hX fl_State_18 d_State_appendCopy_10 2 hs.d rfl rfl (fun r_10 => ?_)
        rw [h2] at r_10 ⊢
        refine g_iload_n hX d_State_appendCopy_13 rfl ?_
        refine g_isub hX d_State_appendCopy_14 ?_
        refine g_callV hX yo_State_letterAt q_247 d_State_appendCopy_15 (c_State_letterAt hs (by omega)) rfl rfl hs.d rfl (by decide) (Nat.le_of_ble_eq_true rfl) ⟨Nat.zero_le _, Nat.zero_le _⟩ (k_int fun r_15 M_15 ir_15 hp_15 => ?_)
        obtain ⟨er_15, eM_15⟩ := hp_15; replace er_15 := er_15.symm; replace eM_15 := eM_15.symm; subst er_15; subst eM_15
        refine g_callV hX yo_State_append q_633 d_State_appendCopy_18 (c_State_append hs (by omega) (by omega)) rfl rfl hs.d rfl (by decide) (Nat.le_of_ble_eq_true rfl) ⟨Nat.zero_le _, Nat.zero_le _⟩ (k_void fun M_18 hp_18 => ?_)
        replace hp_18 := hp_18.symm; subst hp_18
        refine g_iinc hX d_State_appendCopy_21 rfl (by decide) ?_
        refine g_goto 2 hX d_State_appendCopy_24 (by decide) ?_
        refine ih (i + 1) _ (by omega) (by omega) (by omega) ?_ (fun j u v => ?_) (fun j u v => ?_) (fun a u v => ?_)
        · rw [mU_self]; omega
        · rw [mU_cell (by omega), mU_slot (by omega)]; exact h3 j u v
        · rw [mU_cell (by omega), h2]
          by_cases hj : j = n + i
          · subst hj; rw [mU_self, mU_slot (by omega)]
          · rw [mU_slot hj, mU_slot (by omega)]; exact h4 j u (by omega)
        · rw [mU_cell u, mU_cell v]; exact h5 a u v
  refine g_iconst hX d_State_appendCopy_0 ?_
  refine g_istore_n hX d_State_appendCopy_1 (by decide) ?_
  exact LOOP _ 0 _ rfl (by omega) (by omega) (by omega) v4 (fun j u v => by omega) (fun a u v => rfl)
