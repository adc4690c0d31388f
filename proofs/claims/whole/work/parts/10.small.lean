theorem lh_drop {ls : Array Slot} {nL : Nat} {L : List (Option Value)} (h : lh ls nL L) (i : Nat) : lh ls nL (L.set i none) := by
  refine ⟨h.1, fun j v hv => ?_, h.2.2⟩
  by_cases hj : i = j
  · subst hj
    by_cases hl : i < L.length
    · rw [List.getElem?_set_self hl] at hv; cases hv
    · rw [List.getElem?_eq_none (by simpa using hl)] at hv; cases hv
  · rw [List.getElem?_set_ne hj] at hv
    exact h.2.1 j v hv
/-- a local that nobody asks for any more -/
theorem g_drop {Γ : gX} {X : XT} {nL : Nat} {Z : ZT} {pc : Nat} {L : List (Option Value)} {st : List Value} {M : mI} (i : Nat) (k : G Γ X nL Z pc (L.set i none) st M) : G Γ X nL Z pc L st M :=
  fun H locs ls h1 h2 h3 h4 => k H locs ls h1 h2 h3 (lh_drop h4 i)
theorem Cn.mono {Γ : gX} {l : Launch} {i : yT} {R : mR} {K : Nat} {av : List Value} {M : mI} {P P' : Option Value → mI → Prop} (h : Cn Γ l i R K av M P) (hP : ∀ v M', P v M' → P' v M') : Cn Γ l i R K av M P' := by
  unfold Cn Met MetFree at h ⊢
  intro p e ha hc hk s m args below hf happ hPre hK
  obtain ⟨n, o, h1, h2, h3, ⟨⟨v, M', e1, e2, e3, e4⟩, hL⟩⟩ := h p e ha hc hk s m args below hf happ hPre hK
  exact ⟨n, o, h1, h2, h3, ⟨⟨v, M', e1, hP v M' e2, e3, e4⟩, hL⟩⟩
/-! Text -/
def Tv (M : mI) (t : List Int) : Prop := M 31 1 = (t.length : Int) ∧ t.length ≤ 120 ∧ ∀ (i : Nat) (c : Int), t[i]? = some c → M 32 i = c
theorem Tv.to {M M' : mI} {t : List Int} (h : Tv M t) (h0 : M' 31 = M 31) (h1 : M' 32 = M 32) : Tv M' t := by
  obtain ⟨a, b, c⟩ := h
  exact ⟨by rw [h0]; exact a, b, fun i v hv => by rw [h1]; exact c i v hv⟩
theorem Tv.app {M : mI} {t : List Int} (h : Tv M t) (hl : t.length < 120) (c : Int) : Tv (mU (mU M 32 (M 31 1) c) 31 1 (M 31 1 + 1)) (t ++ [c]) := by
  obtain ⟨h1, h2, h3⟩ := h
  refine ⟨?_, by simp; omega, fun i v hv => ?_⟩
  · rw [mU_self, h1]; simp
  · rw [mU_cell (by omega), h1]
    by_cases hi : i < t.length
    · rw [List.getElem?_append_left hi] at hv
      rw [mU_slot (by omega)]
      exact h3 i v hv
    · have hi2 : i = t.length := by
        have := (List.getElem?_eq_some_iff.mp hv).1
        simp at this
        omega
      subst hi2
      rw [mU_self]
      simpa using hv
def dg (v : Int) : List Int := if 10 ≤ v then [48 + v / 10, 48 + v % 10] else [48 + v % 10]
def cpS (d c : Int) : List Int := [40] ++ dg d ++ [44] ++ dg c ++ [41]
theorem dg_len (v : Int) : (dg v).length = if 10 ≤ v then 2 else 1 := by
  unfold dg
  split <;> rfl
theorem dg_len2 (v : Int) : 1 ≤ (dg v).length ∧ (dg v).length ≤ 2 := by
  rw [dg_len]
  split <;> omega
theorem cpS_len (d c : Int) : (cpS d c).length = 3 + (dg d).length + (dg c).length := by
  unfold cpS
  simp
  omega
theorem c_Text_size {Γ : gX} {l : Launch} {M : mI} : Cn Γ l i_Text_size R0 51 [.ref (gb Γ + 31)] M (pI (fun r M' => r = M 31 1 ∧ M' = M)) := by
  refine cn_intro (L := [some (.ref (gb Γ + 31))]) yo_Text_size.1 rfl (Nat.le_of_ble_eq_true rfl) rfl (fun X hX hR => ?_)
  refine g_aload_n hX d_Text_size_0 rfl ?_
  refine g_getI hX fl_Text_15 d_Text_size_1 1 ⟨rfl, by decide⟩ rfl rfl (fun r_1 => ?_)
  refine g_iret hX hR d_Text_size_4 (by omega) ?_
  exact ⟨rfl, rfl⟩
theorem c_Text_characterAt {Γ : gX} {l : Launch} {M : mI} {i : Int} (h0 : M 31 1 ≤ 120) (hi : 0 ≤ i ∧ i < 2147483648) : Cn Γ l i_Text_characterAt R0 51 [.ref (gb Γ + 31), vI i] M (pI (fun r M' => r = (if i < M 31 1 then M 32 i else -1) ∧ M' = M)) := by
  refine cn_intro (L := [some (.ref (gb Γ + 31)), some (vI i)]) yo_Text_characterAt.1 rfl (Nat.le_of_ble_eq_true rfl) rfl (fun X hX hR => ?_)
  refine g_iload_n hX d_Text_characterAt_0 rfl ?_
  refine g_aload_n hX d_Text_characterAt_1 rfl ?_
  refine g_getI hX fl_Text_15 d_Text_characterAt_2 1 ⟨rfl, by decide⟩ rfl rfl (fun r_2 => ?_)
  refine g_icmp_ge 19 hX d_Text_characterAt_5 (by decide) (by omega) (by omega) (fun h_5 => ?_) (fun h_5 => ?_)
  · refine g_iconst hX d_Text_characterAt_19 ?_
    refine g_iret hX hR d_Text_characterAt_20 (by omega) ?_
    exact ⟨by first | rw [if_pos (by omega)] | rw [if_neg (by omega)], rfl⟩
  · refine g_aload_n hX d_Text_characterAt_8 rfl ?_
    refine g_getR hX fl_Text_9 d_Text_characterAt_9 ⟨rfl, by decide⟩ rfl rfl ?_
    refine g_iload_n hX d_Text_characterAt_12 rfl ?_
    refine g_callSN (host := "WindowCopies") hX yo_WC_at (by unfold nestWs; simp) d_Text_characterAt_13 (c_WC_at (k := 32) rfl (by decide) (n := 120) (by omega)) rfl rfl (by decide) (Nat.le_of_ble_eq_true rfl) ⟨Nat.zero_le _, Nat.zero_le _⟩ (k_int fun r_13 M_13 ir_13 hp_13 => ?_)
    obtain ⟨er_13, eM_13⟩ := hp_13; replace er_13 := er_13.symm; replace eM_13 := eM_13.symm; subst er_13; subst eM_13
    refine g_goto 20 hX d_Text_characterAt_16 (by decide) ?_
    refine g_iret hX hR d_Text_characterAt_20 (by omega) ?_
    exact ⟨by first | rw [if_pos (by omega)] | rw [if_neg (by omega)], rfl⟩
theorem c_Text_empty {Γ : gX} {l : Launch} {M : mI} : Cn Γ l i_Text_empty R0 51 [.ref (gb Γ + 31)] M (pV (fun M' => M' = mU M 31 1 0)) := by
  refine cn_intro (L := [some (.ref (gb Γ + 31))]) yo_Text_empty.1 rfl (Nat.le_of_ble_eq_true rfl) rfl (fun X hX hR => ?_)
  refine g_aload_n hX d_Text_empty_0 rfl ?_
  refine g_iconst hX d_Text_empty_1 ?_
  refine g_putI hX fl_Text_15 d_Text_empty_2 1 ⟨rfl, by decide⟩ rfl rfl (fun q h => by cases h; rfl) rfl (by omega) ?_
  refine g_vret hX hR d_Text_empty_5 ?_
  rfl
theorem c_Text_append {Γ : gX} {l : Launch} {M : mI} {v : Int} (h0 : 0 ≤ M 31 1 ∧ M 31 1 < 120) (hv : iR v) : Cn Γ l i_Text_append R0 51 [.ref (gb Γ + 31), vI v] M (pV (fun M' => M' = mU (mU M 32 (M 31 1) v) 31 1 (M 31 1 + 1))) := by
  refine cn_intro (L := [some (.ref (gb Γ + 31)), some (vI v)]) yo_Text_append.1 rfl (Nat.le_of_ble_eq_true rfl) rfl (fun X hX hR => ?_)
  refine g_aload_n hX d_Text_append_0 rfl ?_
  refine g_getI hX fl_Text_15 d_Text_append_1 1 ⟨rfl, by decide⟩ rfl rfl (fun r_1 => ?_)
  refine g_bipush hX d_Text_append_4 rfl ?_
  refine g_icmp_ge 31 hX d_Text_append_6 (by decide) (by omega) (by omega) (fun h_6 => ?_) (fun h_6 => ?_)
  · exact absurd h_6 (by omega)
  · refine g_aload_n hX d_Text_append_9 rfl ?_
    refine g_getR hX fl_Text_9 d_Text_append_10 ⟨rfl, by decide⟩ rfl rfl ?_
    refine g_aload_n hX d_Text_append_13 rfl ?_
    refine g_getI hX fl_Text_15 d_Text_append_14 1 ⟨rfl, by decide⟩ rfl rfl (fun r_14 => ?_)
    refine g_iload_n hX d_Text_append_17 rfl ?_
    refine g_callSN (host := "WindowCopies") hX yo_WC_store (by unfold nestWs; simp) d_Text_append_18 (c_WC_store (k := 32) rfl (by decide) (n := 120) (by omega) hv) rfl rfl (by decide) (Nat.le_of_ble_eq_true rfl) ⟨Nat.zero_le _, Nat.zero_le _⟩ (k_void fun M_18 hp_18 => ?_)
    replace hp_18 := hp_18.symm; subst hp_18
    refine g_aload_n hX d_Text_append_21 rfl ?_
    refine g_dup hX d_Text_append_22 rfl ?_
    refine g_getI hX fl_Text_15 d_Text_append_23 1 ⟨rfl, by decide⟩ rfl rfl (fun r_23 => ?_)
    have e23 : mU M 32 (M 31 1) v 31 1 = M 31 1 := by rw [mU_cell (by omega)]
    rw [e23]
    refine g_iconst hX d_Text_append_26 ?_
    refine g_iadd hX d_Text_append_27 ?_
    refine g_putI hX fl_Text_15 d_Text_append_28 1 ⟨rfl, by decide⟩ rfl rfl (fun q h => by cases h; rfl) rfl (by omega) ?_
    refine g_vret hX hR d_Text_append_31 ?_
    rfl
/-- append, of texts -/
theorem c_Text_appendT {Γ : gX} {l : Launch} {M : mI} {v : Int} {t : List Int} (h : Tv M t) (hl : t.length < 120) (hv : iR v) : Cn Γ l i_Text_append R0 51 [.ref (gb Γ + 31), vI v] M (pV (fun M' => Tv M' (t ++ [v]) ∧ ∀ a, a ≠ 31 → a ≠ 32 → M' a = M a)) := by
  refine (c_Text_append (by have := h.1; omega) hv).mono ?_
  rintro w M' ⟨rfl, rfl⟩
  exact ⟨rfl, h.app hl v, fun a u w => by rw [mU_cell u, mU_cell w]⟩
theorem c_Text_appendNumber {Γ : gX} {l : Launch} {M : mI} {v : Int} {t : List Int} (h : Tv M t) (hv : 0 ≤ v ∧ v < 100) (hl : t.length + (dg v).length ≤ 120) : Cn Γ l i_Text_appendNumber R0 51 [.ref (gb Γ + 31), vI v] M (pV (fun M' => Tv M' (t ++ dg v) ∧ ∀ a, a ≠ 31 → a ≠ 32 → M' a = M a)) := by
  refine cn_intro (L := [some (.ref (gb Γ + 31)), some (vI v)]) yo_Text_appendNumber.1 rfl (Nat.le_of_ble_eq_true rfl) rfl (fun X hX hR => ?_)
  refine g_iload_n hX d_Text_appendNumber_0 rfl ?_
  refine g_bipush hX d_Text_appendNumber_1 rfl ?_
  refine g_icmp_lt 17 hX d_Text_appendNumber_3 (by decide) (by omega) (by omega) (fun h_3 => ?_) (fun h_3 => ?_)
  · have p1 : Tv M t := h
    have p2 : ∀ a, a ≠ 31 → a ≠ 32 → M a = M a := fun _ _ _ => rfl
    refine g_aload_n hX d_Text_appendNumber_17 rfl ?_
    refine g_bipush hX d_Text_appendNumber_18 rfl ?_
    refine g_iload_n hX d_Text_appendNumber_20 rfl ?_
    refine g_bipush hX d_Text_appendNumber_21 rfl ?_
    refine g_irem hX (by omega) (by decide) d_Text_appendNumber_23 ?_
    refine g_iadd hX d_Text_appendNumber_24 ?_
    refine g_callV hX yo_Text_append q_577 d_Text_appendNumber_25 (c_Text_appendT p1 (by rw [dg_len] at hl; split at hl <;> (try simp) <;> omega) (by omega)) rfl rfl ⟨rfl, by decide⟩ rfl (by decide) (Nat.le_of_ble_eq_true rfl) ⟨Nat.zero_le _, Nat.zero_le _⟩ (k_void fun M_25 hp_25 => ?_)
    obtain ⟨p3, p4⟩ := hp_25
    refine g_vret hX hR d_Text_appendNumber_28 ?_
    refine ⟨?_, fun a u w => by rw [p4 a u w, p2 a u w]⟩
    first | (rw [show dg v = [48 + v / 10, 48 + v % 10] by unfold dg; rw [if_pos (by omega)]]; simpa using p3) | (rw [show dg v = [48 + v % 10] by unfold dg; rw [if_neg (by omega)]]; exact p3)
  · refine g_aload_n hX d_Text_appendNumber_6 rfl ?_
    refine g_bipush hX d_Text_appendNumber_7 rfl ?_
    refine g_iload_n hX d_Text_appendNumber_9 rfl ?_
    refine g_bipush hX d_Text_appendNumber_10 rfl ?_
    refine g_idiv hX (by omega) (by decide) d_Text_appendNumber_12 ?_
    refine g_iadd hX d_Text_appendNumber_13 ?_
    refine g_callV hX yo_Text_append q_577 d_Text_appendNumber_14 (c_Text_appendT h (by rw [dg_len, if_pos (by omega)] at hl; omega) (by omega)) rfl rfl ⟨rfl, by decide⟩ rfl (by decide) (Nat.le_of_ble_eq_true rfl) ⟨Nat.zero_le _, Nat.zero_le _⟩ (k_void fun M_14 hp_14 => ?_)
    obtain ⟨p1, p2⟩ := hp_14
    refine g_aload_n hX d_Text_appendNumber_17 rfl ?_
    refine g_bipush hX d_Text_appendNumber_18 rfl ?_
    refine g_iload_n hX d_Text_appendNumber_20 rfl ?_
    refine g_bipush hX d_Text_appendNumber_21 rfl ?_
    refine g_irem hX (by omega) (by decide) d_Text_appendNumber_23 ?_
    refine g_iadd hX d_Text_appendNumber_24 ?_
    refine g_callV hX yo_Text_append q_577 d_Text_appendNumber_25 (c_Text_appendT p1 (by rw [dg_len] at hl; split at hl <;> (try simp) <;> omega) (by omega)) rfl rfl ⟨rfl, by decide⟩ rfl (by decide) (Nat.le_of_ble_eq_true rfl) ⟨Nat.zero_le _, Nat.zero_le _⟩ (k_void fun M_25 hp_25 => ?_)
    obtain ⟨p3, p4⟩ := hp_25
    refine g_vret hX hR d_Text_appendNumber_28 ?_
    refine ⟨?_, fun a u w => by rw [p4 a u w, p2 a u w]⟩
    first | (rw [show dg v = [48 + v / 10, 48 + v % 10] by unfold dg; rw [if_pos (by omega)]]; simpa using p3) | (rw [show dg v = [48 + v % 10] by unfold dg; rw [if_neg (by omega)]]; exact p3)
theorem c_Text_appendCopy {Γ : gX} {l : Launch} {M : mI} {d c : Int} {t : List Int} (h : Tv M t) (hd : 0 ≤ d ∧ d < 100) (hc : 0 ≤ c ∧ c < 100) (hl : t.length + (cpS d c).length ≤ 120) : Cn Γ l i_Text_appendCopy R0 51 [.ref (gb Γ + 31), vI d, vI c] M (pV (fun M' => Tv M' (t ++ cpS d c) ∧ ∀ a, a ≠ 31 → a ≠ 32 → M' a = M a)) := by
  refine cn_intro (L := [some (.ref (gb Γ + 31)), some (vI d), some (vI c)]) yo_Text_appendCopy.1 rfl (Nat.le_of_ble_eq_true rfl) rfl (fun X hX hR => ?_)
  rw [cpS_len] at hl
  have z1 := dg_len2 d
  have z2 := dg_len2 c
  refine g_aload_n hX d_Text_appendCopy_0 rfl ?_
  refine g_bipush hX d_Text_appendCopy_1 rfl ?_
  refine g_callV hX yo_Text_append q_577 d_Text_appendCopy_3 (c_Text_appendT h (by omega) (by omega)) rfl rfl ⟨rfl, by decide⟩ rfl (by decide) (Nat.le_of_ble_eq_true rfl) ⟨Nat.zero_le _, Nat.zero_le _⟩ (k_void fun M_3 hp_3 => ?_)
  obtain ⟨p1, p2⟩ := hp_3
  refine g_aload_n hX d_Text_appendCopy_6 rfl ?_
  refine g_iload_n hX d_Text_appendCopy_7 rfl ?_
  refine g_callV hX yo_Text_appendNumber q_578 d_Text_appendCopy_8 (c_Text_appendNumber p1 hd (by simp; omega)) rfl rfl ⟨rfl, by decide⟩ rfl (by decide) (Nat.le_of_ble_eq_true rfl) ⟨Nat.zero_le _, Nat.zero_le _⟩ (k_void fun M_8 hp_8 => ?_)
  obtain ⟨p3, p4⟩ := hp_8
  refine g_aload_n hX d_Text_appendCopy_11 rfl ?_
  refine g_bipush hX d_Text_appendCopy_12 rfl ?_
  refine g_callV hX yo_Text_append q_577 d_Text_appendCopy_14 (c_Text_appendT p3 (by simp; omega) (by omega)) rfl rfl ⟨rfl, by decide⟩ rfl (by decide) (Nat.le_of_ble_eq_true rfl) ⟨Nat.zero_le _, Nat.zero_le _⟩ (k_void fun M_14 hp_14 => ?_)
  obtain ⟨p5, p6⟩ := hp_14
  refine g_aload_n hX d_Text_appendCopy_17 rfl ?_
  refine g_iload_n hX d_Text_appendCopy_18 rfl ?_
  refine g_callV hX yo_Text_appendNumber q_578 d_Text_appendCopy_19 (c_Text_appendNumber p5 hc (by simp; omega)) rfl rfl ⟨rfl, by decide⟩ rfl (by decide) (Nat.le_of_ble_eq_true rfl) ⟨Nat.zero_le _, Nat.zero_le _⟩ (k_void fun M_19 hp_19 => ?_)
  obtain ⟨p7, p8⟩ := hp_19
  refine g_aload_n hX d_Text_appendCopy_22 rfl ?_
  refine g_bipush hX d_Text_appendCopy_23 rfl ?_
  refine g_callV hX yo_Text_append q_577 d_Text_appendCopy_25 (c_Text_appendT p7 (by simp; omega) (by omega)) rfl rfl ⟨rfl, by decide⟩ rfl (by decide) (Nat.le_of_ble_eq_true rfl) ⟨Nat.zero_le _, Nat.zero_le _⟩ (k_void fun M_25 hp_25 => ?_)
  obtain ⟨p9, p10⟩ := hp_25
  refine g_vret hX hR d_Text_appendCopy_28 ?_
  refine ⟨by unfold cpS; simpa using p9, fun a u w => by rw [p10 a u w, p8 a u w, p6 a u w, p4 a u w, p2 a u w]⟩
theorem c_Text_digitsOf {Γ : gX} {l : Launch} {M : mI} {v : Int} (hv : iR v) : Cn Γ l i_Text_digitsOf R0 51 [vI v] M (pI (fun r M' => r = ((dg v).length : Int) ∧ M' = M)) := by
  refine cn_intro (L := [some (vI v)]) yo_Text_digitsOf.1 rfl (Nat.le_of_ble_eq_true rfl) rfl (fun X hX hR => ?_)
  refine g_iload_n hX d_Text_digitsOf_0 rfl ?_
  refine g_bipush hX d_Text_digitsOf_1 rfl ?_
  refine g_icmp_lt 10 hX d_Text_digitsOf_3 (by decide) (by omega) (by omega) (fun h_3 => ?_) (fun h_3 => ?_)
  · refine g_iconst hX d_Text_digitsOf_10 ?_
    refine g_iret hX hR d_Text_digitsOf_11 (by omega) ?_
    refine ⟨?_, rfl⟩
    rw [dg_len]; split <;> omega
  · refine g_iconst hX d_Text_digitsOf_6 ?_
    refine g_goto 11 hX d_Text_digitsOf_7 (by decide) ?_
    refine g_iret hX hR d_Text_digitsOf_11 (by omega) ?_
    refine ⟨?_, rfl⟩
    rw [dg_len]; split <;> omega
theorem c_Text_charactersOfCopy {Γ : gX} {l : Launch} {M : mI} {d c : Int} (hd : iR d) (hc : iR c) : Cn Γ l i_Text_charactersOfCopy R0 51 [vI d, vI c] M (pI (fun r M' => r = ((cpS d c).length : Int) ∧ M' = M)) := by
  refine cn_intro (L := [some (vI d), some (vI c), none]) yo_Text_charactersOfCopy.1 rfl (Nat.le_of_ble_eq_true rfl) rfl (fun X hX hR => ?_)
  refine g_iconst hX d_Text_charactersOfCopy_0 ?_
  refine g_istore_n hX d_Text_charactersOfCopy_1 (by decide) ?_
  refine g_iload_n hX d_Text_charactersOfCopy_2 rfl ?_
  refine g_iload_n hX d_Text_charactersOfCopy_3 rfl ?_
  refine g_callS hX yo_Text_digitsOf q_570 d_Text_charactersOfCopy_4 (c_Text_digitsOf hd) rfl rfl (by decide) (Nat.le_of_ble_eq_true rfl) ⟨Nat.zero_le _, Nat.zero_le _⟩ (k_int fun r_4 M_4 ir_4 hp_4 => ?_)
  obtain ⟨er_4, eM_4⟩ := hp_4; replace er_4 := er_4.symm; replace eM_4 := eM_4.symm; subst er_4; subst eM_4
  refine g_iadd hX d_Text_charactersOfCopy_7 ?_
  refine g_iload_n hX d_Text_charactersOfCopy_8 rfl ?_
  refine g_callS hX yo_Text_digitsOf q_570 d_Text_charactersOfCopy_9 (c_Text_digitsOf hc) rfl rfl (by decide) (Nat.le_of_ble_eq_true rfl) ⟨Nat.zero_le _, Nat.zero_le _⟩ (k_int fun r_9 M_9 ir_9 hp_9 => ?_)
  obtain ⟨er_9, eM_9⟩ := hp_9; replace er_9 := er_9.symm; replace eM_9 := eM_9.symm; subst er_9; subst eM_9
  refine g_iadd hX d_Text_charactersOfCopy_12 ?_
  refine g_iret hX hR d_Text_charactersOfCopy_13 (by have z1 := dg_len2 d; have z2 := dg_len2 c; omega) ?_
  refine ⟨?_, rfl⟩
  rw [cpS_len]; omega
/-! History -/
abbrev sS : Type := Int × (Int → Int) × (Int → Int)
def hSl (M : mI) (i : Int) : Nat := 9 + 3 * ((M 7 1 + i) % 4).toNat
def Hv (M : mI) (h : List sS) : Prop := M 7 2 = (h.length : Int) ∧ h.length ≤ 4 ∧ 0 ≤ M 7 1 ∧ M 7 1 < 4 ∧ ∀ (i : Nat) (s : sS), h[i]? = some s → Sv M (hSl M i) s.1 s.2.1 s.2.2
def hPush (h : List sS) (s : sS) : List sS := (if h.length = 4 then h.tail else h) ++ [s]
theorem Hv.to {M M' : mI} {h : List sS} (hh : Hv M h) (he : ∀ a, 7 ≤ a → a ≤ 20 → M' a = M a) : Hv M' h := by
  obtain ⟨h1, h2, h3, h4, h5⟩ := hh
  have e7 := he 7 (by omega) (by omega)
  refine ⟨by rw [e7]; exact h1, h2, by rw [e7]; exact h3, by rw [e7]; exact h4, fun i s hs => ?_⟩
  have hz : hSl M' i = hSl M i := by unfold hSl; rw [e7]
  have hb : 9 ≤ hSl M i ∧ hSl M i ≤ 18 := by unfold hSl; omega
  rw [hz]
  exact (h5 i s hs).to (he _ (by omega) (by omega)) (he _ (by omega) (by omega)) (he _ (by omega) (by omega))
theorem Hv.tl {M : mI} {h : List sS} (hh : Hv M h) (hl : h.length = 4) : Hv (mU (mU M 7 1 ((M 7 1 + 1) % 4)) 7 2 3) h.tail := by
  obtain ⟨h1, h2, h3, h4, h5⟩ := hh
  have e : mU (mU M 7 1 ((M 7 1 + 1) % 4)) 7 2 3 7 1 = (M 7 1 + 1) % 4 := by rw [mU_slot (by omega), mU_self]
  refine ⟨by rw [mU_self]; simp [hl], by simp [hl], by rw [e]; omega, by rw [e]; omega, fun i s hs => ?_⟩
  rw [List.getElem?_tail] at hs
  have h6 := h5 (i + 1) s hs
  have hz : hSl (mU (mU M 7 1 ((M 7 1 + 1) % 4)) 7 2 3) i = hSl M (i + 1 : Nat) := by unfold hSl; rw [e]; omega
  have hb : 9 ≤ hSl M (i + 1 : Nat) := by unfold hSl; omega
  rw [hz]
  exact h6.to (by rw [mU_cell (by omega), mU_cell (by omega)]) (by rw [mU_cell (by omega), mU_cell (by omega)]) (by rw [mU_cell (by omega), mU_cell (by omega)])
theorem Hv.snoc {M M' : mI} {h : List sS} {s : sS} (hh : Hv M h) (hl : h.length < 4) (hs : Sv M' (hSl M h.length) s.1 s.2.1 s.2.2) (hf : ∀ a, a ≠ hSl M h.length → a ≠ hSl M h.length + 1 → a ≠ hSl M h.length + 2 → M' a = M a) : Hv (mU M' 7 2 (h.length + 1)) (h ++ [s]) := by
  obtain ⟨h1, h2, h3, h4, h5⟩ := hh
  have hb : 9 ≤ hSl M h.length := by unfold hSl; omega
  have e7 : M' 7 = M 7 := hf 7 (by omega) (by omega) (by omega)
  have e : mU M' 7 2 (h.length + 1) 7 1 = M 7 1 := by rw [mU_slot (by omega), e7]
  have hz : ∀ i : Int, hSl (mU M' 7 2 (h.length + 1)) i = hSl M i := fun i => by unfold hSl; rw [e]
  refine ⟨by rw [mU_self]; simp, by simp; omega, by rw [e]; exact h3, by rw [e]; exact h4, fun i s' hs' => ?_⟩
  rw [hz]
  by_cases hi : i < h.length
  · rw [List.getElem?_append_left hi] at hs'
    have h6 := h5 i s' hs'
    have hb2 : 9 ≤ hSl M i := by unfold hSl; omega
    have hne : hSl M i + 3 ≤ hSl M h.length ∨ hSl M h.length + 3 ≤ hSl M i := by unfold hSl; omega
    exact h6.to (by rw [mU_cell (by omega), hf _ (by omega) (by omega) (by omega)]) (by rw [mU_cell (by omega), hf _ (by omega) (by omega) (by omega)]) (by rw [mU_cell (by omega), hf _ (by omega) (by omega) (by omega)])
  · have hi2 : i = h.length := by
      have := (List.getElem?_eq_some_iff.mp hs').1
      simp at this
      omega
    subst hi2
    have e9 : s = s' := by simpa using hs'
    subst e9
    exact hs.to (by rw [mU_cell (by omega)]) (by rw [mU_cell (by omega)]) (by rw [mU_cell (by omega)])
theorem Hv.init {M : mI} {h : List sS} {s : sS} (hh : Hv M (h ++ [s])) : Hv (mU M 7 2 h.length) h ∧ Sv M (hSl M h.length) s.1 s.2.1 s.2.2 := by
  obtain ⟨h1, h2, h3, h4, h5⟩ := hh
  have e : mU M 7 2 h.length 7 1 = M 7 1 := by rw [mU_slot (by omega)]
  simp at h2
  refine ⟨⟨by rw [mU_self], by omega, by rw [e]; exact h3, by rw [e]; exact h4, fun i s' hs' => ?_⟩, h5 h.length s (by simp)⟩
  have hi := (List.getElem?_eq_some_iff.mp hs').1
  have h6 := h5 i s' (by rw [List.getElem?_append_left hi]; exact hs')
  have hz : hSl (mU M 7 2 h.length) i = hSl M i := by unfold hSl; rw [e]
  have hb2 : 9 ≤ hSl M i := by unfold hSl; omega
  rw [hz]
  exact h6.to (by rw [mU_cell (by omega)]) (by rw [mU_cell (by omega)]) (by rw [mU_cell (by omega)])
theorem c_History_size {Γ : gX} {l : Launch} {M : mI} : Cn Γ l i_History_size R0 51 [.ref (gb Γ + 7)] M (pI (fun r M' => r = M 7 2 ∧ M' = M)) := by
  refine cn_intro (L := [some (.ref (gb Γ + 7))]) yo_History_size.1 rfl (Nat.le_of_ble_eq_true rfl) rfl (fun X hX hR => ?_)
  refine g_aload_n hX d_History_size_0 rfl ?_
  refine g_getI hX fl_History_21 d_History_size_1 2 ⟨rfl, by decide⟩ rfl rfl (fun r_1 => ?_)
  refine g_iret hX hR d_History_size_4 (by omega) ?_
  exact ⟨rfl, rfl⟩
theorem c_History_slotOf {Γ : gX} {l : Launch} {M : mI} {i : Int} (h0 : 0 ≤ M 7 1 ∧ M 7 1 < 4) (hi : 0 ≤ i ∧ i ≤ 4) : Cn Γ l i_History_slotOf R0 51 [.ref (gb Γ + 7), vI i] M (pI (fun r M' => r = (M 7 1 + i) % 4 ∧ M' = M)) := by
  refine cn_intro (L := [some (.ref (gb Γ + 7)), some (vI i)]) yo_History_slotOf.1 rfl (Nat.le_of_ble_eq_true rfl) rfl (fun X hX hR => ?_)
  refine g_aload_n hX d_History_slotOf_0 rfl ?_
  refine g_getI hX fl_History_17 d_History_slotOf_1 1 ⟨rfl, by decide⟩ rfl rfl (fun r_1 => ?_)
  refine g_iload_n hX d_History_slotOf_4 rfl ?_
  refine g_iadd hX d_History_slotOf_5 ?_
  refine g_iconst hX d_History_slotOf_6 ?_
  refine g_irem hX (by omega) (by decide) d_History_slotOf_7 ?_
  refine g_iret hX hR d_History_slotOf_8 (by omega) ?_
  exact ⟨rfl, rfl⟩
theorem r0_st {i : Nat} (hi : i < 4) : R0 8 i = some (9 + 3 * i) := by
  match i, hi with
  | 0, _ => rfl
  | 1, _ => rfl
  | 2, _ => rfl
  | 3, _ => rfl
  | k + 4, h => exact absurd h (by omega)
theorem c_History_stateAt {Γ : gX} {l : Launch} {M : mI} {i : Int} (h0 : 0 ≤ M 7 1 ∧ M 7 1 < 4) (hi : 0 ≤ i ∧ i ≤ 4) : Cn Γ l i_History_stateAt R0 51 [.ref (gb Γ + 7), vI i] M (pR Γ (fun o M' => o = hSl M i ∧ M' = M)) := by
  refine cn_intro (L := [some (.ref (gb Γ + 7)), some (vI i), none]) yo_History_stateAt.1 rfl (Nat.le_of_ble_eq_true rfl) rfl (fun X hX hR => ?_)
  refine g_aload_n hX d_History_stateAt_0 rfl ?_
  refine g_iload_n hX d_History_stateAt_1 rfl ?_
  refine g_callV hX yo_History_slotOf q_230 d_History_stateAt_2 (c_History_slotOf h0 hi) rfl rfl ⟨rfl, by decide⟩ rfl (by decide) (Nat.le_of_ble_eq_true rfl) ⟨Nat.zero_le _, Nat.zero_le _⟩ (k_int fun r_2 M_2 ir_2 hp_2 => ?_)
  obtain ⟨er_2, eM_2⟩ := hp_2; replace er_2 := er_2.symm; replace eM_2 := eM_2.symm; subst er_2; subst eM_2
  refine g_istore_n hX d_History_stateAt_5 (by decide) ?_
  refine g_iload_n hX d_History_stateAt_6 rfl ?_
  refine g_if_lt 32 hX d_History_stateAt_7 (by decide) (by omega) (fun h_7 => ?_) (fun h_7 => ?_)
  · exact absurd h_7 (by omega)
  · refine g_iload_n hX d_History_stateAt_10 rfl ?_
    refine g_if_lt 32 hX d_History_stateAt_11 (by decide) (by omega) (fun h_11 => ?_) (fun h_11 => ?_)
    · exact absurd h_11 (by omega)
    · refine g_iload_n hX d_History_stateAt_14 rfl ?_
      refine g_aload_n hX d_History_stateAt_15 rfl ?_
      refine g_getR hX fl_History_11 d_History_stateAt_16 ⟨rfl, by decide⟩ rfl rfl ?_
      refine g_alenS hX d_History_stateAt_19 ⟨rfl, by decide⟩ ?_
      refine g_icmp_ge 32 hX d_History_stateAt_20 (by decide) (by omega) (by omega) (fun h_20 => ?_) (fun h_20 => ?_)
      · exact absurd h_20 (by omega)
      · refine g_aload_n hX d_History_stateAt_23 rfl ?_
        refine g_getR hX fl_History_11 d_History_stateAt_24 ⟨rfl, by decide⟩ rfl rfl ?_
        refine g_iload_n hX d_History_stateAt_27 rfl ?_
        refine g_aald hX d_History_stateAt_28 ⟨rfl, by decide⟩ (by omega) (r0_st (by omega)) ?_
        refine g_goto 33 hX d_History_stateAt_29 (by decide) ?_
        refine g_aret hX hR d_History_stateAt_33 ?_
        exact ⟨rfl, rfl⟩
theorem hSl_st {M : mI} (i : Int) : St (hSl M i) := by
  unfold hSl
  exact st_h _ (by omega)
theorem hSl_b {M : mI} (i : Int) : 9 ≤ hSl M i ∧ hSl M i ≤ 18 := by unfold hSl; omega
theorem c_History_record {Γ : gX} {l : Launch} {M : mI} {h : List sS} {s : sS} (hh : Hv M h) (hs : Sv M 1 s.1 s.2.1 s.2.2) : Cn Γ l i_History_record R0 51 [.ref (gb Γ + 7), .ref (gb Γ + 1)] M (pV (fun M' => Hv M' (hPush h s) ∧ ∀ a, a < 7 ∨ 20 < a → M' a = M a)) := by
  refine cn_intro (L := [some (.ref (gb Γ + 7)), some (.ref (gb Γ + 1)), none]) yo_History_record.1 rfl (Nat.le_of_ble_eq_true rfl) rfl (fun X hX hR => ?_)
  obtain ⟨z1, z2, z3, z4, z5⟩ := id hh
  have J : ∀ (M1 : mI) (h1 : List sS), Hv M1 h1 → h1.length < 4 → h1 ++ [s] = hPush h s → (∀ a, a ≠ 7 → M1 a = M a) → G Γ X 3 (R0, 51, 0, 0) 27 [some (.ref (gb Γ + 7)), some (.ref (gb Γ + 1)), none] [] M1 := by
    intro M1 h1 q1 q2 q3 q4
    obtain ⟨y1, y2, y3, y4, y5⟩ := id q1
    have hb := @hSl_b M1 (M1 7 2)
    refine g_aload_n hX d_History_record_27 rfl ?_
    refine g_aload_n hX d_History_record_28 rfl ?_
    refine g_getI hX fl_History_21 d_History_record_29 2 ⟨rfl, by decide⟩ rfl rfl (fun r_29 => ?_)
    refine g_callV hX yo_History_stateAt q_234 d_History_record_32 (c_History_stateAt ⟨y3, y4⟩ (by omega)) rfl rfl ⟨rfl, by decide⟩ rfl (by decide) (Nat.le_of_ble_eq_true rfl) ⟨Nat.zero_le _, Nat.zero_le _⟩ (k_ref fun o_32 M_32 hp_32 => ?_)
    obtain ⟨er_32, eM_32⟩ := hp_32; replace er_32 := er_32.symm; replace eM_32 := eM_32.symm; subst er_32; subst eM_32
    refine g_astore_n hX d_History_record_35 (by decide) ?_
    refine g_aload_n hX d_History_record_36 rfl ?_
    refine g_ifnull hX d_History_record_37 ?_
    refine g_aload_n hX d_History_record_40 rfl ?_
    refine g_aload_n hX d_History_record_41 rfl ?_
    refine g_callV hX yo_State_copyFrom q_238 d_History_record_42 (c_State_copyFrom (n := s.1) (x := s.2.1) (g := s.2.2) (hSl_st (M1 7 2)) st_1 (by omega) (hs.to (q4 1 (by omega)) (q4 2 (by omega)) (q4 3 (by omega)))) rfl rfl (hSl_st (M1 7 2)).d rfl (by decide) (Nat.le_of_ble_eq_true rfl) ⟨Nat.zero_le _, Nat.zero_le _⟩ (k_void fun M_42 hp_42 => ?_)
    obtain ⟨p1, p2⟩ := hp_42
    have e7 : M_42 7 = M1 7 := p2 7 (by omega) (by omega) (by omega)
    refine g_aload_n hX d_History_record_45 rfl ?_
    refine g_dup hX d_History_record_46 rfl ?_
    refine g_getI hX fl_History_21 d_History_record_47 2 ⟨rfl, by decide⟩ rfl rfl (fun r_47 => ?_)
    rw [e7] at r_47 ⊢
    refine g_iconst hX d_History_record_50 ?_
    refine g_iadd hX d_History_record_51 ?_
    refine g_putI hX fl_History_21 d_History_record_52 2 ⟨rfl, by decide⟩ rfl rfl (fun q h => by cases h; rfl) rfl (by omega) ?_
    refine g_vret hX hR d_History_record_55 ?_
    rw [y1] at *
    rw [← q3]
    exact ⟨q1.snoc q2 p1 p2, fun a u => by rw [mU_cell (by omega), p2 a (by omega) (by omega) (by omega)]; exact q4 a (by omega)⟩
  refine g_aload_n hX d_History_record_0 rfl ?_
  refine g_getI hX fl_History_21 d_History_record_1 2 ⟨rfl, by decide⟩ rfl rfl (fun r_1 => ?_)
  refine g_iconst hX d_History_record_4 ?_
  refine g_icmp_ne 27 hX d_History_record_5 (by decide) (by omega) (by omega) (fun h_5 => ?_) (fun h_5 => ?_)
  · exact J M h hh (by omega) (by unfold hPush; rw [if_neg (by omega)]) (fun _ _ => rfl)
  · refine g_aload_n hX d_History_record_8 rfl ?_
    refine g_aload_n hX d_History_record_9 rfl ?_
    refine g_iconst hX d_History_record_10 ?_
    refine g_callV hX yo_History_slotOf q_230 d_History_record_11 (c_History_slotOf ⟨z3, z4⟩ (by omega)) rfl rfl ⟨rfl, by decide⟩ rfl (by decide) (Nat.le_of_ble_eq_true rfl) ⟨Nat.zero_le _, Nat.zero_le _⟩ (k_int fun r_11 M_11 ir_11 hp_11 => ?_)
    obtain ⟨er_11, eM_11⟩ := hp_11; replace er_11 := er_11.symm; replace eM_11 := eM_11.symm; subst er_11; subst eM_11
    refine g_putI hX fl_History_17 d_History_record_14 1 ⟨rfl, by decide⟩ rfl rfl (fun q h => by cases h; rfl) rfl (by omega) ?_
    refine g_aload_n hX d_History_record_17 rfl ?_
    refine g_dup hX d_History_record_18 rfl ?_
    refine g_getI hX fl_History_21 d_History_record_19 2 ⟨rfl, by decide⟩ rfl rfl (fun r_19 => ?_)
    rw [mU_slot (by omega)] at r_19 ⊢
    refine g_iconst hX d_History_record_22 ?_
    refine g_isub hX d_History_record_23 ?_
    refine g_putI hX fl_History_21 d_History_record_24 2 ⟨rfl, by decide⟩ rfl rfl (fun q h => by cases h; rfl) rfl (by omega) ?_
    rw [show M 7 2 - 1 = 3 by omega]
    exact J _ h.tail (hh.tl (by omega)) (by simp; omega) (by unfold hPush; rw [if_pos (by omega)]) (fun a u => by rw [mU_cell u, mU_cell u])
theorem c_History_takeBack {Γ : gX} {l : Launch} {M : mI} {h : List sS} {s : sS} (hh : Hv M (h ++ [s])) : Cn Γ l i_History_takeBack R0 51 [.ref (gb Γ + 7), .ref (gb Γ + 1)] M (pV (fun M' => Hv M' h ∧ Sv M' 1 s.1 s.2.1 s.2.2 ∧ ∀ a, a = 0 ∨ 20 < a ∨ (4 ≤ a ∧ a ≤ 6) → M' a = M a)) := by
  refine cn_intro (L := [some (.ref (gb Γ + 7)), some (.ref (gb Γ + 1)), none]) yo_History_takeBack.1 rfl (Nat.le_of_ble_eq_true rfl) rfl (fun X hX hR => ?_)
  obtain ⟨z1, z2, z3, z4, z5⟩ := id hh
  obtain ⟨hi1, hi2⟩ := hh.init
  have hl4 : h.length < 4 := by simp at z2; omega
  have hz : hSl M (M 7 2 - 1) = hSl M h.length := by rw [z1]; simp
  have hb := @hSl_b M (M 7 2 - 1)
  refine g_aload_n hX d_History_takeBack_0 rfl ?_
  refine g_aload_n hX d_History_takeBack_1 rfl ?_
  refine g_getI hX fl_History_21 d_History_takeBack_2 2 ⟨rfl, by decide⟩ rfl rfl (fun r_2 => ?_)
  refine g_iconst hX d_History_takeBack_5 ?_
  refine g_isub hX d_History_takeBack_6 ?_
  refine g_callV hX yo_History_stateAt q_234 d_History_takeBack_7 (c_History_stateAt ⟨z3, z4⟩ (by simp at z1; omega)) rfl rfl ⟨rfl, by decide⟩ rfl (by decide) (Nat.le_of_ble_eq_true rfl) ⟨Nat.zero_le _, Nat.zero_le _⟩ (k_ref fun o_7 M_7 hp_7 => ?_)
  obtain ⟨er_7, eM_7⟩ := hp_7; replace er_7 := er_7.symm; replace eM_7 := eM_7.symm; subst er_7; subst eM_7
  refine g_astore_n hX d_History_takeBack_10 (by decide) ?_
  refine g_aload_n hX d_History_takeBack_11 rfl ?_
  refine g_ifnull hX d_History_takeBack_12 ?_
  refine g_aload_n hX d_History_takeBack_15 rfl ?_
  refine g_aload_n hX d_History_takeBack_16 rfl ?_
  refine g_callV hX yo_State_copyFrom q_238 d_History_takeBack_17 (c_State_copyFrom (n := s.1) (x := s.2.1) (g := s.2.2) st_1 (hSl_st (M 7 2 - 1)) (by omega) (by rw [hz]; exact hi2)) rfl rfl ⟨rfl, by decide⟩ rfl (by decide) (Nat.le_of_ble_eq_true rfl) ⟨Nat.zero_le _, Nat.zero_le _⟩ (k_void fun M_17 hp_17 => ?_)
  obtain ⟨p1, p2⟩ := hp_17
  refine g_aload_n hX d_History_takeBack_20 rfl ?_
  refine g_dup hX d_History_takeBack_21 rfl ?_
  refine g_getI hX fl_History_21 d_History_takeBack_22 2 ⟨rfl, by decide⟩ rfl rfl (fun r_22 => ?_)
  rw [p2 7 (by omega) (by omega) (by omega)] at r_22 ⊢
  refine g_iconst hX d_History_takeBack_25 ?_
  refine g_isub hX d_History_takeBack_26 ?_
  refine g_putI hX fl_History_21 d_History_takeBack_27 2 ⟨rfl, by decide⟩ rfl rfl (fun q h => by cases h; rfl) rfl (by simp at z1; omega) ?_
  refine g_vret hX hR d_History_takeBack_30 ?_
  rw [show M 7 2 - 1 = (h.length : Int) by simp at z1; omega]
  have f1 : ∀ a, a ≠ 1 → a ≠ 2 → a ≠ 3 → mU M_17 7 2 (h.length : Int) a = mU M 7 2 (h.length : Int) a := fun a u v w => by funext j; unfold mU; rw [p2 a u v w]
  refine ⟨hi1.to (fun a u v => f1 a (by omega) (by omega) (by omega)), p1.to (by rw [mU_cell (by omega)]) (by rw [mU_cell (by omega)]) (by rw [mU_cell (by omega)]), fun a u => ?_⟩
  by_cases ha : a = 7
  · omega
  · rw [mU_cell ha]; exact p2 a (by omega) (by omega) (by omega)
/-! Stretch -/
def rpI (n : Int) (x : Int → Int) (j : Nat) (s0 : Int × Int × Int) : Nat → Int × Int × Int
  | 0 => s0
  | i + 1 => if (rpI n x j s0 i).1 < lk n x j (j - i) then (lk n x j (j - i), i, j) else rpI n x j s0 i
def rpO (n : Int) (x : Int → Int) : Nat → Int × Int × Int
  | 0 => (0, 0, 0)
  | j + 1 => rpI n x j (rpO n x j) j
/-- the longest stretch that comes again: its length, the former and the latter place -/
def rep (n : Int) (x : Int → Int) : Int × Int × Int := rpO n x n.toNat
theorem rpI_ge (n : Int) (x : Int → Int) (j : Nat) (s0 : Int × Int × Int) (i : Nat) : s0.1 ≤ (rpI n x j s0 i).1 := by
  induction i with
  | zero => exact Int.le_refl _
  | succ i ih =>
    unfold rpI
    split
    · show _ ≤ lk n x j (j - i)
      omega
    · exact ih
theorem rpO_ge (n : Int) (x : Int → Int) (j : Nat) : 0 ≤ (rpO n x j).1 := by
  induction j with
  | zero => exact Int.le_refl _
  | succ j ih => exact Int.le_trans ih (rpI_ge n x j _ j)
theorem rpI_le (n : Int) (x : Int → Int) (j : Nat) (s0 : Int × Int × Int) (i : Nat) (hj : (j : Int) ≤ n) (h : s0.1 ≤ n) : (rpI n x j s0 i).1 ≤ n := by
  induction i with
  | zero => exact h
  | succ i ih =>
    unfold rpI
    split
    · show lk n x j (j - i) ≤ n
      have := @lk_le n x j (j - i) hj
      omega
    · exact ih
theorem rpO_le (n : Int) (x : Int → Int) (j : Nat) (hj : (j : Int) ≤ n) : (rpO n x j).1 ≤ n := by
  induction j with
  | zero => show (0 : Int) ≤ n; omega
  | succ j ih => exact rpI_le n x j _ j (by omega) (ih (by omega))
theorem rpI_stop {n : Int} {x : Int → Int} {j : Nat} {s0 : Int × Int × Int} (hj : (j : Int) ≤ n) (h : n - j ≤ s0.1) (i : Nat) : rpI n x j s0 i = s0 := by
  induction i with
  | zero => rfl
  | succ i ih =>
    unfold rpI
    rw [ih, if_neg]
    have := @lk_le n x j (j - i) hj
    omega
theorem rpO_stop {n : Int} {x : Int → Int} {j : Nat} (h : n - j ≤ (rpO n x j).1) (k : Nat) (hk : ((j + k : Nat) : Int) ≤ n) : rpO n x (j + k) = rpO n x j := by
  induction k with
  | zero => rfl
  | succ k ih =>
    show rpI n x (j + k) (rpO n x (j + k)) (j + k) = _
    rw [ih (by omega), rpI_stop (by omega) (by omega)]
theorem lk0 (n : Int) (x : Int → Int) (d : Int) : lk n x n d = 0 := lk_end (Int.le_refl _)
def rpM (M : mI) (s : Int × Int × Int) : Prop := M 30 0 = s.1 ∧ (0 < s.1 → M 30 1 = s.2.1 ∧ M 30 2 = s.2.2)
theorem c_Stretch_findLongest {Γ : gX} {l : Launch} {M : mI} {n : Int} {x g : Int → Int} (hv : Sv M 1 n x g) : Cn Γ l i_Stretch_findLongest R0 51 [.ref (gb Γ + 30), .ref (gb Γ + 1)] M (pV (fun M' => rpM M' (rep n x) ∧ ∀ a, a ≠ 30 → M' a = M a)) := by
  refine cn_intro (L := [some (.ref (gb Γ + 30)), some (.ref (gb Γ + 1)), none, none, none]) yo_Stretch_findLongest.1 rfl (Nat.le_of_ble_eq_true rfl) rfl (fun X hX hR => ?_)
  obtain ⟨v1, v2, v3, v4, v5⟩ := id hv
  have EXIT : ∀ (j : Nat) (M1 : mI), 1 ≤ j → n - j ≤ (rpO n x j).1 → ((j : Int) ≤ n ∨ (n ≤ 1 ∧ j = 1)) → rpM M1 (rpO n x j) → (∀ a, a ≠ 30 → M1 a = M a) → rpM M1 (rep n x) ∧ ∀ a, a ≠ 30 → M1 a = M a := by
    intro j M1 h1 h2 h3 h4 h5
    refine ⟨?_, h5⟩
    have e : rep n x = rpO n x j := by
      unfold rep
      rcases h3 with h3 | ⟨h3, rfl⟩
      · obtain ⟨k, hk⟩ : ∃ k : Nat, n.toNat = j + k := ⟨n.toNat - j, by omega⟩
        rw [hk]
        exact rpO_stop h2 k (by omega)
      · rcases (show n.toNat = 0 ∨ n.toNat = 1 by omega) with e | e <;> rw [e] <;> rfl
    rw [e]; exact h4
  have OUT : ∀ (q : Nat) (j : Nat) (M1 : mI), (n - j).toNat = q → 1 ≤ j → ((j : Int) ≤ n ∨ (n ≤ 1 ∧ j = 1)) → rpM M1 (rpO n x j) → (∀ a, a ≠ 30 → M1 a = M a) → G Γ X 5 (R0, 51, 0, 0) 7 [some (.ref (gb Γ + 30)), some (.ref (gb Γ + 1)), some (vI j), none, none] [] M1 := by
    intro q
    induction q with
    | zero =>
      intro j M1 hq hj hjn hr f1
      have b1 := rpO_ge n x j
      have b2 : (rpO n x j).1 ≤ 60 := by
        rcases hjn with hjn | ⟨_, rfl⟩
        · have := rpO_le n x j hjn; omega
        · show (0 : Int) ≤ 60; omega
      have hr1 := hr.1
      have e1 : M1 1 2 = n := by rw [f1 1 (by decide)]; exact v1
      refine g_iload_n hX d_Stretch_findLongest_7 rfl ?_
      refine g_aload_n hX d_Stretch_findLongest_8 rfl ?_
      refine g_getI hX fl_Stretch_7 d_Stretch_findLongest_9 0 ⟨rfl, by decide⟩ rfl rfl (fun r_9 => ?_)
      refine g_iadd hX d_Stretch_findLongest_12 ?_
      refine g_aload_n hX d_Stretch_findLongest_13 rfl ?_
      refine g_callV hX yo_State_size q_483 d_Stretch_findLongest_14 (c_State_size st_1) rfl rfl ⟨rfl, by decide⟩ rfl (by decide) (Nat.le_of_ble_eq_true rfl) ⟨Nat.zero_le _, Nat.zero_le _⟩ (k_int fun r_14 M_14 ir_14 hp_14 => ?_)
      obtain ⟨er_14, eM_14⟩ := hp_14; replace er_14 := er_14.symm; replace eM_14 := eM_14.symm; subst er_14; subst eM_14
      refine g_icmp_ge 72 hX d_Stretch_findLongest_17 (by decide) (by omega) (by omega) (fun h_17 => ?_) (fun h_17 => ?_)
      · refine g_vret hX hR d_Stretch_findLongest_72 ?_
        exact EXIT j M1 hj (by omega) hjn hr f1
      · exact absurd h_17 (by omega)
    | succ q ih =>
      intro j M1 hq hj hjn hr f1
      have hjn' : (j : Int) < n := by omega
      have b1 := rpO_ge n x j
      have b2 := rpO_le n x j (by omega)
      have hr1 := hr.1
      have e1 : M1 1 2 = n := by rw [f1 1 (by decide)]; exact v1
      have INN : ∀ (q2 : Nat) (i : Nat) (M1 : mI), i + q2 = j → rpM M1 (rpI n x j (rpO n x j) i) → (∀ a, a ≠ 30 → M1 a = M a) → G Γ X 5 (R0, 51, 0, 0) 22 [some (.ref (gb Γ + 30)), some (.ref (gb Γ + 1)), some (vI j), some (vI i), none] [] M1 := by
        intro q2
        induction q2 with
        | zero =>
          intro i M1 hq2 hr f1
          refine g_iload_n hX d_Stretch_findLongest_22 rfl ?_
          refine g_iload_n hX d_Stretch_findLongest_23 rfl ?_
          refine g_icmp_ge 66 hX d_Stretch_findLongest_24 (by decide) (by omega) (by omega) (fun h_24 => ?_) (fun h_24 => ?_)
          · refine g_iinc hX d_Stretch_findLongest_66 rfl (by decide) ?_
            refine g_goto 7 hX d_Stretch_findLongest_69 (by decide) ?_
            refine g_drop 3 ?_
            exact ih (j + 1) M1 (by omega) (by omega) (Or.inl (by omega)) (by rw [show i = j by omega] at hr; exact hr) f1
          · exact absurd h_24 (by omega)
        | succ q2 ih2 =>
          intro i M1 hq2 hr f1
          have b3 := rpI_le n x j (rpO n x j) i (by omega) b2
          have b4 := rpI_ge n x j (rpO n x j) i
          have e1 : M1 1 2 = n := by rw [f1 1 (by decide)]; exact v1
          have hlk := @lk_le n x j (j - i) (by omega)
          have hr1 := hr.1
          refine g_iload_n hX d_Stretch_findLongest_22 rfl ?_
          refine g_iload_n hX d_Stretch_findLongest_23 rfl ?_
          refine g_icmp_ge 66 hX d_Stretch_findLongest_24 (by decide) (by omega) (by omega) (fun h_24 => ?_) (fun h_24 => ?_)
          · exact absurd h_24 (by omega)
          · refine g_aload_n hX d_Stretch_findLongest_27 rfl ?_
            refine g_iload_n hX d_Stretch_findLongest_28 rfl ?_
            refine g_iload_n hX d_Stretch_findLongest_29 rfl ?_
            refine g_callV hX yo_State_likeLength q_484 d_Stretch_findLongest_30 (c_State_likeLength (f := (i : Int)) (p := (j : Int)) st_1 (hv.to (f1 1 (by decide)) (f1 2 (by decide)) (f1 3 (by decide))) (by omega) (by omega)) rfl rfl ⟨rfl, by decide⟩ rfl (by decide) (Nat.le_of_ble_eq_true rfl) ⟨Nat.zero_le _, Nat.zero_le _⟩ (k_int fun r_30 M_30 ir_30 hp_30 => ?_)
            obtain ⟨er_30, eM_30⟩ := hp_30; replace er_30 := er_30.symm; replace eM_30 := eM_30.symm; subst er_30; subst eM_30
            refine g_istore hX d_Stretch_findLongest_33 (by decide) ?_
            refine g_iload hX d_Stretch_findLongest_35 rfl ?_
            refine g_aload_n hX d_Stretch_findLongest_37 rfl ?_
            refine g_getI hX fl_Stretch_7 d_Stretch_findLongest_38 0 ⟨rfl, by decide⟩ rfl rfl (fun r_38 => ?_)
            refine g_icmp_le 60 hX d_Stretch_findLongest_41 (by decide) (by omega) (by omega) (fun h_41 => ?_) (fun h_41 => ?_)
            · have er : rpM M1 (rpI n x j (rpO n x j) (i + 1)) := by (unfold rpI; rw [if_neg (by omega)]; exact hr)
              have f2 := f1
              refine g_iinc hX d_Stretch_findLongest_60 rfl (by decide) ?_
              refine g_goto 22 hX d_Stretch_findLongest_63 (by decide) ?_
              refine g_drop 4 ?_
              exact ih2 (i + 1) _ (by omega) er f2
            · have er : rpM (mU (mU (mU M1 30 0 (lk n x j (j - i))) 30 1 i) 30 2 j) (rpI n x j (rpO n x j) (i + 1)) := by (unfold rpI; rw [if_pos (by omega)]; exact ⟨by rw [mU_slot (by omega), mU_slot (by omega), mU_self], fun _ => ⟨by rw [mU_slot (by omega), mU_self], by rw [mU_self]⟩⟩)
              have f2 : ∀ a, a ≠ 30 → mU (mU (mU M1 30 0 (lk n x j (j - i))) 30 1 i) 30 2 j a = M a := fun a u => by rw [mU_cell u, mU_cell u, mU_cell u]; exact f1 a u
              refine g_aload_n hX d_Stretch_findLongest_44 rfl ?_
              refine g_iload hX d_Stretch_findLongest_45 rfl ?_
              refine g_putI hX fl_Stretch_7 d_Stretch_findLongest_47 0 ⟨rfl, by decide⟩ rfl rfl (fun q h => by cases h; rfl) rfl (by omega) ?_
              refine g_aload_n hX d_Stretch_findLongest_50 rfl ?_
              refine g_iload_n hX d_Stretch_findLongest_51 rfl ?_
              refine g_putI hX fl_Stretch_13 d_Stretch_findLongest_52 1 ⟨rfl, by decide⟩ rfl rfl (fun q h => by cases h; rfl) rfl (by omega) ?_
              refine g_aload_n hX d_Stretch_findLongest_55 rfl ?_
              refine g_iload_n hX d_Stretch_findLongest_56 rfl ?_
              refine g_putI hX fl_Stretch_16 d_Stretch_findLongest_57 2 ⟨rfl, by decide⟩ rfl rfl (fun q h => by cases h; rfl) rfl (by omega) ?_
              refine g_iinc hX d_Stretch_findLongest_60 rfl (by decide) ?_
              refine g_goto 22 hX d_Stretch_findLongest_63 (by decide) ?_
              refine g_drop 4 ?_
              exact ih2 (i + 1) _ (by omega) er f2
      refine g_iload_n hX d_Stretch_findLongest_7 rfl ?_
      refine g_aload_n hX d_Stretch_findLongest_8 rfl ?_
      refine g_getI hX fl_Stretch_7 d_Stretch_findLongest_9 0 ⟨rfl, by decide⟩ rfl rfl (fun r_9 => ?_)
      refine g_iadd hX d_Stretch_findLongest_12 ?_
      refine g_aload_n hX d_Stretch_findLongest_13 rfl ?_
      refine g_callV hX yo_State_size q_483 d_Stretch_findLongest_14 (c_State_size st_1) rfl rfl ⟨rfl, by decide⟩ rfl (by decide) (Nat.le_of_ble_eq_true rfl) ⟨Nat.zero_le _, Nat.zero_le _⟩ (k_int fun r_14 M_14 ir_14 hp_14 => ?_)
      obtain ⟨er_14, eM_14⟩ := hp_14; replace er_14 := er_14.symm; replace eM_14 := eM_14.symm; subst er_14; subst eM_14
      refine g_icmp_ge 72 hX d_Stretch_findLongest_17 (by decide) (by omega) (by omega) (fun h_17 => ?_) (fun h_17 => ?_)
      · refine g_vret hX hR d_Stretch_findLongest_72 ?_
        exact EXIT j M1 hj (by omega) hjn hr f1
      · refine g_iconst hX d_Stretch_findLongest_20 ?_
        refine g_istore_n hX d_Stretch_findLongest_21 (by decide) ?_
        exact INN j 0 M1 (by omega) hr f1
  refine g_aload_n hX d_Stretch_findLongest_0 rfl ?_
  refine g_iconst hX d_Stretch_findLongest_1 ?_
  refine g_putI hX fl_Stretch_7 d_Stretch_findLongest_2 0 ⟨rfl, by decide⟩ rfl rfl (fun q h => by cases h; rfl) rfl (by omega) ?_
  refine g_iconst hX d_Stretch_findLongest_5 ?_
  refine g_istore_n hX d_Stretch_findLongest_6 (by decide) ?_
  exact OUT _ 1 _ rfl (by omega) (by omega) ⟨by rw [mU_self]; rfl, fun h => absurd (show (0 : Int) < 0 from h) (by omega)⟩ (fun a u => by rw [mU_cell u])
theorem c_Stretch_length {Γ : gX} {l : Launch} {M : mI} : Cn Γ l i_Stretch_length R0 51 [.ref (gb Γ + 30)] M (pI (fun r M' => r = M 30 0 ∧ M' = M)) := by
  refine cn_intro (L := [some (.ref (gb Γ + 30))]) yo_Stretch_length.1 rfl (Nat.le_of_ble_eq_true rfl) rfl (fun X hX hR => ?_)
  refine g_aload_n hX d_Stretch_length_0 rfl ?_
  refine g_getI hX fl_Stretch_7 d_Stretch_length_1 0 ⟨rfl, by decide⟩ rfl rfl (fun r_1 => ?_)
  refine g_iret hX hR d_Stretch_length_4 (by omega) ?_
  exact ⟨rfl, rfl⟩
theorem c_Stretch_former {Γ : gX} {l : Launch} {M : mI} : Cn Γ l i_Stretch_former R0 51 [.ref (gb Γ + 30)] M (pI (fun r M' => r = M 30 1 ∧ M' = M)) := by
  refine cn_intro (L := [some (.ref (gb Γ + 30))]) yo_Stretch_former.1 rfl (Nat.le_of_ble_eq_true rfl) rfl (fun X hX hR => ?_)
  refine g_aload_n hX d_Stretch_former_0 rfl ?_
  refine g_getI hX fl_Stretch_13 d_Stretch_former_1 1 ⟨rfl, by decide⟩ rfl rfl (fun r_1 => ?_)
  refine g_iret hX hR d_Stretch_former_4 (by omega) ?_
  exact ⟨rfl, rfl⟩
theorem c_Stretch_latter {Γ : gX} {l : Launch} {M : mI} : Cn Γ l i_Stretch_latter R0 51 [.ref (gb Γ + 30)] M (pI (fun r M' => r = M 30 2 ∧ M' = M)) := by
  refine cn_intro (L := [some (.ref (gb Γ + 30))]) yo_Stretch_latter.1 rfl (Nat.le_of_ble_eq_true rfl) rfl (fun X hX hR => ?_)
  refine g_aload_n hX d_Stretch_latter_0 rfl ?_
  refine g_getI hX fl_Stretch_16 d_Stretch_latter_1 2 ⟨rfl, by decide⟩ rfl rfl (fun r_1 => ?_)
  refine g_iret hX hR d_Stretch_latter_4 (by omega) ?_
  exact ⟨rfl, rfl⟩
