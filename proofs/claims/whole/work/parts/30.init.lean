/-! constructors -/
theorem c_WC_at_tR {Γ : gX} {l : Launch} {M : mI} {R : mR} {K : Nat} {t : Nat} {n : String} {f : Int → Int} {i : Int} (hT : ∀ U, Vf Γ U → sT Γ t n f U) (hi : 0 ≤ i ∧ i < 5) (hf : ∀ j, iR (f j)) : Cn Γ l i_WC_at R K [.ref t, vI i] M (pI (fun r M' => r = f i ∧ M' = M)) := by
  refine cn_intro (L := [some (.ref t), some (vI i)]) yo_WC_at.1 rfl (Nat.le_of_ble_eq_true rfl) rfl (fun X hX hR => ?_)
  have zf := hf i
  refine g_iload_n hX d_WC_at_0 rfl ?_
  refine g_if_lt 16 hX d_WC_at_1 (by decide) (by omega) (fun h_1 => ?_) (fun h_1 => ?_)
  · exact absurd h_1 (by omega)
  · refine g_iload_n hX d_WC_at_4 rfl ?_
    refine g_aload_n hX d_WC_at_5 rfl ?_
    refine g_tlen hX (hT _ hX.2.2.2.2.2.2.1) d_WC_at_6 ?_
    refine g_icmp_ge 16 hX d_WC_at_7 (by decide) (by omega) (by omega) (fun h_7 => ?_) (fun h_7 => ?_)
    · exact absurd h_7 (by omega)
    · refine g_aload_n hX d_WC_at_10 rfl ?_
      refine g_iload_n hX d_WC_at_11 rfl ?_
      refine g_tald hX (hT _ hX.2.2.2.2.2.2.1) d_WC_at_12 hi ?_
      refine g_goto 17 hX d_WC_at_13 (by decide) ?_
      refine g_iret hX hR d_WC_at_17 (by omega) ?_
      exact ⟨rfl, rfl⟩
section GF
variable {Γ : gX} {X : XT} {nL h : Nat} {Z : ZT} {pc : Nat} {L : List (Option Value)} {st : List Value} {M : mI} {cc : ByteArray}
theorem g_getsF (hX : Cx Γ X nL h cc "WindowCopies$State") (hdg : decode cc pc = .ok (.getstatic 22, 3)) (kk : G Γ X nL Z (pc + 3) L (.ref (gtF Γ) :: st) M) : G Γ X nL Z pc L st M := by
  intro H locs ls h1 h2 h3 h4
  obtain ⟨q1, q2, hml, hown, hts, hlk, hV, hf, hlo⟩ := hX
  obtain ⟨cf, kf, fi, f, a, cell, z1, z2, z3, z4, z5, z6, z7, z8⟩ := hV.2.2.2.2.2.1
  exact va_WgetsN q1 q2 hown (va_Nw.use rfl (hV.2.1 _ (by unfold nestWs; exact List.mem_cons_self))) z1 z2 z3 z4 (by rw [h2 a (Nat.not_le.mp z8)]; exact z5) (fun e => by rw [e] at z6; cases z6) z7 rfl hdg (kk H locs ls h1 h2 h3 h4)
end GF
theorem fFirst_R (j : Int) : iR (fFirst j) := by unfold fFirst; split <;> (try split) <;> (try split) <;> omega
theorem c_State_init {Γ : gX} {l : Launch} {M : mI} {R : mR} {k : Nat} (hd : dsL[k]? = some (1, 1)) (hd1 : dsL[k + 1]? = some (0, 60)) (hd2 : dsL[k + 2]? = some (0, 5)) (hM : ∀ a, k < a → ∀ j, M a j = 0) (hR0 : ∀ a, k < a → ∀ j, R a j = none) : CnC Γ l i_State_init R (k + 1) (rU (rU R k 0 (some (k + 1))) k 1 (some (k + 2))) (k + 3) 2 65 [.ref (gb Γ + k)] M (fun M' => M' k 2 = 0 ∧ (∀ j, 0 ≤ j → j < 5 → M' (k + 2) j = fFirst j) ∧ ∀ a, a ≠ k → a ≠ k + 2 → M' a = M a) := by
  refine cnC_intro (L := [some (.ref (gb Γ + k)), none]) yo_State_init rfl rfl (Nat.le_of_ble_eq_true rfl) rfl (fun X hX hR => ?_)
  have e1 := hR.2.2.1
  have e2 := hR.2.2.2.1
  have hs : True ∧ rU (rU R k 0 (some (k + 1))) k 1 (some (k + 2)) k 0 = some (k + 1) ∧ rU (rU R k 0 (some (k + 1))) k 1 (some (k + 2)) k 1 = some (k + 2) ∧ True := ⟨trivial, by simp [rU], by simp [rU], trivial⟩
  have LOOP : ∀ (q : Nat) (i : Int) (M1 : mI), (5 - i).toNat = q → 0 ≤ i → i ≤ 5 → M1 k 2 = 0 → (∀ j, 0 ≤ j → j < i → M1 (k + 2) j = fFirst j) → (∀ a, a ≠ k → a ≠ k + 2 → M1 a = M a) → G Γ X 2 (rU (rU R k 0 (some (k + 1))) k 1 (some (k + 2)), k + 3, 2, 65) 26 [some (.ref (gb Γ + k)), some (vI i)] [] M1 := by
    intro q
    induction q with
    | zero =>
      intro i M1 hq h0 h1 h2 h3 h4
      refine g_iload_n hX d_State_init_26 rfl ?_
      refine g_iconst hX d_State_init_27 ?_
      refine g_icmp_ge 52 hX d_State_init_28 (by decide) (by omega) (by omega) (fun h_28 => ?_) (fun h_28 => ?_)
      · refine g_retC hX hR d_State_init_52 ?_
        exact ⟨h2, fun j u v => h3 j u (by omega), h4⟩
      · exact absurd h_28 (by omega)
    | succ q ih =>
      intro i M1 hq h0 h1 h2 h3 h4
      refine g_iload_n hX d_State_init_26 rfl ?_
      refine g_iconst hX d_State_init_27 ?_
      refine g_icmp_ge 52 hX d_State_init_28 (by decide) (by omega) (by omega) (fun h_28 => ?_) (fun h_28 => ?_)
      · exact absurd h_28 (by omega)
      · refine g_aload_n hX d_State_init_31 rfl ?_
        refine g_getR hX fl_State_15 d_State_init_32 ⟨hd, by show k < k + 3; omega⟩ hs.2.2.1 rfl ?_
        refine g_iload_n hX d_State_init_35 rfl ?_
        refine g_getsF hX d_State_init_36 ?_
        refine g_iload_n hX d_State_init_39 rfl ?_
        refine g_callSN (host := "WindowCopies") hX yo_WC_at (by unfold nestWs; simp) d_State_init_40 (c_WC_at_tR (t := gtF Γ) (n := "FIRST_VALUES") (f := fFirst) (fun U hU => hU.2.2.2.2.2) (by omega) fFirst_R) rfl rfl (by decide) (Nat.le_of_ble_eq_true rfl) ⟨by show 2 + 0 ≤ _; omega, by show 65 + 0 ≤ _; omega⟩ (k_int fun r_40 M_40 ir_40 hp_40 => ?_)
        obtain ⟨er_40, eM_40⟩ := hp_40; replace er_40 := er_40.symm; replace eM_40 := eM_40.symm; subst er_40; subst eM_40
        refine g_callSN (host := "WindowCopies") hX yo_WC_store (by unfold nestWs; simp) d_State_init_43 (c_WC_store hd2 (by show k + 2 < k + 3; omega) (by omega) ir_40) rfl rfl (by decide) (Nat.le_of_ble_eq_true rfl) ⟨by show 2 + 0 ≤ _; omega, by show 65 + 0 ≤ _; omega⟩ (k_void fun M_43 hp_43 => ?_)
        replace hp_43 := hp_43.symm; subst hp_43
        refine g_iinc hX d_State_init_46 rfl (by decide) ?_
        refine g_goto 26 hX d_State_init_49 (by decide) ?_
        refine ih (i + 1) _ (by omega) (by omega) (by omega) (by rw [mU_cell (by omega)]; exact h2) (fun j u v => ?_) (fun a u v => by rw [mU_cell v]; exact h4 a u v)
        by_cases hj : j = i
        · subst hj; rw [mU_self]
        · rw [mU_slot hj]; exact h3 j u (by omega)
  refine g_aload_n hX d_State_init_0 rfl ?_
  refine g_obj (hl := q_24) hX d_State_init_1 (Nat.le_of_ble_eq_true rfl) (Nat.le_of_ble_eq_true rfl) ?_
  refine g_aload_n hX d_State_init_4 rfl ?_
  refine g_bipush hX d_State_init_5 rfl ?_
  refine g_newa (n := 60) hX d_State_init_7 rfl hd1 (hM (k + 1) (by omega)) ⟨by omega, by show 0 + 60 ≤ _; omega⟩ ?_
  refine g_putR (k' := k + 1) hX fl_State_9 d_State_init_9 hd (by omega) rfl (fun q h => by cases h; rfl) (fun q h => by cases h; rfl) hR.2.2.2.2 rfl (fun _ => rfl) (fun _ => rfl) ?_
  refine g_aload_n hX d_State_init_12 rfl ?_
  refine g_iconst hX d_State_init_13 ?_
  refine g_newa (n := 5) hX d_State_init_14 rfl hd2 (hM (k + 2) (by omega)) ⟨by omega, by show 0 + 60 + 5 ≤ _; omega⟩ ?_
  refine g_putR (k' := k + 2) hX fl_State_15 d_State_init_16 hd (by omega) rfl (fun q h => by cases h; rfl) (fun q h => by cases h; rfl) hR.2.2.2.2 rfl (fun _ => rfl) (fun _ => rfl) ?_
  refine g_aload_n hX d_State_init_19 rfl ?_
  refine g_iconst hX d_State_init_20 ?_
  refine g_putI hX fl_State_18 d_State_init_21 2 ⟨hd, by show k < k + 3; omega⟩ rfl rfl (fun q h => by cases h; rfl) rfl (by omega) ?_
  refine g_iconst hX d_State_init_24 ?_
  refine g_istore_n hX d_State_init_25 (by decide) ?_
  exact LOOP _ 0 _ rfl (by omega) (by omega) (by rw [mU_self]) (fun j u v => by omega) (fun a u v => mU_cell u)
