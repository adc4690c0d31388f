/-! the reference: its parts, told -/
theorem c_Mo_cost {Γ : gX} {l : Launch} {M : mI} {k : Int} (hk : 0 ≤ k ∧ k < 60) : Cn Γ l i_Mo_cost R0 51 [.ref (gb Γ + 37), vI k] M (pI (fun r M' => r = (if 0 < M 44 k then M 38 5 else M 38 4) ∧ M' = M)) := by
  refine cn_intro (L := [some (.ref (gb Γ + 37)), some (vI k)]) yo_Mo_cost.1 rfl (Nat.le_of_ble_eq_true rfl) rfl (fun X hX hR => ?_)
  refine g_aload_n hX d_Mo_cost_0 rfl ?_
  refine g_getR hX fl_Mo_28 d_Mo_cost_1 ⟨rfl, by decide⟩ rfl rfl ?_
  refine g_iload_n hX d_Mo_cost_4 rfl ?_
  refine g_iald hX d_Mo_cost_5 ⟨rfl, by decide⟩ (by omega) (fun r_5 => ?_)
  refine g_if_le 18 hX d_Mo_cost_6 (by decide) (by first | omega | exact ite_iR) (fun h_6 => ?_) (fun h_6 => ?_)
  · refine g_aload_n hX d_Mo_cost_18 rfl ?_
    refine g_getR hX fl_Mo_7 d_Mo_cost_19 ⟨rfl, by decide⟩ rfl rfl ?_
    refine g_iconst hX d_Mo_cost_22 ?_
    refine g_iald hX d_Mo_cost_23 ⟨rfl, by decide⟩ (by omega) (fun r_23 => ?_)
    refine g_iret hX hR d_Mo_cost_24 (by omega) ?_
    exact ⟨by first | rw [if_pos (by omega)] | rw [if_neg (by omega)], rfl⟩
  · refine g_aload_n hX d_Mo_cost_9 rfl ?_
    refine g_getR hX fl_Mo_7 d_Mo_cost_10 ⟨rfl, by decide⟩ rfl rfl ?_
    refine g_iconst hX d_Mo_cost_13 ?_
    refine g_iald hX d_Mo_cost_14 ⟨rfl, by decide⟩ (by omega) (fun r_14 => ?_)
    refine g_goto 24 hX d_Mo_cost_15 (by decide) ?_
    refine g_iret hX hR d_Mo_cost_24 (by omega) ?_
    exact ⟨by first | rw [if_pos (by omega)] | rw [if_neg (by omega)], rfl⟩
theorem take_snoc {l : List Int} {k : Nat} (h : k < l.length) : l.take (k + 1) = l.take k ++ [l.getD k 0] := by
  rw [List.take_add_one, List.getD_eq_getElem?_getD, List.getElem?_eq_getElem h]
  rfl
theorem LM.at {M : mI} {n w : Int} {x g : Int → Int} (h : LM M n x g w) (hg : Og g) {k : Nat} (hk : k < (bgs n x g w).length) : M 42 k = (bgs n x g w).getD k 0 ∧ M 43 k = pL n x g w ((bgs n x g w).getD k 0) ∧ M 44 k = pD n x g w ((bgs n x g w).getD k 0) ∧ (0 ≤ (bgs n x g w).getD k 0 ∧ (bgs n x g w).getD k 0 < n) := by
  have e : (bgs n x g w)[k]? = some ((bgs n x g w).getD k 0) := by rw [List.getD_eq_getElem?_getD, List.getElem?_eq_getElem hk]; rfl
  exact ⟨(h.2 k _ e).1, (h.2 k _ e).2.1, (h.2 k _ e).2.2, bgs_mem hg (List.mem_of_getElem? e)⟩
theorem c_Mo_costAll {Γ : gX} {l : Launch} {M : mI} {n w : Int} {x g : Int → Int} (hv : Ns M n x g) (hg : Og g) (hw : 0 ≤ w ∧ w ≤ 2) : Cn Γ l i_Mo_costAll R0 51 [.ref (gb Γ + 37), vI w] M (pI (fun r M' => r = cst n x g w ∧ LM M' n x g w ∧ FrL M' M ∧ 0 ≤ r ∧ r ≤ 3600)) := by
  refine cn_intro (L := [some (.ref (gb Γ + 37)), some (vI w), none, none]) yo_Mo_costAll.1 rfl (Nat.le_of_ble_eq_true rfl) rfl (fun X hX hR => ?_)
  obtain ⟨v1, v2, v3, v4, v5⟩ := id hv
  have zlb := bgs_len n x g w v2
  have LOOP : ∀ (q k : Nat) (c : Int) (M1 : mI), LM M1 n x g w → FrL M1 M → (bgs n x g w).length - k = q → k ≤ (bgs n x g w).length → c = ((k : Int) - (stF (pD n x g w) (pL n x g w) ((bgs n x g w).take k)).1) * g 3 + (stF (pD n x g w) (pL n x g w) ((bgs n x g w).take k)).1 * g 4 → 0 ≤ c ∧ c ≤ 60 * k → G Γ X 4 (R0, 51, 0, 0) 9 [some (.ref (gb Γ + 37)), some (vI w), some (vI c), some (vI k)] [] M1 := by
    intro q
    induction q with
    | zero =>
      intro k c M1 hL hF hq hk hc hb
      have e10 := hL.1
      refine g_iload_n hX d_Mo_costAll_9 rfl ?_
      refine g_aload_n hX d_Mo_costAll_10 rfl ?_
      refine g_getI hX fl_Mo_98 d_Mo_costAll_11 10 ⟨rfl, by decide⟩ rfl rfl (fun r_11 => ?_)
      refine g_icmp_ge 31 hX d_Mo_costAll_14 (by decide) (by omega) (by omega) (fun h_14 => ?_) (fun h_14 => ?_)
      · refine g_iload_n hX d_Mo_costAll_31 rfl ?_
        refine g_iret hX hR d_Mo_costAll_32 (by omega) ?_
        refine ⟨?_, hL, hF, by omega, by omega⟩; rw [List.take_of_length_le (by omega)] at hc; unfold cst sts; rw [show (bgs n x g w).length = k by omega]; exact hc
      · exact absurd h_14 (by omega)
    | succ q ih =>
      intro k c M1 hL hF hq hk hc hb
      have e10 := hL.1
      have hk2 : k < (bgs n x g w).length := by omega
      have zA := hL.at hg hk2
      have zB := pL_b (x := x) hg w _ zA.2.2.2.1 zA.2.2.2.2
      have zt := take_snoc hk2
      obtain ⟨s0, s1, s2, s3, s4⟩ := (hv.to (hF.1 38 (by decide) (by decide))).s
      obtain ⟨g0, g1, g2, g3, g4⟩ := id hg
      refine g_iload_n hX d_Mo_costAll_9 rfl ?_
      refine g_aload_n hX d_Mo_costAll_10 rfl ?_
      refine g_getI hX fl_Mo_98 d_Mo_costAll_11 10 ⟨rfl, by decide⟩ rfl rfl (fun r_11 => ?_)
      refine g_icmp_ge 31 hX d_Mo_costAll_14 (by decide) (by omega) (by omega) (fun h_14 => ?_) (fun h_14 => ?_)
      · exact absurd h_14 (by omega)
      · refine g_iload_n hX d_Mo_costAll_17 rfl ?_
        refine g_aload_n hX d_Mo_costAll_18 rfl ?_
        refine g_iload_n hX d_Mo_costAll_19 rfl ?_
        refine g_callV hX yo_Mo_cost q_821 d_Mo_costAll_20 (c_Mo_cost (k := k) (by omega)) rfl rfl ⟨rfl, by decide⟩ rfl (by decide) (Nat.le_of_ble_eq_true rfl) ⟨Nat.zero_le _, Nat.zero_le _⟩ (k_int fun r_20 M_20 ir_20 hp_20 => ?_)
        obtain ⟨er, eM⟩ := hp_20
        subst eM
        have zr : (pD n x g w ((bgs n x g w).getD k 0) = 0 ∧ r_20 = g 3) ∨ (pD n x g w ((bgs n x g w).getD k 0) ≠ 0 ∧ r_20 = g 4) := by
          by_cases zd : pD n x g w ((bgs n x g w).getD k 0) = 0
          · rw [if_neg (by omega)] at er; exact Or.inl ⟨zd, by omega⟩
          · rw [if_pos (by omega)] at er; exact Or.inr ⟨zd, by omega⟩
        refine g_iadd hX d_Mo_costAll_23 ?_
        refine g_istore_n hX d_Mo_costAll_24 (by decide) ?_
        refine g_iinc hX d_Mo_costAll_25 rfl (by decide) ?_
        refine g_goto 9 hX d_Mo_costAll_28 (by decide) ?_
        refine ih (k + 1) _ _ hL hF (by omega) (by omega) ?_ (by omega)
        rw [zt, stF_app]
        rcases zr with ⟨zd, zr⟩ | ⟨zd, zr⟩
        · rw [stS_0 zd, hc, zr, show ((k + 1 : Nat) : Int) - (stF (pD n x g w) (pL n x g w) ((bgs n x g w).take k)).1 = ((k : Int) - (stF (pD n x g w) (pL n x g w) ((bgs n x g w).take k)).1) + 1 by omega, Int.add_mul, Int.one_mul]; omega
        · rw [stS_1 zd, hc, zr]
          show _ = (((k + 1 : Nat) : Int) - ((stF (pD n x g w) (pL n x g w) ((bgs n x g w).take k)).1 + 1)) * g 3 + ((stF (pD n x g w) (pL n x g w) ((bgs n x g w).take k)).1 + 1) * g 4
          rw [show ((k + 1 : Nat) : Int) - ((stF (pD n x g w) (pL n x g w) ((bgs n x g w).take k)).1 + 1) = ((k : Int) - (stF (pD n x g w) (pL n x g w) ((bgs n x g w).take k)).1) by omega, Int.add_mul, Int.one_mul]; omega
  refine g_aload_n hX d_Mo_costAll_0 rfl ?_
  refine g_iload_n hX d_Mo_costAll_1 rfl ?_
  refine g_callV hX yo_Mo_lays q_805 d_Mo_costAll_2 (c_Mo_lays hv hg hw) rfl rfl ⟨rfl, by decide⟩ rfl (by decide) (Nat.le_of_ble_eq_true rfl) ⟨Nat.zero_le _, Nat.zero_le _⟩ (k_void fun M_2 hp_2 => ?_)
  obtain ⟨hL, hF⟩ := hp_2
  refine g_iconst hX d_Mo_costAll_5 ?_
  refine g_istore_n hX d_Mo_costAll_6 (by decide) ?_
  refine g_iconst hX d_Mo_costAll_7 ?_
  refine g_istore_n hX d_Mo_costAll_8 (by decide) ?_
  exact LOOP _ 0 0 _ hL hF rfl (by omega) (by rw [List.take_zero]; show (0 : Int) = (0 - 0) * g 3 + 0 * g 4; rw [Int.zero_mul, Int.sub_self, Int.zero_mul]; rfl) (by omega)
theorem c_Mo_part {Γ : gX} {l : Launch} {M : mI} {σ : sG} {w i k : Int} (h : MR M σ) (ok : OkV σ) (hw : iR w) (hi : iR i) (hk : iR k) : Cn Γ l i_Mo_part R0 51 [.ref (gb Γ + 37), vI w, vI i, vI k] M (pI (fun r M' => r = q_part σ w i k ∧ MR M' σ ∧ ∀ a, a < 37 → M' a = M a)) := by
  refine cn_intro (L := [some (.ref (gb Γ + 37)), some (vI w), some (vI i), some (vI k)]) yo_Mo_part.1 rfl (Nat.le_of_ble_eq_true rfl) rfl (fun X hX hR => ?_)
  obtain ⟨v1, v2, v3, v4, v5⟩ := id h.1
  refine g_iload_n hX d_Mo_part_0 rfl ?_
  refine g_iconst hX d_Mo_part_1 ?_
  refine g_iconst hX d_Mo_part_2 ?_
  refine g_callS hX yo_Mo_in q_732 d_Mo_part_3 (c_Mo_in hw (by omega) (by omega)) rfl rfl (by decide) (Nat.le_of_ble_eq_true rfl) ⟨Nat.zero_le _, Nat.zero_le _⟩ (k_int fun r_3 M_3 ir_3 hp_3 => ?_)
  obtain ⟨er_3, eM_3⟩ := hp_3; replace er_3 := er_3.symm; replace eM_3 := eM_3.symm; subst er_3; subst eM_3
  refine g_if_eq 22 hX d_Mo_part_6 (by decide) (by first | omega | exact ite_iR) (fun h_6 => ?_) (fun h_6 => ?_)
  · have z1 := ite_eq h_6
    refine g_sipush hX d_Mo_part_22 rfl ?_
    refine g_iret hX hR d_Mo_part_25 (by omega) ?_
    refine ⟨?_, h, fun _ _ => rfl⟩; unfold q_part; rw [if_pos (by omega)]
  · have z1 := ite_ne h_6
    refine g_iload_n hX d_Mo_part_9 rfl ?_
    refine g_if_lt 22 hX d_Mo_part_10 (by decide) (by first | omega | exact ite_iR) (fun h_10 => ?_) (fun h_10 => ?_)
    · refine g_sipush hX d_Mo_part_22 rfl ?_
      refine g_iret hX hR d_Mo_part_25 (by omega) ?_
      refine ⟨?_, h, fun _ _ => rfl⟩; unfold q_part; rw [if_pos (by omega)]
    · refine g_iload_n hX d_Mo_part_13 rfl ?_
      refine g_iconst hX d_Mo_part_14 ?_
      refine g_iconst hX d_Mo_part_15 ?_
      refine g_callS hX yo_Mo_in q_732 d_Mo_part_16 (c_Mo_in hk (by omega) (by omega)) rfl rfl (by decide) (Nat.le_of_ble_eq_true rfl) ⟨Nat.zero_le _, Nat.zero_le _⟩ (k_int fun r_16 M_16 ir_16 hp_16 => ?_)
      obtain ⟨er_16, eM_16⟩ := hp_16; replace er_16 := er_16.symm; replace eM_16 := eM_16.symm; subst er_16; subst eM_16
      refine g_if_ne 26 hX d_Mo_part_19 (by decide) (by first | omega | exact ite_iR) (fun h_19 => ?_) (fun h_19 => ?_)
      · have z2 := ite_ne h_19
        refine g_aload_n hX d_Mo_part_26 rfl ?_
        refine g_iload_n hX d_Mo_part_27 rfl ?_
        refine g_callV hX yo_Mo_lays q_805 d_Mo_part_28 (c_Mo_lays h.1 ok.1.2.1 z1) rfl rfl ⟨rfl, by decide⟩ rfl (by decide) (Nat.le_of_ble_eq_true rfl) ⟨Nat.zero_le _, Nat.zero_le _⟩ (k_void fun M_28 hp_28 => ?_)
        obtain ⟨hL, hF⟩ := hp_28
        have e10 := hL.1
        obtain ⟨s0, s1, s2, s3, s4⟩ := (h.1.to (hF.1 38 (by decide) (by decide))).s
        have zlb := bgs_len σ.1.1 σ.1.2.1 σ.1.2.2 w v2
        refine g_iload_n hX d_Mo_part_31 rfl ?_
        refine g_aload_n hX d_Mo_part_32 rfl ?_
        refine g_getI hX fl_Mo_98 d_Mo_part_33 10 ⟨rfl, by decide⟩ rfl rfl (fun r_33 => ?_)
        refine g_icmp_lt 43 hX d_Mo_part_36 (by decide) (by omega) (by omega) (fun h_36 => ?_) (fun h_36 => ?_)
        · have zA := hL.at ok.1.2.1 (k := i.toNat) (by omega)
          rw [show ((i.toNat : Nat) : Int) = i by omega] at zA
          have zB := pL_b (x := σ.1.2.1) ok.1.2.1 w _ zA.2.2.2.1 zA.2.2.2.2
          refine g_iload_n hX d_Mo_part_43 rfl ?_
          refine g_if_ne 56 hX d_Mo_part_44 (by decide) (by first | omega | exact ite_iR) (fun h_44 => ?_) (fun h_44 => ?_)
          · refine g_iload_n hX d_Mo_part_56 rfl ?_
            refine g_iconst hX d_Mo_part_57 ?_
            refine g_icmp_ne 70 hX d_Mo_part_58 (by decide) (by omega) (by omega) (fun h_58 => ?_) (fun h_58 => ?_)
            · refine g_iload_n hX d_Mo_part_70 rfl ?_
              refine g_iconst hX d_Mo_part_71 ?_
              refine g_icmp_ne 84 hX d_Mo_part_72 (by decide) (by omega) (by omega) (fun h_72 => ?_) (fun h_72 => ?_)
              · refine g_aload_n hX d_Mo_part_84 rfl ?_
                refine g_iload_n hX d_Mo_part_85 rfl ?_
                refine g_callV hX yo_Mo_cost q_821 d_Mo_part_86 (c_Mo_cost (k := i) (by omega)) rfl rfl ⟨rfl, by decide⟩ rfl (by decide) (Nat.le_of_ble_eq_true rfl) ⟨Nat.zero_le _, Nat.zero_le _⟩ (k_int fun r_86 M_86 ir_86 hp_86 => ?_)
                obtain ⟨er, eM⟩ := hp_86
                subst eM
                refine g_iret hX hR d_Mo_part_89 (by omega) ?_
                refine ⟨?_, hF.mr h, hF.lo⟩; unfold q_part bg lP dP; rw [if_neg (by omega), if_neg (by omega)]; first | (rw [if_pos (by omega)]; exact zA.1) | (rw [if_neg (by omega), if_pos (by omega)]; exact zA.2.1) | (rw [if_neg (by omega), if_neg (by omega), if_pos (by omega)]; exact zA.2.2.1) | (rw [if_neg (by omega), if_neg (by omega), if_neg (by omega)]; by_cases zd : pD σ.1.1 σ.1.2.1 σ.1.2.2 w ((bgs σ.1.1 σ.1.2.1 σ.1.2.2 w).getD i.toNat 0) = 0; (rw [if_neg (by omega)] at er; rw [if_pos zd]; omega); (rw [if_pos (by omega)] at er; rw [if_neg zd]; omega))
              · refine g_aload_n hX d_Mo_part_75 rfl ?_
                refine g_getR hX fl_Mo_28 d_Mo_part_76 ⟨rfl, by decide⟩ rfl rfl ?_
                refine g_iload_n hX d_Mo_part_79 rfl ?_
                refine g_iald hX d_Mo_part_80 ⟨rfl, by decide⟩ (by omega) (fun r_80 => ?_)
                refine g_goto 89 hX d_Mo_part_81 (by decide) ?_
                refine g_iret hX hR d_Mo_part_89 (by omega) ?_
                refine ⟨?_, hF.mr h, hF.lo⟩; unfold q_part bg lP dP; rw [if_neg (by omega), if_neg (by omega)]; first | (rw [if_pos (by omega)]; exact zA.1) | (rw [if_neg (by omega), if_pos (by omega)]; exact zA.2.1) | (rw [if_neg (by omega), if_neg (by omega), if_pos (by omega)]; exact zA.2.2.1) | (rw [if_neg (by omega), if_neg (by omega), if_neg (by omega)]; by_cases zd : pD σ.1.1 σ.1.2.1 σ.1.2.2 w ((bgs σ.1.1 σ.1.2.1 σ.1.2.2 w).getD i.toNat 0) = 0; (rw [if_neg (by omega)] at er; rw [if_pos zd]; omega); (rw [if_pos (by omega)] at er; rw [if_neg zd]; omega))
            · refine g_aload_n hX d_Mo_part_61 rfl ?_
              refine g_getR hX fl_Mo_25 d_Mo_part_62 ⟨rfl, by decide⟩ rfl rfl ?_
              refine g_iload_n hX d_Mo_part_65 rfl ?_
              refine g_iald hX d_Mo_part_66 ⟨rfl, by decide⟩ (by omega) (fun r_66 => ?_)
              refine g_goto 89 hX d_Mo_part_67 (by decide) ?_
              refine g_iret hX hR d_Mo_part_89 (by omega) ?_
              refine ⟨?_, hF.mr h, hF.lo⟩; unfold q_part bg lP dP; rw [if_neg (by omega), if_neg (by omega)]; first | (rw [if_pos (by omega)]; exact zA.1) | (rw [if_neg (by omega), if_pos (by omega)]; exact zA.2.1) | (rw [if_neg (by omega), if_neg (by omega), if_pos (by omega)]; exact zA.2.2.1) | (rw [if_neg (by omega), if_neg (by omega), if_neg (by omega)]; by_cases zd : pD σ.1.1 σ.1.2.1 σ.1.2.2 w ((bgs σ.1.1 σ.1.2.1 σ.1.2.2 w).getD i.toNat 0) = 0; (rw [if_neg (by omega)] at er; rw [if_pos zd]; omega); (rw [if_pos (by omega)] at er; rw [if_neg zd]; omega))
          · refine g_aload_n hX d_Mo_part_47 rfl ?_
            refine g_getR hX fl_Mo_22 d_Mo_part_48 ⟨rfl, by decide⟩ rfl rfl ?_
            refine g_iload_n hX d_Mo_part_51 rfl ?_
            refine g_iald hX d_Mo_part_52 ⟨rfl, by decide⟩ (by omega) (fun r_52 => ?_)
            refine g_goto 89 hX d_Mo_part_53 (by decide) ?_
            refine g_iret hX hR d_Mo_part_89 (by omega) ?_
            refine ⟨?_, hF.mr h, hF.lo⟩; unfold q_part bg lP dP; rw [if_neg (by omega), if_neg (by omega)]; first | (rw [if_pos (by omega)]; exact zA.1) | (rw [if_neg (by omega), if_pos (by omega)]; exact zA.2.1) | (rw [if_neg (by omega), if_neg (by omega), if_pos (by omega)]; exact zA.2.2.1) | (rw [if_neg (by omega), if_neg (by omega), if_neg (by omega)]; by_cases zd : pD σ.1.1 σ.1.2.1 σ.1.2.2 w ((bgs σ.1.1 σ.1.2.1 σ.1.2.2 w).getD i.toNat 0) = 0; (rw [if_neg (by omega)] at er; rw [if_pos zd]; omega); (rw [if_pos (by omega)] at er; rw [if_neg zd]; omega))
        · refine g_sipush hX d_Mo_part_39 rfl ?_
          refine g_iret hX hR d_Mo_part_42 (by omega) ?_
          refine ⟨?_, hF.mr h, hF.lo⟩; unfold q_part bg; rw [if_neg (by omega), if_pos (by omega)]
      · have z2 := ite_eq h_19
        refine g_sipush hX d_Mo_part_22 rfl ?_
        refine g_iret hX hR d_Mo_part_25 (by omega) ?_
        refine ⟨?_, h, fun _ _ => rfl⟩; unfold q_part; rw [if_pos (by omega)]
theorem c_Mo_partAt {Γ : gX} {l : Launch} {M : mI} {σ : sG} {w p : Int} (h : MR M σ) (ok : OkV σ) (hw : iR w) (hp : iR p) : Cn Γ l i_Mo_partAt R0 51 [.ref (gb Γ + 37), vI w, vI p] M (pI (fun r M' => r = q_partAt σ w p ∧ MR M' σ ∧ ∀ a, a < 37 → M' a = M a)) := by
  refine cn_intro (L := [some (.ref (gb Γ + 37)), some (vI w), some (vI p), none]) yo_Mo_partAt.1 rfl (Nat.le_of_ble_eq_true rfl) rfl (fun X hX hR => ?_)
  obtain ⟨v1, v2, v3, v4, v5⟩ := id h.1
  have zlb := bgs_len σ.1.1 σ.1.2.1 σ.1.2.2 w v2
  have LOOP : ∀ (k i : Nat) (M1 : mI), LM M1 σ.1.1 σ.1.2.1 σ.1.2.2 w → FrL M1 M → ((0 ≤ w ∧ w ≤ 2) ∧ (0 ≤ p ∧ p < σ.1.1)) → (bgs σ.1.1 σ.1.2.1 σ.1.2.2 w).length ≤ i + k + 1 → i < (bgs σ.1.1 σ.1.2.1 σ.1.2.2 w).length ∨ i = 0 → ((ixF (bgs σ.1.1 σ.1.2.1 σ.1.2.2 w) p k i : Nat) : Int) = ixP σ.1.1 σ.1.2.1 σ.1.2.2 w p → G Γ X 4 (R0, 51, 0, 0) 28 [some (.ref (gb Γ + 37)), some (vI w), some (vI p), some (vI i)] [] M1 := by
    intro k
    induction k with
    | zero =>
      intro i M1 hL hF hz hk hi hf
      have e10 := hL.1
      refine g_iload_n hX d_Mo_partAt_28 rfl ?_
      refine g_iconst hX d_Mo_partAt_29 ?_
      refine g_iadd hX d_Mo_partAt_30 ?_
      refine g_aload_n hX d_Mo_partAt_31 rfl ?_
      refine g_getI hX fl_Mo_98 d_Mo_partAt_32 10 ⟨rfl, by decide⟩ rfl rfl (fun r_32 => ?_)
      refine g_icmp_ge 56 hX d_Mo_partAt_35 (by decide) (by omega) (by omega) (fun h_35 => ?_) (fun h_35 => ?_)
      · refine g_iload_n hX d_Mo_partAt_56 rfl ?_
        refine g_iret hX hR d_Mo_partAt_57 (by omega) ?_
        refine ⟨?_, hF.mr h, hF.lo⟩; unfold q_partAt; rw [if_neg (by omega)]; exact hf
      · exact absurd h_35 (by omega)
    | succ k ih =>
      intro i M1 hL hF hz hk hi hf
      have e10 := hL.1
      rw [ixF_succ] at hf
      refine g_iload_n hX d_Mo_partAt_28 rfl ?_
      refine g_iconst hX d_Mo_partAt_29 ?_
      refine g_iadd hX d_Mo_partAt_30 ?_
      refine g_aload_n hX d_Mo_partAt_31 rfl ?_
      refine g_getI hX fl_Mo_98 d_Mo_partAt_32 10 ⟨rfl, by decide⟩ rfl rfl (fun r_32 => ?_)
      refine g_icmp_ge 56 hX d_Mo_partAt_35 (by decide) (by omega) (by omega) (fun h_35 => ?_) (fun h_35 => ?_)
      · rw [if_neg (by omega)] at hf
        refine g_iload_n hX d_Mo_partAt_56 rfl ?_
        refine g_iret hX hR d_Mo_partAt_57 (by omega) ?_
        refine ⟨?_, hF.mr h, hF.lo⟩; unfold q_partAt; rw [if_neg (by omega)]; exact hf
      · have zA := (hL.at ok.1.2.1 (k := i + 1) (by omega)).1
        rw [show ((i + 1 : Nat) : Int) = (i : Int) + 1 by omega] at zA
        refine g_aload_n hX d_Mo_partAt_38 rfl ?_
        refine g_getR hX fl_Mo_22 d_Mo_partAt_39 ⟨rfl, by decide⟩ rfl rfl ?_
        refine g_iload_n hX d_Mo_partAt_42 rfl ?_
        refine g_iconst hX d_Mo_partAt_43 ?_
        refine g_iadd hX d_Mo_partAt_44 ?_
        refine g_iald hX d_Mo_partAt_45 ⟨rfl, by decide⟩ (by omega) (fun r_45 => ?_)
        refine g_iload_n hX d_Mo_partAt_46 rfl ?_
        refine g_icmp_gt 56 hX d_Mo_partAt_47 (by decide) (by omega) (by omega) (fun h_47 => ?_) (fun h_47 => ?_)
        · rw [if_neg (by omega)] at hf
          refine g_iload_n hX d_Mo_partAt_56 rfl ?_
          refine g_iret hX hR d_Mo_partAt_57 (by omega) ?_
          refine ⟨?_, hF.mr h, hF.lo⟩; unfold q_partAt; rw [if_neg (by omega)]; exact hf
        · rw [if_pos (by omega)] at hf
          refine g_iinc hX d_Mo_partAt_50 rfl (by decide) ?_
          refine g_goto 28 hX d_Mo_partAt_53 (by decide) ?_
          rw [show (i : Int) + 1 = ((i + 1 : Nat) : Int) by omega]
          exact ih (i + 1) _ hL hF hz (by omega) (by omega) hf
  refine g_iload_n hX d_Mo_partAt_0 rfl ?_
  refine g_iconst hX d_Mo_partAt_1 ?_
  refine g_iconst hX d_Mo_partAt_2 ?_
  refine g_callS hX yo_Mo_in q_732 d_Mo_partAt_3 (c_Mo_in hw (by omega) (by omega)) rfl rfl (by decide) (Nat.le_of_ble_eq_true rfl) ⟨Nat.zero_le _, Nat.zero_le _⟩ (k_int fun r_3 M_3 ir_3 hp_3 => ?_)
  obtain ⟨er_3, eM_3⟩ := hp_3; replace er_3 := er_3.symm; replace eM_3 := eM_3.symm; subst er_3; subst eM_3
  refine g_if_eq 17 hX d_Mo_partAt_6 (by decide) (by first | omega | exact ite_iR) (fun h_6 => ?_) (fun h_6 => ?_)
  · have z1 := ite_eq h_6
    refine g_sipush hX d_Mo_partAt_17 rfl ?_
    refine g_iret hX hR d_Mo_partAt_20 (by omega) ?_
    refine ⟨?_, h, fun _ _ => rfl⟩; unfold q_partAt; rw [if_pos (by omega)]
  · have z1 := ite_ne h_6
    refine g_aload_n hX d_Mo_partAt_9 rfl ?_
    refine g_iload_n hX d_Mo_partAt_10 rfl ?_
    refine g_callV hX yo_Mo_isPlace q_747 d_Mo_partAt_11 (c_Mo_isPlace hp) rfl rfl ⟨rfl, by decide⟩ rfl (by decide) (Nat.le_of_ble_eq_true rfl) ⟨Nat.zero_le _, Nat.zero_le _⟩ (k_int fun r_11 M_11 ir_11 hp_11 => ?_)
    obtain ⟨er_11, eM_11⟩ := hp_11; replace er_11 := er_11.symm; replace eM_11 := eM_11.symm; subst er_11; subst eM_11
    refine g_if_ne 21 hX d_Mo_partAt_14 (by decide) (by first | omega | exact ite_iR) (fun h_14 => ?_) (fun h_14 => ?_)
    · have z2 := ite_ne h_14
      rw [v1] at z2
      refine g_aload_n hX d_Mo_partAt_21 rfl ?_
      refine g_iload_n hX d_Mo_partAt_22 rfl ?_
      refine g_callV hX yo_Mo_lays q_805 d_Mo_partAt_23 (c_Mo_lays h.1 ok.1.2.1 z1) rfl rfl ⟨rfl, by decide⟩ rfl (by decide) (Nat.le_of_ble_eq_true rfl) ⟨Nat.zero_le _, Nat.zero_le _⟩ (k_void fun M_23 hp_23 => ?_)
      obtain ⟨hL, hF⟩ := hp_23
      refine g_iconst hX d_Mo_partAt_26 ?_
      refine g_istore_n hX d_Mo_partAt_27 (by decide) ?_
      exact LOOP (bgs σ.1.1 σ.1.2.1 σ.1.2.2 w).length 0 _ hL hF ⟨z1, z2⟩ (by omega) (Or.inr rfl) rfl
    · have z2 := ite_eq h_14
      rw [v1] at z2
      refine g_sipush hX d_Mo_partAt_17 rfl ?_
      refine g_iret hX hR d_Mo_partAt_20 (by omega) ?_
      refine ⟨?_, h, fun _ _ => rfl⟩; unfold q_partAt; rw [if_pos (by omega)]
theorem c_Mo_total {Γ : gX} {l : Launch} {M : mI} {σ : sG} {w k : Int} (h : MR M σ) (ok : OkV σ) (hw : iR w) (hk : iR k) : Cn Γ l i_Mo_total R0 51 [.ref (gb Γ + 37), vI w, vI k] M (pI (fun r M' => r = q_total σ w k ∧ MR M' σ ∧ ∀ a, a < 37 → M' a = M a)) := by
  refine cn_intro (L := [some (.ref (gb Γ + 37)), some (vI w), some (vI k), none, none, none, none, none, none]) yo_Mo_total.1 rfl (Nat.le_of_ble_eq_true rfl) rfl (fun X hX hR => ?_)
  obtain ⟨v1, v2, v3, v4, v5⟩ := id h.1
  have zlb := bgs_len σ.1.1 σ.1.2.1 σ.1.2.2 w v2
  have LOOP : ∀ (q i : Nat) (a1 a2 a3 : Int) (M1 : mI) (o8 : Option Value), ((0 ≤ w ∧ w ≤ 2) ∧ (0 ≤ k ∧ k ≤ 5)) → iR (cS σ w) → iR (σ.1.1 * σ.1.2.2 3 - cS σ w) → LM M1 σ.1.1 σ.1.2.1 σ.1.2.2 w → FrL M1 M → (bgs σ.1.1 σ.1.2.1 σ.1.2.2 w).length - i = q → i ≤ (bgs σ.1.1 σ.1.2.1 σ.1.2.2 w).length → a1 = (stF (pD σ.1.1 σ.1.2.1 σ.1.2.2 w) (pL σ.1.1 σ.1.2.1 σ.1.2.2 w) ((bgs σ.1.1 σ.1.2.1 σ.1.2.2 w).take i)).1 → a2 = (stF (pD σ.1.1 σ.1.2.1 σ.1.2.2 w) (pL σ.1.1 σ.1.2.1 σ.1.2.2 w) ((bgs σ.1.1 σ.1.2.1 σ.1.2.2 w).take i)).2.1 → a3 = (stF (pD σ.1.1 σ.1.2.1 σ.1.2.2 w) (pL σ.1.1 σ.1.2.1 σ.1.2.2 w) ((bgs σ.1.1 σ.1.2.1 σ.1.2.2 w).take i)).2.2 → ((0 ≤ a1 ∧ a1 ≤ i) ∧ (0 ≤ a2 ∧ a2 ≤ 20 * i) ∧ (0 ≤ a3 ∧ a3 ≤ 20)) → G Γ X 9 (R0, 51, 0, 0) 40 [some (.ref (gb Γ + 37)), some (vI w), some (vI k), some (vI (cS σ w)), some (vI a1), some (vI a2), some (vI a3), some (vI i), o8] [] M1 := by
    intro q
    induction q with
    | zero =>
      intro i a1 a2 a3 M1 o8 hz hz2 hz3 hL hF hq hi h1 h2 h3 hb
      have e10 := hL.1
      have e38 : M1 38 = M 38 := hF.1 38 (by decide) (by decide)
      obtain ⟨s0, s1, s2, s3, s4⟩ := (h.1.to e38).s
      rw [List.take_of_length_le (by omega)] at h1 h2 h3
      refine g_iload hX d_Mo_total_40 rfl ?_
      refine g_aload_n hX d_Mo_total_42 rfl ?_
      refine g_getI hX fl_Mo_98 d_Mo_total_43 10 ⟨rfl, by decide⟩ rfl rfl (fun r_43 => ?_)
      refine g_icmp_ge 139 hX d_Mo_total_46 (by decide) (by omega) (by omega) (fun h_46 => ?_) (fun h_46 => ?_)
      · refine g_iload_n hX d_Mo_total_139 rfl ?_
        by_cases z_140_0 : k = 0
        · refine g_tswI 0 176 hX d_Mo_total_140 (by omega) (by omega) (by omega) rfl (by decide) ?_
          refine g_aload_n hX d_Mo_total_176 rfl ?_
          refine g_getI hX fl_Mo_98 d_Mo_total_177 10 ⟨rfl, by decide⟩ rfl rfl (fun r_177 => ?_)
          refine g_iret hX hR d_Mo_total_180 (by omega) ?_
          refine ⟨?_, hF.mr h, hF.lo⟩; unfold q_total; rw [if_neg (by omega), if_pos (by omega)]; exact e10
        by_cases z_140_1 : k = 1
        · refine g_tswI 1 181 hX d_Mo_total_140 (by omega) (by omega) (by omega) rfl (by decide) ?_
          refine g_iload hX d_Mo_total_181 rfl ?_
          refine g_iret hX hR d_Mo_total_183 (by omega) ?_
          refine ⟨?_, hF.mr h, hF.lo⟩; unfold q_total; rw [if_neg (by omega), if_neg (by omega), if_pos (by omega)]; exact h1
        by_cases z_140_2 : k = 2
        · refine g_tswI 2 184 hX d_Mo_total_140 (by omega) (by omega) (by omega) rfl (by decide) ?_
          refine g_iload_n hX d_Mo_total_184 rfl ?_
          refine g_iret hX hR d_Mo_total_185 (by omega) ?_
          refine ⟨?_, hF.mr h, hF.lo⟩; unfold q_total; rw [if_neg (by omega), if_neg (by omega), if_neg (by omega), if_pos (by omega)]
        by_cases z_140_3 : k = 3
        · refine g_tswI 3 186 hX d_Mo_total_140 (by omega) (by omega) (by omega) rfl (by decide) ?_
          refine g_aload_n hX d_Mo_total_186 rfl ?_
          refine g_getR hX fl_Mo_7 d_Mo_total_187 ⟨rfl, by decide⟩ rfl rfl ?_
          refine g_iconst hX d_Mo_total_190 ?_
          refine g_iald hX d_Mo_total_191 ⟨rfl, by decide⟩ (by omega) (fun r_191 => ?_)
          refine g_aload_n hX d_Mo_total_192 rfl ?_
          refine g_getR hX fl_Mo_7 d_Mo_total_193 ⟨rfl, by decide⟩ rfl rfl ?_
          refine g_iconst hX d_Mo_total_196 ?_
          refine g_iald hX d_Mo_total_197 ⟨rfl, by decide⟩ (by omega) (fun r_197 => ?_)
          refine g_imul hX d_Mo_total_198 ?_
          refine g_iload_n hX d_Mo_total_199 rfl ?_
          refine g_isub hX d_Mo_total_200 ?_
          rw [s3, show M1 38 0 = σ.1.1 by rw [e38]; exact v1]
          refine g_iret hX hR d_Mo_total_201 hz3 ?_
          refine ⟨?_, hF.mr h, hF.lo⟩; unfold q_total; rw [if_neg (by omega), if_neg (by omega), if_neg (by omega), if_neg (by omega), if_pos (by omega)]
        by_cases z_140_4 : k = 4
        · refine g_tswI 4 202 hX d_Mo_total_140 (by omega) (by omega) (by omega) rfl (by decide) ?_
          refine g_iload hX d_Mo_total_202 rfl ?_
          refine g_iret hX hR d_Mo_total_204 (by omega) ?_
          refine ⟨?_, hF.mr h, hF.lo⟩; unfold q_total; rw [if_neg (by omega), if_neg (by omega), if_neg (by omega), if_neg (by omega), if_neg (by omega), if_pos (by omega)]; exact h2
        refine g_tswO 205 hX d_Mo_total_140 (by omega) (by omega) (by decide) ?_
        refine g_iload hX d_Mo_total_205 rfl ?_
        refine g_iret hX hR d_Mo_total_207 (by omega) ?_
        refine ⟨?_, hF.mr h, hF.lo⟩; unfold q_total; rw [if_neg (by omega), if_neg (by omega), if_neg (by omega), if_neg (by omega), if_neg (by omega), if_neg (by omega)]; exact h3
      · exact absurd h_46 (by omega)
    | succ q ih =>
      intro i a1 a2 a3 M1 o8 hz hz2 hz3 hL hF hq hi h1 h2 h3 hb
      have e10 := hL.1
      have hk2 : i < (bgs σ.1.1 σ.1.2.1 σ.1.2.2 w).length := by omega
      have zA := hL.at ok.1.2.1 hk2
      have zB := pL_b (x := σ.1.2.1) ok.1.2.1 w _ zA.2.2.2.1 zA.2.2.2.2
      have zt := take_snoc hk2
      refine g_iload hX d_Mo_total_40 rfl ?_
      refine g_aload_n hX d_Mo_total_42 rfl ?_
      refine g_getI hX fl_Mo_98 d_Mo_total_43 10 ⟨rfl, by decide⟩ rfl rfl (fun r_43 => ?_)
      refine g_icmp_ge 139 hX d_Mo_total_46 (by decide) (by omega) (by omega) (fun h_46 => ?_) (fun h_46 => ?_)
      · exact absurd h_46 (by omega)
      · refine g_aload_n hX d_Mo_total_49 rfl ?_
        refine g_getR hX fl_Mo_28 d_Mo_total_50 ⟨rfl, by decide⟩ rfl rfl ?_
        refine g_iload hX d_Mo_total_53 rfl ?_
        refine g_iald hX d_Mo_total_55 ⟨rfl, by decide⟩ (by omega) (fun r_55 => ?_)
        refine g_if_le 63 hX d_Mo_total_56 (by decide) (by first | omega | exact ite_iR) (fun h_56 => ?_) (fun h_56 => ?_)
        · have zS := stF_app (pD σ.1.1 σ.1.2.1 σ.1.2.2 w) (pL σ.1.1 σ.1.2.1 σ.1.2.2 w) ((bgs σ.1.1 σ.1.2.1 σ.1.2.2 w).take i) ((bgs σ.1.1 σ.1.2.1 σ.1.2.2 w).getD i 0)
          rw [← zt, stS_0 (by omega)] at zS
          refine g_iconst hX d_Mo_total_63 ?_
          refine g_istore hX d_Mo_total_64 (by decide) ?_
          refine g_iload hX d_Mo_total_66 rfl ?_
          refine g_iload hX d_Mo_total_68 rfl ?_
          refine g_if_eq 77 hX d_Mo_total_70 (by decide) (by first | omega | exact ite_iR) (fun h_70 => ?_) (fun h_70 => ?_)
          · refine g_iconst hX d_Mo_total_77 ?_
            refine g_iadd hX d_Mo_total_78 ?_
            refine g_istore hX d_Mo_total_79 (by decide) ?_
            refine g_iload hX d_Mo_total_81 rfl ?_
            refine g_iload hX d_Mo_total_83 rfl ?_
            refine g_if_eq 98 hX d_Mo_total_85 (by decide) (by first | omega | exact ite_iR) (fun h_85 => ?_) (fun h_85 => ?_)
            · refine g_iconst hX d_Mo_total_98 ?_
              refine g_iadd hX d_Mo_total_99 ?_
              refine g_istore hX d_Mo_total_100 (by decide) ?_
              refine g_iload hX d_Mo_total_102 rfl ?_
              refine g_if_eq 129 hX d_Mo_total_104 (by decide) (by first | omega | exact ite_iR) (fun h_104 => ?_) (fun h_104 => ?_)
              · refine g_iload hX d_Mo_total_129 rfl ?_
                refine g_istore hX d_Mo_total_131 (by decide) ?_
                refine g_iinc hX d_Mo_total_133 rfl (by decide) ?_
                refine g_goto 40 hX d_Mo_total_136 (by decide) ?_
                first | (exfalso; omega) | exact ih (i + 1) _ _ _ _ _ hz hz2 hz3 hL hF (by omega) (by omega) (by rw [zS]; first | omega | (dsimp only; omega)) (by rw [zS]; first | omega | (dsimp only; omega)) (by rw [zS]; first | omega | (dsimp only; omega)) (by omega)
              · refine g_aload_n hX d_Mo_total_107 rfl ?_
                refine g_getR hX fl_Mo_25 d_Mo_total_108 ⟨rfl, by decide⟩ rfl rfl ?_
                refine g_iload hX d_Mo_total_111 rfl ?_
                refine g_iald hX d_Mo_total_113 ⟨rfl, by decide⟩ (by omega) (fun r_113 => ?_)
                refine g_iload hX d_Mo_total_114 rfl ?_
                refine g_icmp_le 129 hX d_Mo_total_116 (by decide) (by omega) (by omega) (fun h_116 => ?_) (fun h_116 => ?_)
                · refine g_iload hX d_Mo_total_129 rfl ?_
                  refine g_istore hX d_Mo_total_131 (by decide) ?_
                  refine g_iinc hX d_Mo_total_133 rfl (by decide) ?_
                  refine g_goto 40 hX d_Mo_total_136 (by decide) ?_
                  first | (exfalso; omega) | exact ih (i + 1) _ _ _ _ _ hz hz2 hz3 hL hF (by omega) (by omega) (by rw [zS]; first | omega | (dsimp only; omega)) (by rw [zS]; first | omega | (dsimp only; omega)) (by rw [zS]; first | omega | (dsimp only; omega)) (by omega)
                · refine g_aload_n hX d_Mo_total_119 rfl ?_
                  refine g_getR hX fl_Mo_25 d_Mo_total_120 ⟨rfl, by decide⟩ rfl rfl ?_
                  refine g_iload hX d_Mo_total_123 rfl ?_
                  refine g_iald hX d_Mo_total_125 ⟨rfl, by decide⟩ (by omega) (fun r_125 => ?_)
                  refine g_goto 131 hX d_Mo_total_126 (by decide) ?_
                  refine g_istore hX d_Mo_total_131 (by decide) ?_
                  refine g_iinc hX d_Mo_total_133 rfl (by decide) ?_
                  refine g_goto 40 hX d_Mo_total_136 (by decide) ?_
                  first | (exfalso; omega) | exact ih (i + 1) _ _ _ _ _ hz hz2 hz3 hL hF (by omega) (by omega) (by rw [zS]; first | omega | (dsimp only; omega)) (by rw [zS]; first | omega | (dsimp only; omega)) (by rw [zS]; first | omega | (dsimp only; omega)) (by omega)
            · refine g_aload_n hX d_Mo_total_88 rfl ?_
              refine g_getR hX fl_Mo_25 d_Mo_total_89 ⟨rfl, by decide⟩ rfl rfl ?_
              refine g_iload hX d_Mo_total_92 rfl ?_
              refine g_iald hX d_Mo_total_94 ⟨rfl, by decide⟩ (by omega) (fun r_94 => ?_)
              refine g_goto 99 hX d_Mo_total_95 (by decide) ?_
              refine g_iadd hX d_Mo_total_99 ?_
              refine g_istore hX d_Mo_total_100 (by decide) ?_
              refine g_iload hX d_Mo_total_102 rfl ?_
              refine g_if_eq 129 hX d_Mo_total_104 (by decide) (by first | omega | exact ite_iR) (fun h_104 => ?_) (fun h_104 => ?_)
              · refine g_iload hX d_Mo_total_129 rfl ?_
                refine g_istore hX d_Mo_total_131 (by decide) ?_
                refine g_iinc hX d_Mo_total_133 rfl (by decide) ?_
                refine g_goto 40 hX d_Mo_total_136 (by decide) ?_
                first | (exfalso; omega) | exact ih (i + 1) _ _ _ _ _ hz hz2 hz3 hL hF (by omega) (by omega) (by rw [zS]; first | omega | (dsimp only; omega)) (by rw [zS]; first | omega | (dsimp only; omega)) (by rw [zS]; first | omega | (dsimp only; omega)) (by omega)
              · refine g_aload_n hX d_Mo_total_107 rfl ?_
                refine g_getR hX fl_Mo_25 d_Mo_total_108 ⟨rfl, by decide⟩ rfl rfl ?_
                refine g_iload hX d_Mo_total_111 rfl ?_
                refine g_iald hX d_Mo_total_113 ⟨rfl, by decide⟩ (by omega) (fun r_113 => ?_)
                refine g_iload hX d_Mo_total_114 rfl ?_
                refine g_icmp_le 129 hX d_Mo_total_116 (by decide) (by omega) (by omega) (fun h_116 => ?_) (fun h_116 => ?_)
                · refine g_iload hX d_Mo_total_129 rfl ?_
                  refine g_istore hX d_Mo_total_131 (by decide) ?_
                  refine g_iinc hX d_Mo_total_133 rfl (by decide) ?_
                  refine g_goto 40 hX d_Mo_total_136 (by decide) ?_
                  first | (exfalso; omega) | exact ih (i + 1) _ _ _ _ _ hz hz2 hz3 hL hF (by omega) (by omega) (by rw [zS]; first | omega | (dsimp only; omega)) (by rw [zS]; first | omega | (dsimp only; omega)) (by rw [zS]; first | omega | (dsimp only; omega)) (by omega)
                · refine g_aload_n hX d_Mo_total_119 rfl ?_
                  refine g_getR hX fl_Mo_25 d_Mo_total_120 ⟨rfl, by decide⟩ rfl rfl ?_
                  refine g_iload hX d_Mo_total_123 rfl ?_
                  refine g_iald hX d_Mo_total_125 ⟨rfl, by decide⟩ (by omega) (fun r_125 => ?_)
                  refine g_goto 131 hX d_Mo_total_126 (by decide) ?_
                  refine g_istore hX d_Mo_total_131 (by decide) ?_
                  refine g_iinc hX d_Mo_total_133 rfl (by decide) ?_
                  refine g_goto 40 hX d_Mo_total_136 (by decide) ?_
                  first | (exfalso; omega) | exact ih (i + 1) _ _ _ _ _ hz hz2 hz3 hL hF (by omega) (by omega) (by rw [zS]; first | omega | (dsimp only; omega)) (by rw [zS]; first | omega | (dsimp only; omega)) (by rw [zS]; first | omega | (dsimp only; omega)) (by omega)
          · refine g_iconst hX d_Mo_total_73 ?_
            refine g_goto 78 hX d_Mo_total_74 (by decide) ?_
            refine g_iadd hX d_Mo_total_78 ?_
            refine g_istore hX d_Mo_total_79 (by decide) ?_
            refine g_iload hX d_Mo_total_81 rfl ?_
            refine g_iload hX d_Mo_total_83 rfl ?_
            refine g_if_eq 98 hX d_Mo_total_85 (by decide) (by first | omega | exact ite_iR) (fun h_85 => ?_) (fun h_85 => ?_)
            · refine g_iconst hX d_Mo_total_98 ?_
              refine g_iadd hX d_Mo_total_99 ?_
              refine g_istore hX d_Mo_total_100 (by decide) ?_
              refine g_iload hX d_Mo_total_102 rfl ?_
              refine g_if_eq 129 hX d_Mo_total_104 (by decide) (by first | omega | exact ite_iR) (fun h_104 => ?_) (fun h_104 => ?_)
              · refine g_iload hX d_Mo_total_129 rfl ?_
                refine g_istore hX d_Mo_total_131 (by decide) ?_
                refine g_iinc hX d_Mo_total_133 rfl (by decide) ?_
                refine g_goto 40 hX d_Mo_total_136 (by decide) ?_
                first | (exfalso; omega) | exact ih (i + 1) _ _ _ _ _ hz hz2 hz3 hL hF (by omega) (by omega) (by rw [zS]; first | omega | (dsimp only; omega)) (by rw [zS]; first | omega | (dsimp only; omega)) (by rw [zS]; first | omega | (dsimp only; omega)) (by omega)
              · refine g_aload_n hX d_Mo_total_107 rfl ?_
                refine g_getR hX fl_Mo_25 d_Mo_total_108 ⟨rfl, by decide⟩ rfl rfl ?_
                refine g_iload hX d_Mo_total_111 rfl ?_
                refine g_iald hX d_Mo_total_113 ⟨rfl, by decide⟩ (by omega) (fun r_113 => ?_)
                refine g_iload hX d_Mo_total_114 rfl ?_
                refine g_icmp_le 129 hX d_Mo_total_116 (by decide) (by omega) (by omega) (fun h_116 => ?_) (fun h_116 => ?_)
                · refine g_iload hX d_Mo_total_129 rfl ?_
                  refine g_istore hX d_Mo_total_131 (by decide) ?_
                  refine g_iinc hX d_Mo_total_133 rfl (by decide) ?_
                  refine g_goto 40 hX d_Mo_total_136 (by decide) ?_
                  first | (exfalso; omega) | exact ih (i + 1) _ _ _ _ _ hz hz2 hz3 hL hF (by omega) (by omega) (by rw [zS]; first | omega | (dsimp only; omega)) (by rw [zS]; first | omega | (dsimp only; omega)) (by rw [zS]; first | omega | (dsimp only; omega)) (by omega)
                · refine g_aload_n hX d_Mo_total_119 rfl ?_
                  refine g_getR hX fl_Mo_25 d_Mo_total_120 ⟨rfl, by decide⟩ rfl rfl ?_
                  refine g_iload hX d_Mo_total_123 rfl ?_
                  refine g_iald hX d_Mo_total_125 ⟨rfl, by decide⟩ (by omega) (fun r_125 => ?_)
                  refine g_goto 131 hX d_Mo_total_126 (by decide) ?_
                  refine g_istore hX d_Mo_total_131 (by decide) ?_
                  refine g_iinc hX d_Mo_total_133 rfl (by decide) ?_
                  refine g_goto 40 hX d_Mo_total_136 (by decide) ?_
                  first | (exfalso; omega) | exact ih (i + 1) _ _ _ _ _ hz hz2 hz3 hL hF (by omega) (by omega) (by rw [zS]; first | omega | (dsimp only; omega)) (by rw [zS]; first | omega | (dsimp only; omega)) (by rw [zS]; first | omega | (dsimp only; omega)) (by omega)
            · refine g_aload_n hX d_Mo_total_88 rfl ?_
              refine g_getR hX fl_Mo_25 d_Mo_total_89 ⟨rfl, by decide⟩ rfl rfl ?_
              refine g_iload hX d_Mo_total_92 rfl ?_
              refine g_iald hX d_Mo_total_94 ⟨rfl, by decide⟩ (by omega) (fun r_94 => ?_)
              refine g_goto 99 hX d_Mo_total_95 (by decide) ?_
              refine g_iadd hX d_Mo_total_99 ?_
              refine g_istore hX d_Mo_total_100 (by decide) ?_
              refine g_iload hX d_Mo_total_102 rfl ?_
              refine g_if_eq 129 hX d_Mo_total_104 (by decide) (by first | omega | exact ite_iR) (fun h_104 => ?_) (fun h_104 => ?_)
              · refine g_iload hX d_Mo_total_129 rfl ?_
                refine g_istore hX d_Mo_total_131 (by decide) ?_
                refine g_iinc hX d_Mo_total_133 rfl (by decide) ?_
                refine g_goto 40 hX d_Mo_total_136 (by decide) ?_
                first | (exfalso; omega) | exact ih (i + 1) _ _ _ _ _ hz hz2 hz3 hL hF (by omega) (by omega) (by rw [zS]; first | omega | (dsimp only; omega)) (by rw [zS]; first | omega | (dsimp only; omega)) (by rw [zS]; first | omega | (dsimp only; omega)) (by omega)
              · refine g_aload_n hX d_Mo_total_107 rfl ?_
                refine g_getR hX fl_Mo_25 d_Mo_total_108 ⟨rfl, by decide⟩ rfl rfl ?_
                refine g_iload hX d_Mo_total_111 rfl ?_
                refine g_iald hX d_Mo_total_113 ⟨rfl, by decide⟩ (by omega) (fun r_113 => ?_)
                refine g_iload hX d_Mo_total_114 rfl ?_
                refine g_icmp_le 129 hX d_Mo_total_116 (by decide) (by omega) (by omega) (fun h_116 => ?_) (fun h_116 => ?_)
                · refine g_iload hX d_Mo_total_129 rfl ?_
                  refine g_istore hX d_Mo_total_131 (by decide) ?_
                  refine g_iinc hX d_Mo_total_133 rfl (by decide) ?_
                  refine g_goto 40 hX d_Mo_total_136 (by decide) ?_
                  first | (exfalso; omega) | exact ih (i + 1) _ _ _ _ _ hz hz2 hz3 hL hF (by omega) (by omega) (by rw [zS]; first | omega | (dsimp only; omega)) (by rw [zS]; first | omega | (dsimp only; omega)) (by rw [zS]; first | omega | (dsimp only; omega)) (by omega)
                · refine g_aload_n hX d_Mo_total_119 rfl ?_
                  refine g_getR hX fl_Mo_25 d_Mo_total_120 ⟨rfl, by decide⟩ rfl rfl ?_
                  refine g_iload hX d_Mo_total_123 rfl ?_
                  refine g_iald hX d_Mo_total_125 ⟨rfl, by decide⟩ (by omega) (fun r_125 => ?_)
                  refine g_goto 131 hX d_Mo_total_126 (by decide) ?_
                  refine g_istore hX d_Mo_total_131 (by decide) ?_
                  refine g_iinc hX d_Mo_total_133 rfl (by decide) ?_
                  refine g_goto 40 hX d_Mo_total_136 (by decide) ?_
                  first | (exfalso; omega) | exact ih (i + 1) _ _ _ _ _ hz hz2 hz3 hL hF (by omega) (by omega) (by rw [zS]; first | omega | (dsimp only; omega)) (by rw [zS]; first | omega | (dsimp only; omega)) (by rw [zS]; first | omega | (dsimp only; omega)) (by omega)
        · have zS := stF_app (pD σ.1.1 σ.1.2.1 σ.1.2.2 w) (pL σ.1.1 σ.1.2.1 σ.1.2.2 w) ((bgs σ.1.1 σ.1.2.1 σ.1.2.2 w).take i) ((bgs σ.1.1 σ.1.2.1 σ.1.2.2 w).getD i 0)
          rw [← zt, stS_1 (by omega)] at zS
          refine g_iconst hX d_Mo_total_59 ?_
          refine g_goto 64 hX d_Mo_total_60 (by decide) ?_
          refine g_istore hX d_Mo_total_64 (by decide) ?_
          refine g_iload hX d_Mo_total_66 rfl ?_
          refine g_iload hX d_Mo_total_68 rfl ?_
          refine g_if_eq 77 hX d_Mo_total_70 (by decide) (by first | omega | exact ite_iR) (fun h_70 => ?_) (fun h_70 => ?_)
          · refine g_iconst hX d_Mo_total_77 ?_
            refine g_iadd hX d_Mo_total_78 ?_
            refine g_istore hX d_Mo_total_79 (by decide) ?_
            refine g_iload hX d_Mo_total_81 rfl ?_
            refine g_iload hX d_Mo_total_83 rfl ?_
            refine g_if_eq 98 hX d_Mo_total_85 (by decide) (by first | omega | exact ite_iR) (fun h_85 => ?_) (fun h_85 => ?_)
            · refine g_iconst hX d_Mo_total_98 ?_
              refine g_iadd hX d_Mo_total_99 ?_
              refine g_istore hX d_Mo_total_100 (by decide) ?_
              refine g_iload hX d_Mo_total_102 rfl ?_
              refine g_if_eq 129 hX d_Mo_total_104 (by decide) (by first | omega | exact ite_iR) (fun h_104 => ?_) (fun h_104 => ?_)
              · refine g_iload hX d_Mo_total_129 rfl ?_
                refine g_istore hX d_Mo_total_131 (by decide) ?_
                refine g_iinc hX d_Mo_total_133 rfl (by decide) ?_
                refine g_goto 40 hX d_Mo_total_136 (by decide) ?_
                first | (exfalso; omega) | exact ih (i + 1) _ _ _ _ _ hz hz2 hz3 hL hF (by omega) (by omega) (by rw [zS]; first | omega | (dsimp only; omega)) (by rw [zS]; first | omega | (dsimp only; omega)) (by rw [zS]; first | omega | (dsimp only; omega)) (by omega)
              · refine g_aload_n hX d_Mo_total_107 rfl ?_
                refine g_getR hX fl_Mo_25 d_Mo_total_108 ⟨rfl, by decide⟩ rfl rfl ?_
                refine g_iload hX d_Mo_total_111 rfl ?_
                refine g_iald hX d_Mo_total_113 ⟨rfl, by decide⟩ (by omega) (fun r_113 => ?_)
                refine g_iload hX d_Mo_total_114 rfl ?_
                refine g_icmp_le 129 hX d_Mo_total_116 (by decide) (by omega) (by omega) (fun h_116 => ?_) (fun h_116 => ?_)
                · refine g_iload hX d_Mo_total_129 rfl ?_
                  refine g_istore hX d_Mo_total_131 (by decide) ?_
                  refine g_iinc hX d_Mo_total_133 rfl (by decide) ?_
                  refine g_goto 40 hX d_Mo_total_136 (by decide) ?_
                  first | (exfalso; omega) | exact ih (i + 1) _ _ _ _ _ hz hz2 hz3 hL hF (by omega) (by omega) (by rw [zS]; first | omega | (dsimp only; omega)) (by rw [zS]; first | omega | (dsimp only; omega)) (by rw [zS]; first | omega | (dsimp only; omega)) (by omega)
                · refine g_aload_n hX d_Mo_total_119 rfl ?_
                  refine g_getR hX fl_Mo_25 d_Mo_total_120 ⟨rfl, by decide⟩ rfl rfl ?_
                  refine g_iload hX d_Mo_total_123 rfl ?_
                  refine g_iald hX d_Mo_total_125 ⟨rfl, by decide⟩ (by omega) (fun r_125 => ?_)
                  refine g_goto 131 hX d_Mo_total_126 (by decide) ?_
                  refine g_istore hX d_Mo_total_131 (by decide) ?_
                  refine g_iinc hX d_Mo_total_133 rfl (by decide) ?_
                  refine g_goto 40 hX d_Mo_total_136 (by decide) ?_
                  first | (exfalso; omega) | exact ih (i + 1) _ _ _ _ _ hz hz2 hz3 hL hF (by omega) (by omega) (by rw [zS]; first | omega | (dsimp only; omega)) (by rw [zS]; first | omega | (dsimp only; omega)) (by rw [zS]; first | omega | (dsimp only; omega)) (by omega)
            · refine g_aload_n hX d_Mo_total_88 rfl ?_
              refine g_getR hX fl_Mo_25 d_Mo_total_89 ⟨rfl, by decide⟩ rfl rfl ?_
              refine g_iload hX d_Mo_total_92 rfl ?_
              refine g_iald hX d_Mo_total_94 ⟨rfl, by decide⟩ (by omega) (fun r_94 => ?_)
              refine g_goto 99 hX d_Mo_total_95 (by decide) ?_
              refine g_iadd hX d_Mo_total_99 ?_
              refine g_istore hX d_Mo_total_100 (by decide) ?_
              refine g_iload hX d_Mo_total_102 rfl ?_
              refine g_if_eq 129 hX d_Mo_total_104 (by decide) (by first | omega | exact ite_iR) (fun h_104 => ?_) (fun h_104 => ?_)
              · refine g_iload hX d_Mo_total_129 rfl ?_
                refine g_istore hX d_Mo_total_131 (by decide) ?_
                refine g_iinc hX d_Mo_total_133 rfl (by decide) ?_
                refine g_goto 40 hX d_Mo_total_136 (by decide) ?_
                first | (exfalso; omega) | exact ih (i + 1) _ _ _ _ _ hz hz2 hz3 hL hF (by omega) (by omega) (by rw [zS]; first | omega | (dsimp only; omega)) (by rw [zS]; first | omega | (dsimp only; omega)) (by rw [zS]; first | omega | (dsimp only; omega)) (by omega)
              · refine g_aload_n hX d_Mo_total_107 rfl ?_
                refine g_getR hX fl_Mo_25 d_Mo_total_108 ⟨rfl, by decide⟩ rfl rfl ?_
                refine g_iload hX d_Mo_total_111 rfl ?_
                refine g_iald hX d_Mo_total_113 ⟨rfl, by decide⟩ (by omega) (fun r_113 => ?_)
                refine g_iload hX d_Mo_total_114 rfl ?_
                refine g_icmp_le 129 hX d_Mo_total_116 (by decide) (by omega) (by omega) (fun h_116 => ?_) (fun h_116 => ?_)
                · refine g_iload hX d_Mo_total_129 rfl ?_
                  refine g_istore hX d_Mo_total_131 (by decide) ?_
                  refine g_iinc hX d_Mo_total_133 rfl (by decide) ?_
                  refine g_goto 40 hX d_Mo_total_136 (by decide) ?_
                  first | (exfalso; omega) | exact ih (i + 1) _ _ _ _ _ hz hz2 hz3 hL hF (by omega) (by omega) (by rw [zS]; first | omega | (dsimp only; omega)) (by rw [zS]; first | omega | (dsimp only; omega)) (by rw [zS]; first | omega | (dsimp only; omega)) (by omega)
                · refine g_aload_n hX d_Mo_total_119 rfl ?_
                  refine g_getR hX fl_Mo_25 d_Mo_total_120 ⟨rfl, by decide⟩ rfl rfl ?_
                  refine g_iload hX d_Mo_total_123 rfl ?_
                  refine g_iald hX d_Mo_total_125 ⟨rfl, by decide⟩ (by omega) (fun r_125 => ?_)
                  refine g_goto 131 hX d_Mo_total_126 (by decide) ?_
                  refine g_istore hX d_Mo_total_131 (by decide) ?_
                  refine g_iinc hX d_Mo_total_133 rfl (by decide) ?_
                  refine g_goto 40 hX d_Mo_total_136 (by decide) ?_
                  first | (exfalso; omega) | exact ih (i + 1) _ _ _ _ _ hz hz2 hz3 hL hF (by omega) (by omega) (by rw [zS]; first | omega | (dsimp only; omega)) (by rw [zS]; first | omega | (dsimp only; omega)) (by rw [zS]; first | omega | (dsimp only; omega)) (by omega)
          · refine g_iconst hX d_Mo_total_73 ?_
            refine g_goto 78 hX d_Mo_total_74 (by decide) ?_
            refine g_iadd hX d_Mo_total_78 ?_
            refine g_istore hX d_Mo_total_79 (by decide) ?_
            refine g_iload hX d_Mo_total_81 rfl ?_
            refine g_iload hX d_Mo_total_83 rfl ?_
            refine g_if_eq 98 hX d_Mo_total_85 (by decide) (by first | omega | exact ite_iR) (fun h_85 => ?_) (fun h_85 => ?_)
            · refine g_iconst hX d_Mo_total_98 ?_
              refine g_iadd hX d_Mo_total_99 ?_
              refine g_istore hX d_Mo_total_100 (by decide) ?_
              refine g_iload hX d_Mo_total_102 rfl ?_
              refine g_if_eq 129 hX d_Mo_total_104 (by decide) (by first | omega | exact ite_iR) (fun h_104 => ?_) (fun h_104 => ?_)
              · refine g_iload hX d_Mo_total_129 rfl ?_
                refine g_istore hX d_Mo_total_131 (by decide) ?_
                refine g_iinc hX d_Mo_total_133 rfl (by decide) ?_
                refine g_goto 40 hX d_Mo_total_136 (by decide) ?_
                first | (exfalso; omega) | exact ih (i + 1) _ _ _ _ _ hz hz2 hz3 hL hF (by omega) (by omega) (by rw [zS]; first | omega | (dsimp only; omega)) (by rw [zS]; first | omega | (dsimp only; omega)) (by rw [zS]; first | omega | (dsimp only; omega)) (by omega)
              · refine g_aload_n hX d_Mo_total_107 rfl ?_
                refine g_getR hX fl_Mo_25 d_Mo_total_108 ⟨rfl, by decide⟩ rfl rfl ?_
                refine g_iload hX d_Mo_total_111 rfl ?_
                refine g_iald hX d_Mo_total_113 ⟨rfl, by decide⟩ (by omega) (fun r_113 => ?_)
                refine g_iload hX d_Mo_total_114 rfl ?_
                refine g_icmp_le 129 hX d_Mo_total_116 (by decide) (by omega) (by omega) (fun h_116 => ?_) (fun h_116 => ?_)
                · refine g_iload hX d_Mo_total_129 rfl ?_
                  refine g_istore hX d_Mo_total_131 (by decide) ?_
                  refine g_iinc hX d_Mo_total_133 rfl (by decide) ?_
                  refine g_goto 40 hX d_Mo_total_136 (by decide) ?_
                  first | (exfalso; omega) | exact ih (i + 1) _ _ _ _ _ hz hz2 hz3 hL hF (by omega) (by omega) (by rw [zS]; first | omega | (dsimp only; omega)) (by rw [zS]; first | omega | (dsimp only; omega)) (by rw [zS]; first | omega | (dsimp only; omega)) (by omega)
                · refine g_aload_n hX d_Mo_total_119 rfl ?_
                  refine g_getR hX fl_Mo_25 d_Mo_total_120 ⟨rfl, by decide⟩ rfl rfl ?_
                  refine g_iload hX d_Mo_total_123 rfl ?_
                  refine g_iald hX d_Mo_total_125 ⟨rfl, by decide⟩ (by omega) (fun r_125 => ?_)
                  refine g_goto 131 hX d_Mo_total_126 (by decide) ?_
                  refine g_istore hX d_Mo_total_131 (by decide) ?_
                  refine g_iinc hX d_Mo_total_133 rfl (by decide) ?_
                  refine g_goto 40 hX d_Mo_total_136 (by decide) ?_
                  first | (exfalso; omega) | exact ih (i + 1) _ _ _ _ _ hz hz2 hz3 hL hF (by omega) (by omega) (by rw [zS]; first | omega | (dsimp only; omega)) (by rw [zS]; first | omega | (dsimp only; omega)) (by rw [zS]; first | omega | (dsimp only; omega)) (by omega)
            · refine g_aload_n hX d_Mo_total_88 rfl ?_
              refine g_getR hX fl_Mo_25 d_Mo_total_89 ⟨rfl, by decide⟩ rfl rfl ?_
              refine g_iload hX d_Mo_total_92 rfl ?_
              refine g_iald hX d_Mo_total_94 ⟨rfl, by decide⟩ (by omega) (fun r_94 => ?_)
              refine g_goto 99 hX d_Mo_total_95 (by decide) ?_
              refine g_iadd hX d_Mo_total_99 ?_
              refine g_istore hX d_Mo_total_100 (by decide) ?_
              refine g_iload hX d_Mo_total_102 rfl ?_
              refine g_if_eq 129 hX d_Mo_total_104 (by decide) (by first | omega | exact ite_iR) (fun h_104 => ?_) (fun h_104 => ?_)
              · refine g_iload hX d_Mo_total_129 rfl ?_
                refine g_istore hX d_Mo_total_131 (by decide) ?_
                refine g_iinc hX d_Mo_total_133 rfl (by decide) ?_
                refine g_goto 40 hX d_Mo_total_136 (by decide) ?_
                first | (exfalso; omega) | exact ih (i + 1) _ _ _ _ _ hz hz2 hz3 hL hF (by omega) (by omega) (by rw [zS]; first | omega | (dsimp only; omega)) (by rw [zS]; first | omega | (dsimp only; omega)) (by rw [zS]; first | omega | (dsimp only; omega)) (by omega)
              · refine g_aload_n hX d_Mo_total_107 rfl ?_
                refine g_getR hX fl_Mo_25 d_Mo_total_108 ⟨rfl, by decide⟩ rfl rfl ?_
                refine g_iload hX d_Mo_total_111 rfl ?_
                refine g_iald hX d_Mo_total_113 ⟨rfl, by decide⟩ (by omega) (fun r_113 => ?_)
                refine g_iload hX d_Mo_total_114 rfl ?_
                refine g_icmp_le 129 hX d_Mo_total_116 (by decide) (by omega) (by omega) (fun h_116 => ?_) (fun h_116 => ?_)
                · refine g_iload hX d_Mo_total_129 rfl ?_
                  refine g_istore hX d_Mo_total_131 (by decide) ?_
                  refine g_iinc hX d_Mo_total_133 rfl (by decide) ?_
                  refine g_goto 40 hX d_Mo_total_136 (by decide) ?_
                  first | (exfalso; omega) | exact ih (i + 1) _ _ _ _ _ hz hz2 hz3 hL hF (by omega) (by omega) (by rw [zS]; first | omega | (dsimp only; omega)) (by rw [zS]; first | omega | (dsimp only; omega)) (by rw [zS]; first | omega | (dsimp only; omega)) (by omega)
                · refine g_aload_n hX d_Mo_total_119 rfl ?_
                  refine g_getR hX fl_Mo_25 d_Mo_total_120 ⟨rfl, by decide⟩ rfl rfl ?_
                  refine g_iload hX d_Mo_total_123 rfl ?_
                  refine g_iald hX d_Mo_total_125 ⟨rfl, by decide⟩ (by omega) (fun r_125 => ?_)
                  refine g_goto 131 hX d_Mo_total_126 (by decide) ?_
                  refine g_istore hX d_Mo_total_131 (by decide) ?_
                  refine g_iinc hX d_Mo_total_133 rfl (by decide) ?_
                  refine g_goto 40 hX d_Mo_total_136 (by decide) ?_
                  first | (exfalso; omega) | exact ih (i + 1) _ _ _ _ _ hz hz2 hz3 hL hF (by omega) (by omega) (by rw [zS]; first | omega | (dsimp only; omega)) (by rw [zS]; first | omega | (dsimp only; omega)) (by rw [zS]; first | omega | (dsimp only; omega)) (by omega)
  refine g_iload_n hX d_Mo_total_0 rfl ?_
  refine g_iconst hX d_Mo_total_1 ?_
  refine g_iconst hX d_Mo_total_2 ?_
  refine g_callS hX yo_Mo_in q_732 d_Mo_total_3 (c_Mo_in hw (by omega) (by omega)) rfl rfl (by decide) (Nat.le_of_ble_eq_true rfl) ⟨Nat.zero_le _, Nat.zero_le _⟩ (k_int fun r_3 M_3 ir_3 hp_3 => ?_)
  obtain ⟨er_3, eM_3⟩ := hp_3; replace er_3 := er_3.symm; replace eM_3 := eM_3.symm; subst er_3; subst eM_3
  refine g_if_eq 18 hX d_Mo_total_6 (by decide) (by first | omega | exact ite_iR) (fun h_6 => ?_) (fun h_6 => ?_)
  · have z1 := ite_eq h_6
    refine g_sipush hX d_Mo_total_18 rfl ?_
    refine g_iret hX hR d_Mo_total_21 (by omega) ?_
    refine ⟨?_, h, fun _ _ => rfl⟩; unfold q_total; rw [if_pos (by omega)]
  · have z1 := ite_ne h_6
    refine g_iload_n hX d_Mo_total_9 rfl ?_
    refine g_iconst hX d_Mo_total_10 ?_
    refine g_iconst hX d_Mo_total_11 ?_
    refine g_callS hX yo_Mo_in q_732 d_Mo_total_12 (c_Mo_in hk (by omega) (by omega)) rfl rfl (by decide) (Nat.le_of_ble_eq_true rfl) ⟨Nat.zero_le _, Nat.zero_le _⟩ (k_int fun r_12 M_12 ir_12 hp_12 => ?_)
    obtain ⟨er_12, eM_12⟩ := hp_12; replace er_12 := er_12.symm; replace eM_12 := eM_12.symm; subst er_12; subst eM_12
    refine g_if_ne 22 hX d_Mo_total_15 (by decide) (by first | omega | exact ite_iR) (fun h_15 => ?_) (fun h_15 => ?_)
    · have z2 := ite_ne h_15
      refine g_aload_n hX d_Mo_total_22 rfl ?_
      refine g_iload_n hX d_Mo_total_23 rfl ?_
      refine g_callV hX yo_Mo_costAll q_829 d_Mo_total_24 (c_Mo_costAll h.1 ok.1.2.1 z1) rfl rfl ⟨rfl, by decide⟩ rfl (by decide) (Nat.le_of_ble_eq_true rfl) ⟨Nat.zero_le _, Nat.zero_le _⟩ (k_int fun r_24 M_24 ir_24 hp_24 => ?_)
      obtain ⟨er, hL, hF, zc⟩ := hp_24
      subst er
      refine g_istore_n hX d_Mo_total_27 (by decide) ?_
      refine g_iconst hX d_Mo_total_28 ?_
      refine g_istore hX d_Mo_total_29 (by decide) ?_
      refine g_iconst hX d_Mo_total_31 ?_
      refine g_istore hX d_Mo_total_32 (by decide) ?_
      refine g_iconst hX d_Mo_total_34 ?_
      refine g_istore hX d_Mo_total_35 (by decide) ?_
      refine g_iconst hX d_Mo_total_37 ?_
      refine g_istore hX d_Mo_total_38 (by decide) ?_
      refine LOOP _ 0 0 0 0 _ _ ⟨z1, z2⟩ ir_24 ?_ hL hF rfl (by omega) (by rw [List.take_zero]; rfl) (by rw [List.take_zero]; rfl) (by rw [List.take_zero]; rfl) (by omega)
      have zm := mul_bd v2 v3 (show 0 ≤ σ.1.2.2 3 by have := ok.1.2.1.2.2.2.1; omega) (show σ.1.2.2 3 ≤ 20 by have := ok.1.2.1.2.2.2.1; omega)
      unfold cS
      omega
    · have z2 := ite_eq h_15
      refine g_sipush hX d_Mo_total_18 rfl ?_
      refine g_iret hX hR d_Mo_total_21 (by omega) ?_
      refine ⟨?_, h, fun _ _ => rfl⟩; unfold q_total; rw [if_pos (by omega)]
