section GSW
variable {Γ : gX} {X : XT} {nL h : Nat} {Z : ZT} {pc : Nat} {L : List (Option Value)} {st : List Value} {M : mI} {cc : ByteArray} {own : String}
theorem g_tswI {x lo hi dflt off : Int} {offs : Array Int} {len : Nat} (j tgt : Nat) (hX : Cx Γ X nL h cc own) (hdg : decode cc pc = .ok (.tableswitch dflt lo hi offs, len)) (hx : x = lo + j) (hr : iR x) (hh : x ≤ hi) (ho : offs[j]? = some off) (ht : (pc : Int) + off = (tgt : Int)) (k : G Γ X nL Z tgt L st M) : G Γ X nL Z pc L (vI x :: st) M :=
  fun H locs ls h1 h2 h3 h4 => lv_tableIn hX.1 hX.2.1 hdg (by rw [i32_toInt hr]; omega) (by rw [i32_toInt hr]; omega) (by rw [i32_toInt hr, show (x - lo).toNat = j by omega]; exact ho) ht (k H locs ls h1 h2 h3 h4)
theorem g_tswO {x lo hi dflt : Int} {offs : Array Int} {len : Nat} (tgt : Nat) (hX : Cx Γ X nL h cc own) (hdg : decode cc pc = .ok (.tableswitch dflt lo hi offs, len)) (hx : x < lo ∨ hi < x) (hr : iR x) (ht : (pc : Int) + dflt = (tgt : Int)) (k : G Γ X nL Z tgt L st M) : G Γ X nL Z pc L (vI x :: st) M :=
  fun H locs ls h1 h2 h3 h4 => lv_tableOut hX.1 hX.2.1 hdg (by rw [i32_toInt hr]; exact hx) ht (k H locs ls h1 h2 h3 h4)
theorem g_lsw {x dflt off : Int} {ps : Array (Int × Int)} {len : Nat} (tgt : Nat) (hX : Cx Γ X nL h cc own) (hdg : decode cc pc = .ok (.lookupswitch dflt ps, len)) (hp : (ps.toList.zip (ps.toList.drop 1)).all (fun (a, next) => a.1 < next.1) = true) (hr : iR x) (ho : Op.lookupswitch.offset ps.toList dflt x = off) (ht : (pc : Int) + off = (tgt : Int)) (k : G Γ X nL Z tgt L st M) : G Γ X nL Z pc L (vI x :: st) M :=
  fun H locs ls h1 h2 h3 h4 => lv_lookup hX.1 hX.2.1 hdg hp (by rw [i32_toInt hr]; exact ho) ht (k H locs ls h1 h2 h3 h4)
end GSW
theorem c_WC_found {Γ : gX} {l : Launch} {M : mI} {σ : sG} {p w : Int} (h : CR M σ) (ok : OkV σ) (hp : iR p) (hw : iR w) : Cn Γ l i_WC_found R0 51 [.ref (gb Γ + 0), vI p, vI w] M (pI (fun r M' => r = q_found σ p w ∧ CR M' σ ∧ ∀ a, 37 ≤ a → M' a = M a)) := by
  refine cn_intro (L := [some (.ref (gb Γ + 0)), some (vI p), some (vI w), none]) yo_WC_found.1 rfl (Nat.le_of_ble_eq_true rfl) rfl (fun X hX hR => ?_)
  have hv := h.1
  obtain ⟨v1, v2, v3, v4, v5⟩ := id hv
  refine g_aload_n hX d_WC_found_0 rfl ?_
  refine g_getR hX fl_WC_10 d_WC_found_1 ⟨rfl, by decide⟩ rfl rfl ?_
  refine g_iload_n hX d_WC_found_4 rfl ?_
  refine g_callV hX yo_State_hasPlace q_282 d_WC_found_5 (c_State_hasPlace st_1 hp) rfl rfl ⟨rfl, by decide⟩ rfl (by decide) (Nat.le_of_ble_eq_true rfl) ⟨Nat.zero_le _, Nat.zero_le _⟩ (k_int fun r_5 M_5 ir_5 hp_5 => ?_)
  obtain ⟨er_5, eM_5⟩ := hp_5; replace er_5 := er_5.symm; replace eM_5 := eM_5.symm; subst er_5; subst eM_5
  refine g_if_eq 20 hX d_WC_found_8 (by decide) (by first | omega | exact ite_iR) (fun h_8 => ?_) (fun h_8 => ?_)
  · have z1 := ite_eq h_8
    rw [v1] at z1
    refine g_sipush hX d_WC_found_20 rfl ?_
    refine g_iret hX hR d_WC_found_23 (by omega) ?_
    unfold q_found; rw [if_pos (by omega)]; exact ⟨rfl, h, fun _ _ => rfl⟩
  · have z1 := ite_ne h_8
    rw [v1] at z1
    refine g_iload_n hX d_WC_found_11 rfl ?_
    refine g_iconst hX d_WC_found_12 ?_
    refine g_iconst hX d_WC_found_13 ?_
    refine g_callS hX yo_WC_isIn q_219 d_WC_found_14 (c_WC_isIn hw (by omega) (by omega)) rfl rfl (by decide) (Nat.le_of_ble_eq_true rfl) ⟨Nat.zero_le _, Nat.zero_le _⟩ (k_int fun r_14 M_14 ir_14 hp_14 => ?_)
    obtain ⟨er_14, eM_14⟩ := hp_14; replace er_14 := er_14.symm; replace eM_14 := eM_14.symm; subst er_14; subst eM_14
    refine g_if_ne 24 hX d_WC_found_17 (by decide) (by first | omega | exact ite_iR) (fun h_17 => ?_) (fun h_17 => ?_)
    · have z2 := ite_ne h_17
      refine g_aload_n hX d_WC_found_24 rfl ?_
      refine g_getR hX fl_WC_35 d_WC_found_25 ⟨rfl, by decide⟩ rfl rfl ?_
      refine g_iload_n hX d_WC_found_28 rfl ?_
      refine g_callV hX yo_Cand_lookAt q_307 d_WC_found_29 (c_Cand_lookAt hv ok.1.2.1 z1) rfl rfl ⟨rfl, by decide⟩ rfl (by decide) (Nat.le_of_ble_eq_true rfl) ⟨Nat.zero_le _, Nat.zero_le _⟩ (k_void fun M_29 hp_29 => ?_)
      obtain ⟨p1, p2⟩ := hp_29
      obtain ⟨e1, e2⟩ := CR_scr h p2
      have hv2 : Sv M_29 1 σ.1.1 σ.1.2.1 σ.1.2.2 := e1.1
      obtain ⟨y1, y2, y3, y4, y5⟩ := id hv2
      have hb := bD_cases (n := σ.1.1) (x := σ.1.2.1) (p := p) ok.1.2.1 z1.1
      refine g_iload_n hX d_WC_found_32 rfl ?_
      refine g_iconst hX d_WC_found_33 ?_
      refine g_icmp_ne 45 hX d_WC_found_34 (by decide) (by omega) (by omega) (fun h_34 => ?_) (fun h_34 => ?_)
      · refine g_aload_n hX d_WC_found_45 rfl ?_
        refine g_getR hX fl_WC_35 d_WC_found_46 ⟨rfl, by decide⟩ rfl rfl ?_
        refine g_callV hX yo_Cand_best q_351 d_WC_found_49 (c_Cand_best hv2 p1 ok.1.2.1 ⟨z1.1, by omega⟩) rfl rfl ⟨rfl, by decide⟩ rfl (by decide) (Nat.le_of_ble_eq_true rfl) ⟨Nat.zero_le _, Nat.zero_le _⟩ (k_int fun r_49 M_49 ir_49 hp_49 => ?_)
        obtain ⟨hp49, eM_49⟩ := hp_49; replace eM_49 := eM_49.symm; subst eM_49
        refine g_istore_n hX d_WC_found_52 (by decide) ?_
        refine g_iload_n hX d_WC_found_53 rfl ?_
        refine g_iconst hX d_WC_found_54 ?_
        refine g_icmp_ne 62 hX d_WC_found_55 (by decide) (by omega) (by omega) (fun h_55 => ?_) (fun h_55 => ?_)
        · obtain ⟨k, hk, hz1⟩ : ∃ k : Nat, (cs σ.1.1 σ.1.2.1 σ.1.2.2 p)[k]? = some (bD σ.1.1 σ.1.2.1 σ.1.2.2 p) ∧ r_49 = k := by rcases hp49 with ⟨_, hz1⟩ | hz1; exact absurd hz1 h_55; exact hz1
          subst hz1
          have zb : bD σ.1.1 σ.1.2.1 σ.1.2.2 p ≠ -10004 := by have zq := cs_at hk z1.1; omega
          have zs : sv σ.1.1 σ.1.2.1 σ.1.2.2 p = rc σ.1.1 σ.1.2.1 p (bD σ.1.1 σ.1.2.1 σ.1.2.2 p) * σ.1.2.2 3 - σ.1.2.2 4 := by (unfold sv; rw [if_neg zb])
          have zs2 := sv_bd (x := σ.1.2.1) ok.1.2.1 z1.1 (show p ≤ σ.1.1 by omega)
          refine g_iload_n hX d_WC_found_62 rfl ?_
          by_cases z_63_0 : w = 0
          · refine g_lsw 88 hX d_WC_found_63 rfl (by omega) (by rw [z_63_0]; try rfl) (by decide) ?_
            refine g_aload_n hX d_WC_found_88 rfl ?_
            refine g_getR hX fl_WC_35 d_WC_found_89 ⟨rfl, by decide⟩ rfl rfl ?_
            refine g_iload_n hX d_WC_found_92 rfl ?_
            refine g_callV hX yo_Cand_distance q_335 d_WC_found_93 (c_Cand_distance p1 ok.1.2.1 hk) rfl rfl ⟨rfl, by decide⟩ rfl (by decide) (Nat.le_of_ble_eq_true rfl) ⟨Nat.zero_le _, Nat.zero_le _⟩ (k_int fun r_93 M_93 ir_93 hp_93 => ?_)
            obtain ⟨er_93, eM_93⟩ := hp_93; replace er_93 := er_93.symm; replace eM_93 := eM_93.symm; subst er_93; subst eM_93
            refine g_iret hX hR d_WC_found_96 (by omega) ?_
            unfold q_found; rw [if_neg (by omega), if_neg (by omega), if_neg zb, if_pos (by omega)]; exact ⟨rfl, e1, e2⟩
          by_cases z_63_1 : w = 1
          · refine g_lsw 97 hX d_WC_found_63 rfl (by omega) (by rw [z_63_1]; try rfl) (by decide) ?_
            refine g_aload_n hX d_WC_found_97 rfl ?_
            refine g_getR hX fl_WC_35 d_WC_found_98 ⟨rfl, by decide⟩ rfl rfl ?_
            refine g_iload_n hX d_WC_found_101 rfl ?_
            refine g_callV hX yo_Cand_reach q_339 d_WC_found_102 (c_Cand_reach p1 ok.1.2.1 hk ⟨z1.1, by omega, v3⟩) rfl rfl ⟨rfl, by decide⟩ rfl (by decide) (Nat.le_of_ble_eq_true rfl) ⟨Nat.zero_le _, Nat.zero_le _⟩ (k_int fun r_102 M_102 ir_102 hp_102 => ?_)
            obtain ⟨er_102, eM_102⟩ := hp_102; replace er_102 := er_102.symm; replace eM_102 := eM_102.symm; subst er_102; subst eM_102
            refine g_iret hX hR d_WC_found_105 (by omega) ?_
            unfold q_found; rw [if_neg (by omega), if_neg (by omega), if_neg zb, if_neg (by omega), if_pos (by omega)]; exact ⟨rfl, e1, e2⟩
          refine g_lsw 106 hX d_WC_found_63 rfl (by omega) (by simp [Op.lookupswitch.offset_cons, Op.lookupswitch.offset_nil, Ne.symm z_63_0, Ne.symm z_63_1]; rfl) (by decide) ?_
          refine g_aload_n hX d_WC_found_106 rfl ?_
          refine g_getR hX fl_WC_10 d_WC_found_107 ⟨rfl, by decide⟩ rfl rfl ?_
          refine g_aload_n hX d_WC_found_110 rfl ?_
          refine g_getR hX fl_WC_35 d_WC_found_111 ⟨rfl, by decide⟩ rfl rfl ?_
          refine g_iload_n hX d_WC_found_114 rfl ?_
          refine g_callV hX yo_Cand_reach q_339 d_WC_found_115 (c_Cand_reach p1 ok.1.2.1 hk ⟨z1.1, by omega, v3⟩) rfl rfl ⟨rfl, by decide⟩ rfl (by decide) (Nat.le_of_ble_eq_true rfl) ⟨Nat.zero_le _, Nat.zero_le _⟩ (k_int fun r_115 M_115 ir_115 hp_115 => ?_)
          obtain ⟨er_115, eM_115⟩ := hp_115; replace er_115 := er_115.symm; replace eM_115 := eM_115.symm; subst er_115; subst eM_115
          refine g_callV hX yo_State_savingOf q_356 d_WC_found_118 (c_State_savingOf st_1 (by rw [y5 3 (by omega) (by omega), y5 4 (by omega) (by omega), ← zs]; omega)) rfl rfl ⟨rfl, by decide⟩ rfl (by decide) (Nat.le_of_ble_eq_true rfl) ⟨Nat.zero_le _, Nat.zero_le _⟩ (k_int fun r_118 M_118 ir_118 hp_118 => ?_)
          obtain ⟨er_118, eM_118⟩ := hp_118; replace er_118 := er_118.symm; replace eM_118 := eM_118.symm; subst er_118; subst eM_118
          rw [y5 3 (by omega) (by omega), y5 4 (by omega) (by omega), ← zs] at ir_118 ⊢
          refine g_iret hX hR d_WC_found_121 (by omega) ?_
          unfold q_found; rw [if_neg (by omega), if_neg (by omega), if_neg zb, if_neg (by omega), if_neg (by omega)]; exact ⟨rfl, e1, e2⟩
        · have zb : bD σ.1.1 σ.1.2.1 σ.1.2.2 p = -10004 := by rcases hp49 with ⟨hz1, _⟩ | ⟨k, hk, hz1⟩; exact hz1; omega
          refine g_sipush hX d_WC_found_58 rfl ?_
          refine g_iret hX hR d_WC_found_61 (by omega) ?_
          unfold q_found; rw [if_neg (by omega), if_neg (by omega), if_pos zb]; exact ⟨rfl, e1, e2⟩
      · refine g_aload_n hX d_WC_found_37 rfl ?_
        refine g_getR hX fl_WC_35 d_WC_found_38 ⟨rfl, by decide⟩ rfl rfl ?_
        refine g_callV hX yo_Cand_all q_347 d_WC_found_41 c_Cand_all rfl rfl ⟨rfl, by decide⟩ rfl (by decide) (Nat.le_of_ble_eq_true rfl) ⟨Nat.zero_le _, Nat.zero_le _⟩ (k_int fun r_41 M_41 ir_41 hp_41 => ?_)
        obtain ⟨er_41, eM_41⟩ := hp_41; replace er_41 := er_41.symm; replace eM_41 := eM_41.symm; subst er_41; subst eM_41
        refine g_iret hX hR d_WC_found_44 (by omega) ?_
        unfold q_found; rw [if_neg (by omega), if_pos (by omega)]; exact ⟨p1.2.2.1, e1, e2⟩
    · have z2 := ite_eq h_17
      refine g_sipush hX d_WC_found_20 rfl ?_
      refine g_iret hX hR d_WC_found_23 (by omega) ?_
      unfold q_found; rw [if_pos (by omega)]; exact ⟨rfl, h, fun _ _ => rfl⟩
theorem c_WC_isCopy {Γ : gX} {l : Launch} {M : mI} {σ : sG} {p d c : Int} (h : CR M σ) (ok : OkV σ) (hp : iR p) (hd : iR d) (hc : iR c) : Cn Γ l i_WC_isCopy R0 51 [.ref (gb Γ + 0), vI p, vI d, vI c] M (pI (fun r M' => r = q_isCopy σ p d c ∧ M' = M)) := by
  refine cn_intro (L := [some (.ref (gb Γ + 0)), some (vI p), some (vI d), some (vI c), none, none]) yo_WC_isCopy.1 rfl (Nat.le_of_ble_eq_true rfl) rfl (fun X hX hR => ?_)
  have hv := h.1
  obtain ⟨v1, v2, v3, v4, v5⟩ := id hv
  have hg0 := ok.1.2.1.1
  have hg1 := ok.1.2.1.2.1
  refine g_aload_n hX d_WC_isCopy_0 rfl ?_
  refine g_getR hX fl_WC_10 d_WC_isCopy_1 ⟨rfl, by decide⟩ rfl rfl ?_
  refine g_iload_n hX d_WC_isCopy_4 rfl ?_
  refine g_callV hX yo_State_hasPlace q_282 d_WC_isCopy_5 (c_State_hasPlace st_1 hp) rfl rfl ⟨rfl, by decide⟩ rfl (by decide) (Nat.le_of_ble_eq_true rfl) ⟨Nat.zero_le _, Nat.zero_le _⟩ (k_int fun r_5 M_5 ir_5 hp_5 => ?_)
  obtain ⟨er_5, eM_5⟩ := hp_5; replace er_5 := er_5.symm; replace eM_5 := eM_5.symm; subst er_5; subst eM_5
  refine g_if_ne 15 hX d_WC_isCopy_8 (by decide) (by first | omega | exact ite_iR) (fun h_8 => ?_) (fun h_8 => ?_)
  · have z1 := ite_ne h_8
    rw [v1] at z1
    refine g_iload_n hX d_WC_isCopy_15 rfl ?_
    refine g_iconst hX d_WC_isCopy_16 ?_
    refine g_aload_n hX d_WC_isCopy_17 rfl ?_
    refine g_getR hX fl_WC_10 d_WC_isCopy_18 ⟨rfl, by decide⟩ rfl rfl ?_
    refine g_iconst hX d_WC_isCopy_21 ?_
    refine g_callV hX yo_State_setting q_297 d_WC_isCopy_22 (c_State_setting st_1 (p := 0) (by omega)) rfl rfl ⟨rfl, by decide⟩ rfl (by decide) (Nat.le_of_ble_eq_true rfl) ⟨Nat.zero_le _, Nat.zero_le _⟩ (k_int fun r_22 M_22 ir_22 hp_22 => ?_)
    obtain ⟨er_22, eM_22⟩ := hp_22; replace er_22 := er_22.symm; replace eM_22 := eM_22.symm; subst er_22; subst eM_22
    rw [v5 0 (by omega) (by omega)] at ir_22 ⊢
    refine g_iload_n hX d_WC_isCopy_25 rfl ?_
    refine g_min hX d_WC_isCopy_26 q_364 (by omega) (by omega) (by decide) (Nat.le_of_ble_eq_true rfl) ⟨Nat.zero_le _, Nat.zero_le _⟩ ?_
    refine g_callS hX yo_WC_isIn q_219 d_WC_isCopy_29 (c_WC_isIn hd (by omega) (by omega)) rfl rfl (by decide) (Nat.le_of_ble_eq_true rfl) ⟨Nat.zero_le _, Nat.zero_le _⟩ (k_int fun r_29 M_29 ir_29 hp_29 => ?_)
    obtain ⟨er_29, eM_29⟩ := hp_29; replace er_29 := er_29.symm; replace eM_29 := eM_29.symm; subst er_29; subst eM_29
    refine g_istore hX d_WC_isCopy_32 (by decide) ?_
    refine g_iload_n hX d_WC_isCopy_34 rfl ?_
    refine g_aload_n hX d_WC_isCopy_35 rfl ?_
    refine g_getR hX fl_WC_10 d_WC_isCopy_36 ⟨rfl, by decide⟩ rfl rfl ?_
    refine g_iconst hX d_WC_isCopy_39 ?_
    refine g_callV hX yo_State_setting q_297 d_WC_isCopy_40 (c_State_setting st_1 (p := 1) (by omega)) rfl rfl ⟨rfl, by decide⟩ rfl (by decide) (Nat.le_of_ble_eq_true rfl) ⟨Nat.zero_le _, Nat.zero_le _⟩ (k_int fun r_40 M_40 ir_40 hp_40 => ?_)
    obtain ⟨er_40, eM_40⟩ := hp_40; replace er_40 := er_40.symm; replace eM_40 := eM_40.symm; subst er_40; subst eM_40
    rw [v5 1 (by omega) (by omega)] at ir_40 ⊢
    refine g_bipush hX d_WC_isCopy_43 rfl ?_
    refine g_callS hX yo_WC_isIn q_219 d_WC_isCopy_45 (c_WC_isIn hc (by omega) (by omega)) rfl rfl (by decide) (Nat.le_of_ble_eq_true rfl) ⟨Nat.zero_le _, Nat.zero_le _⟩ (k_int fun r_45 M_45 ir_45 hp_45 => ?_)
    obtain ⟨er_45, eM_45⟩ := hp_45; replace er_45 := er_45.symm; replace eM_45 := eM_45.symm; subst er_45; subst eM_45
    refine g_istore hX d_WC_isCopy_48 (by decide) ?_
    refine g_iload hX d_WC_isCopy_50 rfl ?_
    refine g_if_eq 79 hX d_WC_isCopy_52 (by decide) (by first | omega | exact ite_iR) (fun h_52 => ?_) (fun h_52 => ?_)
    · have z2 := ite_eq h_52
      refine g_iconst hX d_WC_isCopy_79 ?_
      refine g_iret hX hR d_WC_isCopy_80 (by omega) ?_
      unfold q_isCopy; rw [if_neg (by omega)]; first | (rw [if_pos ⟨z2, z3, by omega⟩]; exact ⟨rfl, rfl⟩) | (rw [if_neg (by omega)]; exact ⟨rfl, rfl⟩)
    · have z2 := ite_ne h_52
      refine g_iload hX d_WC_isCopy_55 rfl ?_
      refine g_if_eq 79 hX d_WC_isCopy_57 (by decide) (by first | omega | exact ite_iR) (fun h_57 => ?_) (fun h_57 => ?_)
      · have z3 := ite_eq h_57
        refine g_iconst hX d_WC_isCopy_79 ?_
        refine g_iret hX hR d_WC_isCopy_80 (by omega) ?_
        unfold q_isCopy; rw [if_neg (by omega)]; first | (rw [if_pos ⟨z2, z3, by omega⟩]; exact ⟨rfl, rfl⟩) | (rw [if_neg (by omega)]; exact ⟨rfl, rfl⟩)
      · have z3 := ite_ne h_57
        refine g_aload_n hX d_WC_isCopy_60 rfl ?_
        refine g_getR hX fl_WC_10 d_WC_isCopy_61 ⟨rfl, by decide⟩ rfl rfl ?_
        refine g_iload_n hX d_WC_isCopy_64 rfl ?_
        refine g_iload_n hX d_WC_isCopy_65 rfl ?_
        refine g_isub hX d_WC_isCopy_66 ?_
        refine g_iload_n hX d_WC_isCopy_67 rfl ?_
        refine g_callV hX yo_State_likeLength q_365 d_WC_isCopy_68 (c_State_likeLength st_1 hv (by omega) (by omega)) rfl rfl ⟨rfl, by decide⟩ rfl (by decide) (Nat.le_of_ble_eq_true rfl) ⟨Nat.zero_le _, Nat.zero_le _⟩ (k_int fun r_68 M_68 ir_68 hp_68 => ?_)
        obtain ⟨er_68, eM_68⟩ := hp_68; replace er_68 := er_68.symm; replace eM_68 := eM_68.symm; subst er_68; subst eM_68
        rw [show p - (p - d) = d by omega] at ir_68 ⊢
        refine g_iload_n hX d_WC_isCopy_71 rfl ?_
        refine g_icmp_lt 79 hX d_WC_isCopy_72 (by decide) (by omega) (by omega) (fun h_72 => ?_) (fun h_72 => ?_)
        · refine g_iconst hX d_WC_isCopy_79 ?_
          refine g_iret hX hR d_WC_isCopy_80 (by omega) ?_
          unfold q_isCopy; rw [if_neg (by omega)]; first | (rw [if_pos ⟨z2, z3, by omega⟩]; exact ⟨rfl, rfl⟩) | (rw [if_neg (by omega)]; exact ⟨rfl, rfl⟩)
        · refine g_iconst hX d_WC_isCopy_75 ?_
          refine g_goto 80 hX d_WC_isCopy_76 (by decide) ?_
          refine g_iret hX hR d_WC_isCopy_80 (by omega) ?_
          unfold q_isCopy; rw [if_neg (by omega)]; first | (rw [if_pos ⟨z2, z3, by omega⟩]; exact ⟨rfl, rfl⟩) | (rw [if_neg (by omega)]; exact ⟨rfl, rfl⟩)
  · have z1 := ite_eq h_8
    rw [v1] at z1
    refine g_sipush hX d_WC_isCopy_11 rfl ?_
    refine g_iret hX hR d_WC_isCopy_14 (by omega) ?_
    unfold q_isCopy; rw [if_pos z1]; exact ⟨rfl, rfl⟩
theorem CR_scr2 {M M' M'' : mI} {σ : sG} (h : CR M σ) (p2 : ∀ a, a ≠ 21 → a ≠ 22 → a ≠ 23 → a ≠ 25 → a ≠ 26 → a ≠ 27 → a ≠ 28 → M' a = M a) (p3 : ∀ a, a ≠ 24 → a ≠ 29 → M'' a = M' a) : CR M'' σ ∧ ∀ a, 37 ≤ a → M'' a = M a :=
  ⟨h.to (fun a u => by rw [p3 a (by omega) (by omega)]; exact p2 a (by omega) (by omega) (by omega) (by omega) (by omega) (by omega) (by omega)), fun a u => by rw [p3 a (by omega) (by omega)]; exact p2 a (by omega) (by omega) (by omega) (by omega) (by omega) (by omega) (by omega)⟩
theorem Pp_scr {M M' : mI} {n : Int} {x g : Int → Int} {p : Int} (h : Pp M n x g p) (p3 : ∀ a, a ≠ 24 → a ≠ 29 → M' a = M a) : Pp M' n x g p := h.to (p3 25 (by decide) (by decide)) (p3 26 (by decide) (by decide)) (p3 27 (by decide) (by decide)) (p3 28 (by decide) (by decide))
theorem sts_b (n : Int) (x g : Int → Int) (w : Int) : 0 ≤ (sts n x g w).1 ∧ (sts n x g w).1 ≤ ((bgs n x g w).length : Int) := by
  unfold sts
  generalize bgs n x g w = bs
  have key : ∀ (l : List Int) (s : Int × Int × Int), s.1 ≤ (l.foldl (stS (pD n x g w) (pL n x g w)) s).1 ∧ (l.foldl (stS (pD n x g w) (pL n x g w)) s).1 ≤ s.1 + l.length := by
    intro l
    induction l with
    | nil => intro s; exact ⟨Int.le_refl _, by simp⟩
    | cons b l ih =>
      intro s
      rw [List.foldl_cons]
      have zi := ih (stS (pD n x g w) (pL n x g w) s b)
      have zs : s.1 ≤ (stS (pD n x g w) (pL n x g w) s b).1 ∧ (stS (pD n x g w) (pL n x g w) s b).1 ≤ s.1 + 1 := by
        unfold stS
        split
        · exact ⟨by show s.1 ≤ s.1 + 1; omega, Int.le_refl _⟩
        · omega
      rw [List.length_cons]
      omega
  have zk := key bs (0, 0, 0)
  unfold stF
  have z0 : ((0 : Int), (0 : Int), (0 : Int)).1 = 0 := rfl
  rw [z0] at zk
  omega
theorem c_WC_part {Γ : gX} {l : Launch} {M : mI} {σ : sG} {w i k : Int} (h : CR M σ) (ok : OkV σ) (hw : iR w) (hi : iR i) (hk : iR k) : Cn Γ l i_WC_part R0 51 [.ref (gb Γ + 0), vI w, vI i, vI k] M (pI (fun r M' => r = q_part σ w i k ∧ CR M' σ ∧ ∀ a, 37 ≤ a → M' a = M a)) := by
  refine cn_intro (L := [some (.ref (gb Γ + 0)), some (vI w), some (vI i), some (vI k), none]) yo_WC_part.1 rfl (Nat.le_of_ble_eq_true rfl) rfl (fun X hX hR => ?_)
  have hv := h.1
  obtain ⟨v1, v2, v3, v4, v5⟩ := id hv
  refine g_iload_n hX d_WC_part_0 rfl ?_
  refine g_callS hX yo_WC_isWay q_373 d_WC_part_1 (c_WC_isWay hw) rfl rfl (by decide) (Nat.le_of_ble_eq_true rfl) ⟨Nat.zero_le _, Nat.zero_le _⟩ (k_int fun r_1 M_1 ir_1 hp_1 => ?_)
  obtain ⟨er_1, eM_1⟩ := hp_1; replace er_1 := er_1.symm; replace eM_1 := eM_1.symm; subst er_1; subst eM_1
  refine g_if_eq 20 hX d_WC_part_4 (by decide) (by first | omega | exact ite_iR) (fun h_4 => ?_) (fun h_4 => ?_)
  · have z1 := ite_eq h_4
    refine g_sipush hX d_WC_part_20 rfl ?_
    refine g_iret hX hR d_WC_part_23 (by omega) ?_
    unfold q_part; rw [if_pos (by omega)]; exact ⟨rfl, h, fun _ _ => rfl⟩
  · have z1 := ite_ne h_4
    refine g_iload_n hX d_WC_part_7 rfl ?_
    refine g_if_lt 20 hX d_WC_part_8 (by decide) (by first | omega | exact ite_iR) (fun h_8 => ?_) (fun h_8 => ?_)
    · refine g_sipush hX d_WC_part_20 rfl ?_
      refine g_iret hX hR d_WC_part_23 (by omega) ?_
      unfold q_part; rw [if_pos (by omega)]; exact ⟨rfl, h, fun _ _ => rfl⟩
    · refine g_iload_n hX d_WC_part_11 rfl ?_
      refine g_iconst hX d_WC_part_12 ?_
      refine g_iconst hX d_WC_part_13 ?_
      refine g_callS hX yo_WC_isIn q_219 d_WC_part_14 (c_WC_isIn hk (by omega) (by omega)) rfl rfl (by decide) (Nat.le_of_ble_eq_true rfl) ⟨Nat.zero_le _, Nat.zero_le _⟩ (k_int fun r_14 M_14 ir_14 hp_14 => ?_)
      obtain ⟨er_14, eM_14⟩ := hp_14; replace er_14 := er_14.symm; replace eM_14 := eM_14.symm; subst er_14; subst eM_14
      refine g_if_ne 24 hX d_WC_part_17 (by decide) (by first | omega | exact ite_iR) (fun h_17 => ?_) (fun h_17 => ?_)
      · have z2 := ite_ne h_17
        refine g_aload_n hX d_WC_part_24 rfl ?_
        refine g_getR hX fl_WC_44 d_WC_part_25 ⟨rfl, by decide⟩ rfl rfl ?_
        refine g_callV hX yo_Plan_make q_376 d_WC_part_28 (c_Plan_make hv ok.1.2.1) rfl rfl ⟨rfl, by decide⟩ rfl (by decide) (Nat.le_of_ble_eq_true rfl) ⟨Nat.zero_le _, Nat.zero_le _⟩ (k_void fun M_28 hp_28 => ?_)
        obtain ⟨p1, p2⟩ := hp_28
        have hv2 : Sv M_28 1 σ.1.1 σ.1.2.1 σ.1.2.2 := hv.to (p2 1 (by decide) (by decide) (by decide) (by decide) (by decide) (by decide) (by decide)) (p2 2 (by decide) (by decide) (by decide) (by decide) (by decide) (by decide) (by decide)) (p2 3 (by decide) (by decide) (by decide) (by decide) (by decide) (by decide) (by decide))
        refine g_aload_n hX d_WC_part_31 rfl ?_
        refine g_getR hX fl_WC_44 d_WC_part_32 ⟨rfl, by decide⟩ rfl rfl ?_
        refine g_iload_n hX d_WC_part_35 rfl ?_
        refine g_callV hX yo_Plan_layOut q_420 d_WC_part_36 (c_Plan_layOut hv2 ok.1.2.1 z1 p1) rfl rfl ⟨rfl, by decide⟩ rfl (by decide) (Nat.le_of_ble_eq_true rfl) ⟨Nat.zero_le _, Nat.zero_le _⟩ (k_void fun M_36 hp_36 => ?_)
        obtain ⟨q1, q2⟩ := hp_36
        obtain ⟨e1, e2⟩ := CR_scr2 h p2 q2
        have p3 := Pp_scr p1 q2
        have hv3 := e1.1
        obtain ⟨y1, y2, y3, y4, y5⟩ := id hv3
        have zl : ((bg σ w).length : Int) ≤ σ.1.1 := bgs_len σ.1.1 σ.1.2.1 σ.1.2.2 w v2
        have q3 : M_36 24 7 = ((bg σ w).length : Int) := q1.1
        refine g_iload_n hX d_WC_part_39 rfl ?_
        refine g_aload_n hX d_WC_part_40 rfl ?_
        refine g_getR hX fl_WC_44 d_WC_part_41 ⟨rfl, by decide⟩ rfl rfl ?_
        refine g_callV hX yo_Plan_parts q_428 d_WC_part_44 c_Plan_parts rfl rfl ⟨rfl, by decide⟩ rfl (by decide) (Nat.le_of_ble_eq_true rfl) ⟨Nat.zero_le _, Nat.zero_le _⟩ (k_int fun r_44 M_44 ir_44 hp_44 => ?_)
        obtain ⟨er_44, eM_44⟩ := hp_44; replace er_44 := er_44.symm; replace eM_44 := eM_44.symm; subst er_44; subst eM_44
        rw [q3] at ir_44 ⊢
        refine g_icmp_lt 54 hX d_WC_part_47 (by decide) (by omega) (by omega) (fun h_47 => ?_) (fun h_47 => ?_)
        · have hl : (bg σ w)[i.toNat]? = some ((bg σ w).getD i.toNat 0) := by (rw [List.getD_eq_getElem?_getD, List.getElem?_eq_getElem (by omega)]; rfl)
          have zm := q1.2.1 _ _ hl
          rw [show ((i.toNat : Nat) : Int) = i by omega] at zm
          have zb := bgs_mem (x := σ.1.2.1) ok.1.2.1 (List.mem_of_getElem? hl)
          have zP := p3.1 w _ z1.1 z1.2 zb.1 zb.2
          refine g_aload_n hX d_WC_part_54 rfl ?_
          refine g_getR hX fl_WC_44 d_WC_part_55 ⟨rfl, by decide⟩ rfl rfl ?_
          refine g_iload_n hX d_WC_part_58 rfl ?_
          refine g_callV hX yo_Plan_beginOf q_432 d_WC_part_59 (c_Plan_beginOf (by omega)) rfl rfl ⟨rfl, by decide⟩ rfl (by decide) (Nat.le_of_ble_eq_true rfl) ⟨Nat.zero_le _, Nat.zero_le _⟩ (k_int fun r_59 M_59 ir_59 hp_59 => ?_)
          obtain ⟨er_59, eM_59⟩ := hp_59; replace er_59 := er_59.symm; replace eM_59 := eM_59.symm; subst er_59; subst eM_59
          rw [zm] at ir_59 ⊢
          refine g_istore hX d_WC_part_62 (by decide) ?_
          refine g_iload_n hX d_WC_part_64 rfl ?_
          by_cases z_65_0 : k = 0
          · refine g_tswI 0 92 hX d_WC_part_65 (by omega) (by omega) (by omega) rfl (by decide) ?_
            refine g_iload hX d_WC_part_92 rfl ?_
            refine g_iret hX hR d_WC_part_94 (by omega) ?_
            unfold q_part; rw [if_neg (by omega), if_neg (by omega), if_pos (by omega)]; exact ⟨rfl, e1, e2⟩
          by_cases z_65_1 : k = 1
          · refine g_tswI 1 95 hX d_WC_part_65 (by omega) (by omega) (by omega) rfl (by decide) ?_
            refine g_aload_n hX d_WC_part_95 rfl ?_
            refine g_getR hX fl_WC_44 d_WC_part_96 ⟨rfl, by decide⟩ rfl rfl ?_
            refine g_iload_n hX d_WC_part_99 rfl ?_
            refine g_iload hX d_WC_part_100 rfl ?_
            refine g_callV hX yo_Plan_lengthAt q_436 d_WC_part_102 (c_Plan_lengthAt z1 (by omega)) rfl rfl ⟨rfl, by decide⟩ rfl (by decide) (Nat.le_of_ble_eq_true rfl) ⟨Nat.zero_le _, Nat.zero_le _⟩ (k_int fun r_102 M_102 ir_102 hp_102 => ?_)
            obtain ⟨er_102, eM_102⟩ := hp_102; replace er_102 := er_102.symm; replace eM_102 := eM_102.symm; subst er_102; subst eM_102
            rw [zP.2] at ir_102 ⊢
            refine g_iret hX hR d_WC_part_105 (by omega) ?_
            unfold q_part; rw [if_neg (by omega), if_neg (by omega), if_neg (by omega), if_pos (by omega)]; exact ⟨rfl, e1, e2⟩
          by_cases z_65_2 : k = 2
          · refine g_tswI 2 106 hX d_WC_part_65 (by omega) (by omega) (by omega) rfl (by decide) ?_
            refine g_aload_n hX d_WC_part_106 rfl ?_
            refine g_getR hX fl_WC_44 d_WC_part_107 ⟨rfl, by decide⟩ rfl rfl ?_
            refine g_iload_n hX d_WC_part_110 rfl ?_
            refine g_iload hX d_WC_part_111 rfl ?_
            refine g_callV hX yo_Plan_distanceAt q_437 d_WC_part_113 (c_Plan_distanceAt z1 (by omega)) rfl rfl ⟨rfl, by decide⟩ rfl (by decide) (Nat.le_of_ble_eq_true rfl) ⟨Nat.zero_le _, Nat.zero_le _⟩ (k_int fun r_113 M_113 ir_113 hp_113 => ?_)
            obtain ⟨er_113, eM_113⟩ := hp_113; replace er_113 := er_113.symm; replace eM_113 := eM_113.symm; subst er_113; subst eM_113
            rw [zP.1] at ir_113 ⊢
            refine g_iret hX hR d_WC_part_116 (by omega) ?_
            unfold q_part; rw [if_neg (by omega), if_neg (by omega), if_neg (by omega), if_neg (by omega), if_pos (by omega)]; exact ⟨rfl, e1, e2⟩
          refine g_tswO 117 hX d_WC_part_65 (by omega) (by omega) (by decide) ?_
          refine g_aload_n hX d_WC_part_117 rfl ?_
          refine g_getR hX fl_WC_10 d_WC_part_118 ⟨rfl, by decide⟩ rfl rfl ?_
          refine g_aload_n hX d_WC_part_121 rfl ?_
          refine g_getR hX fl_WC_44 d_WC_part_122 ⟨rfl, by decide⟩ rfl rfl ?_
          refine g_iload_n hX d_WC_part_125 rfl ?_
          refine g_iload hX d_WC_part_126 rfl ?_
          refine g_callV hX yo_Plan_distanceAt q_437 d_WC_part_128 (c_Plan_distanceAt z1 (by omega)) rfl rfl ⟨rfl, by decide⟩ rfl (by decide) (Nat.le_of_ble_eq_true rfl) ⟨Nat.zero_le _, Nat.zero_le _⟩ (k_int fun r_128 M_128 ir_128 hp_128 => ?_)
          obtain ⟨er_128, eM_128⟩ := hp_128; replace er_128 := er_128.symm; replace eM_128 := eM_128.symm; subst er_128; subst eM_128
          rw [zP.1] at ir_128 ⊢
          refine g_if_ne 138 hX d_WC_part_131 (by decide) (by first | omega | exact ite_iR) (fun h_131 => ?_) (fun h_131 => ?_)
          · refine g_iconst hX d_WC_part_138 ?_
            refine g_callV hX yo_State_setting q_297 d_WC_part_139 (c_State_setting st_1 (by omega)) rfl rfl ⟨rfl, by decide⟩ rfl (by decide) (Nat.le_of_ble_eq_true rfl) ⟨Nat.zero_le _, Nat.zero_le _⟩ (k_int fun r_139 M_139 ir_139 hp_139 => ?_)
            obtain ⟨er_139, eM_139⟩ := hp_139; replace er_139 := er_139.symm; replace eM_139 := eM_139.symm; subst er_139; subst eM_139
            refine g_iret hX hR d_WC_part_142 (by omega) ?_
            unfold q_part; rw [if_neg (by omega), if_neg (by omega), if_neg (by omega), if_neg (by omega), if_neg (by omega)]; first | (rw [if_pos h_131]; exact ⟨y5 3 (by omega) (by omega), e1, e2⟩) | (rw [if_neg h_131]; exact ⟨y5 4 (by omega) (by omega), e1, e2⟩)
          · refine g_iconst hX d_WC_part_134 ?_
            refine g_goto 139 hX d_WC_part_135 (by decide) ?_
            refine g_callV hX yo_State_setting q_297 d_WC_part_139 (c_State_setting st_1 (by omega)) rfl rfl ⟨rfl, by decide⟩ rfl (by decide) (Nat.le_of_ble_eq_true rfl) ⟨Nat.zero_le _, Nat.zero_le _⟩ (k_int fun r_139 M_139 ir_139 hp_139 => ?_)
            obtain ⟨er_139, eM_139⟩ := hp_139; replace er_139 := er_139.symm; replace eM_139 := eM_139.symm; subst er_139; subst eM_139
            refine g_iret hX hR d_WC_part_142 (by omega) ?_
            unfold q_part; rw [if_neg (by omega), if_neg (by omega), if_neg (by omega), if_neg (by omega), if_neg (by omega)]; first | (rw [if_pos h_131]; exact ⟨y5 3 (by omega) (by omega), e1, e2⟩) | (rw [if_neg h_131]; exact ⟨y5 4 (by omega) (by omega), e1, e2⟩)
        · refine g_sipush hX d_WC_part_50 rfl ?_
          refine g_iret hX hR d_WC_part_53 (by omega) ?_
          unfold q_part; rw [if_neg (by omega), if_pos (by omega)]; exact ⟨rfl, e1, e2⟩
      · have z2 := ite_eq h_17
        refine g_sipush hX d_WC_part_20 rfl ?_
        refine g_iret hX hR d_WC_part_23 (by omega) ?_
        unfold q_part; rw [if_pos (by omega)]; exact ⟨rfl, h, fun _ _ => rfl⟩
theorem c_WC_total {Γ : gX} {l : Launch} {M : mI} {σ : sG} {w k : Int} (h : CR M σ) (ok : OkV σ) (hw : iR w) (hk : iR k) : Cn Γ l i_WC_total R0 51 [.ref (gb Γ + 0), vI w, vI k] M (pI (fun r M' => r = q_total σ w k ∧ CR M' σ ∧ ∀ a, 37 ≤ a → M' a = M a)) := by
  refine cn_intro (L := [some (.ref (gb Γ + 0)), some (vI w), some (vI k)]) yo_WC_total.1 rfl (Nat.le_of_ble_eq_true rfl) rfl (fun X hX hR => ?_)
  have hv := h.1
  obtain ⟨v1, v2, v3, v4, v5⟩ := id hv
  have hg3 := ok.1.2.1.2.2.2.1
  have hg4 := ok.1.2.1.2.2.2.2
  have zm3 := mul_bd (a := σ.1.1) (b := σ.1.2.2 3) (c := 60) (d := 60) (by omega) (by omega) (by omega) (by omega)
  have zcc : -7200 ≤ cS σ w ∧ cS σ w ≤ 7200 := by
    have zl := bgs_len σ.1.1 σ.1.2.1 σ.1.2.2 w v2
    have zs := sts_b σ.1.1 σ.1.2.1 σ.1.2.2 w
    have zm1 := mul_bd (a := ((bgs σ.1.1 σ.1.2.1 σ.1.2.2 w).length : Int) - (sts σ.1.1 σ.1.2.1 σ.1.2.2 w).1) (b := σ.1.2.2 3) (c := 60) (d := 60) (by omega) (by omega) (by omega) (by omega)
    have zm2 := mul_bd (a := (sts σ.1.1 σ.1.2.1 σ.1.2.2 w).1) (b := σ.1.2.2 4) (c := 60) (d := 60) (by omega) (by omega) (by omega) (by omega)
    unfold cS cst
    omega
  refine g_iload_n hX d_WC_total_0 rfl ?_
  refine g_callS hX yo_WC_isWay q_373 d_WC_total_1 (c_WC_isWay hw) rfl rfl (by decide) (Nat.le_of_ble_eq_true rfl) ⟨Nat.zero_le _, Nat.zero_le _⟩ (k_int fun r_1 M_1 ir_1 hp_1 => ?_)
  obtain ⟨er_1, eM_1⟩ := hp_1; replace er_1 := er_1.symm; replace eM_1 := eM_1.symm; subst er_1; subst eM_1
  refine g_if_eq 16 hX d_WC_total_4 (by decide) (by first | omega | exact ite_iR) (fun h_4 => ?_) (fun h_4 => ?_)
  · have z1 := ite_eq h_4
    refine g_sipush hX d_WC_total_16 rfl ?_
    refine g_iret hX hR d_WC_total_19 (by omega) ?_
    unfold q_total; rw [if_pos (by omega)]; exact ⟨rfl, h, fun _ _ => rfl⟩
  · have z1 := ite_ne h_4
    refine g_iload_n hX d_WC_total_7 rfl ?_
    refine g_iconst hX d_WC_total_8 ?_
    refine g_iconst hX d_WC_total_9 ?_
    refine g_callS hX yo_WC_isIn q_219 d_WC_total_10 (c_WC_isIn hk (by omega) (by omega)) rfl rfl (by decide) (Nat.le_of_ble_eq_true rfl) ⟨Nat.zero_le _, Nat.zero_le _⟩ (k_int fun r_10 M_10 ir_10 hp_10 => ?_)
    obtain ⟨er_10, eM_10⟩ := hp_10; replace er_10 := er_10.symm; replace eM_10 := eM_10.symm; subst er_10; subst eM_10
    refine g_if_ne 20 hX d_WC_total_13 (by decide) (by first | omega | exact ite_iR) (fun h_13 => ?_) (fun h_13 => ?_)
    · have z2 := ite_ne h_13
      refine g_aload_n hX d_WC_total_20 rfl ?_
      refine g_getR hX fl_WC_44 d_WC_total_21 ⟨rfl, by decide⟩ rfl rfl ?_
      refine g_callV hX yo_Plan_make q_376 d_WC_total_24 (c_Plan_make hv ok.1.2.1) rfl rfl ⟨rfl, by decide⟩ rfl (by decide) (Nat.le_of_ble_eq_true rfl) ⟨Nat.zero_le _, Nat.zero_le _⟩ (k_void fun M_24 hp_24 => ?_)
      obtain ⟨p1, p2⟩ := hp_24
      have hv2 : Sv M_24 1 σ.1.1 σ.1.2.1 σ.1.2.2 := hv.to (p2 1 (by decide) (by decide) (by decide) (by decide) (by decide) (by decide) (by decide)) (p2 2 (by decide) (by decide) (by decide) (by decide) (by decide) (by decide) (by decide)) (p2 3 (by decide) (by decide) (by decide) (by decide) (by decide) (by decide) (by decide))
      refine g_aload_n hX d_WC_total_27 rfl ?_
      refine g_getR hX fl_WC_44 d_WC_total_28 ⟨rfl, by decide⟩ rfl rfl ?_
      refine g_iload_n hX d_WC_total_31 rfl ?_
      refine g_callV hX yo_Plan_layOut q_420 d_WC_total_32 (c_Plan_layOut hv2 ok.1.2.1 z1 p1) rfl rfl ⟨rfl, by decide⟩ rfl (by decide) (Nat.le_of_ble_eq_true rfl) ⟨Nat.zero_le _, Nat.zero_le _⟩ (k_void fun M_32 hp_32 => ?_)
      obtain ⟨q1, q2⟩ := hp_32
      obtain ⟨e1, e2⟩ := CR_scr2 h p2 q2
      have hv3 := e1.1
      obtain ⟨y1, y2, y3, y4, y5⟩ := id hv3
      have zl := bgs_len σ.1.1 σ.1.2.1 σ.1.2.2 w v2
      have zs := sts_b σ.1.1 σ.1.2.1 σ.1.2.2 w
      obtain ⟨l1, l2, l3, l4, l5⟩ := id q1
      have zc : (M_32 24 7 - M_32 24 8) * σ.1.2.2 3 + M_32 24 8 * σ.1.2.2 4 = cS σ w := by (rw [l1, l3]; rfl)
      refine g_iload_n hX d_WC_total_35 rfl ?_
      by_cases z_36_0 : k = 0
      · refine g_tswI 0 72 hX d_WC_total_36 (by omega) (by omega) (by omega) rfl (by decide) ?_
        refine g_aload_n hX d_WC_total_72 rfl ?_
        refine g_getR hX fl_WC_44 d_WC_total_73 ⟨rfl, by decide⟩ rfl rfl ?_
        refine g_callV hX yo_Plan_parts q_428 d_WC_total_76 c_Plan_parts rfl rfl ⟨rfl, by decide⟩ rfl (by decide) (Nat.le_of_ble_eq_true rfl) ⟨Nat.zero_le _, Nat.zero_le _⟩ (k_int fun r_76 M_76 ir_76 hp_76 => ?_)
        obtain ⟨er_76, eM_76⟩ := hp_76; replace er_76 := er_76.symm; replace eM_76 := eM_76.symm; subst er_76; subst eM_76
        refine g_iret hX hR d_WC_total_79 (by omega) ?_
        unfold q_total; rw [if_neg (by omega), if_pos (by omega)]; exact ⟨l1, e1, e2⟩
      by_cases z_36_1 : k = 1
      · refine g_tswI 1 80 hX d_WC_total_36 (by omega) (by omega) (by omega) rfl (by decide) ?_
        refine g_aload_n hX d_WC_total_80 rfl ?_
        refine g_getR hX fl_WC_44 d_WC_total_81 ⟨rfl, by decide⟩ rfl rfl ?_
        refine g_callV hX yo_Plan_copies q_442 d_WC_total_84 c_Plan_copies rfl rfl ⟨rfl, by decide⟩ rfl (by decide) (Nat.le_of_ble_eq_true rfl) ⟨Nat.zero_le _, Nat.zero_le _⟩ (k_int fun r_84 M_84 ir_84 hp_84 => ?_)
        obtain ⟨er_84, eM_84⟩ := hp_84; replace er_84 := er_84.symm; replace eM_84 := eM_84.symm; subst er_84; subst eM_84
        refine g_iret hX hR d_WC_total_87 (by omega) ?_
        unfold q_total; rw [if_neg (by omega), if_neg (by omega), if_pos (by omega)]; exact ⟨l3, e1, e2⟩
      by_cases z_36_2 : k = 2
      · refine g_tswI 2 88 hX d_WC_total_36 (by omega) (by omega) (by omega) rfl (by decide) ?_
        refine g_aload_n hX d_WC_total_88 rfl ?_
        refine g_getR hX fl_WC_44 d_WC_total_89 ⟨rfl, by decide⟩ rfl rfl ?_
        refine g_callV hX yo_Plan_cost q_446 d_WC_total_92 (c_Plan_cost hv3 ok.1.2.1 (by omega)) rfl rfl ⟨rfl, by decide⟩ rfl (by decide) (Nat.le_of_ble_eq_true rfl) ⟨Nat.zero_le _, Nat.zero_le _⟩ (k_int fun r_92 M_92 ir_92 hp_92 => ?_)
        obtain ⟨er_92, eM_92⟩ := hp_92; replace er_92 := er_92.symm; replace eM_92 := eM_92.symm; subst er_92; subst eM_92
        rw [zc] at ir_92 ⊢
        refine g_iret hX hR d_WC_total_95 (by omega) ?_
        unfold q_total; rw [if_neg (by omega), if_neg (by omega), if_neg (by omega), if_pos (by omega)]; exact ⟨rfl, e1, e2⟩
      by_cases z_36_3 : k = 3
      · refine g_tswI 3 96 hX d_WC_total_36 (by omega) (by omega) (by omega) rfl (by decide) ?_
        refine g_aload_n hX d_WC_total_96 rfl ?_
        refine g_getR hX fl_WC_10 d_WC_total_97 ⟨rfl, by decide⟩ rfl rfl ?_
        refine g_callV hX yo_State_size q_222 d_WC_total_100 (c_State_size st_1) rfl rfl ⟨rfl, by decide⟩ rfl (by decide) (Nat.le_of_ble_eq_true rfl) ⟨Nat.zero_le _, Nat.zero_le _⟩ (k_int fun r_100 M_100 ir_100 hp_100 => ?_)
        obtain ⟨er_100, eM_100⟩ := hp_100; replace er_100 := er_100.symm; replace eM_100 := eM_100.symm; subst er_100; subst eM_100
        rw [y1] at ir_100 ⊢
        refine g_aload_n hX d_WC_total_103 rfl ?_
        refine g_getR hX fl_WC_10 d_WC_total_104 ⟨rfl, by decide⟩ rfl rfl ?_
        refine g_iconst hX d_WC_total_107 ?_
        refine g_callV hX yo_State_setting q_297 d_WC_total_108 (c_State_setting st_1 (p := 3) (by omega)) rfl rfl ⟨rfl, by decide⟩ rfl (by decide) (Nat.le_of_ble_eq_true rfl) ⟨Nat.zero_le _, Nat.zero_le _⟩ (k_int fun r_108 M_108 ir_108 hp_108 => ?_)
        obtain ⟨er_108, eM_108⟩ := hp_108; replace er_108 := er_108.symm; replace eM_108 := eM_108.symm; subst er_108; subst eM_108
        rw [y5 3 (by omega) (by omega)] at ir_108 ⊢
        refine g_imul hX d_WC_total_111 ?_
        refine g_aload_n hX d_WC_total_112 rfl ?_
        refine g_getR hX fl_WC_44 d_WC_total_113 ⟨rfl, by decide⟩ rfl rfl ?_
        refine g_callV hX yo_Plan_cost q_446 d_WC_total_116 (c_Plan_cost hv3 ok.1.2.1 (by omega)) rfl rfl ⟨rfl, by decide⟩ rfl (by decide) (Nat.le_of_ble_eq_true rfl) ⟨Nat.zero_le _, Nat.zero_le _⟩ (k_int fun r_116 M_116 ir_116 hp_116 => ?_)
        obtain ⟨er_116, eM_116⟩ := hp_116; replace er_116 := er_116.symm; replace eM_116 := eM_116.symm; subst er_116; subst eM_116
        rw [zc] at ir_116 ⊢
        refine g_isub hX d_WC_total_119 ?_
        refine g_iret hX hR d_WC_total_120 (by omega) ?_
        unfold q_total; rw [if_neg (by omega), if_neg (by omega), if_neg (by omega), if_neg (by omega), if_pos (by omega)]; exact ⟨rfl, e1, e2⟩
      by_cases z_36_4 : k = 4
      · refine g_tswI 4 121 hX d_WC_total_36 (by omega) (by omega) (by omega) rfl (by decide) ?_
        refine g_aload_n hX d_WC_total_121 rfl ?_
        refine g_getR hX fl_WC_44 d_WC_total_122 ⟨rfl, by decide⟩ rfl rfl ?_
        refine g_callV hX yo_Plan_copiedLetters q_450 d_WC_total_125 c_Plan_copiedLetters rfl rfl ⟨rfl, by decide⟩ rfl (by decide) (Nat.le_of_ble_eq_true rfl) ⟨Nat.zero_le _, Nat.zero_le _⟩ (k_int fun r_125 M_125 ir_125 hp_125 => ?_)
        obtain ⟨er_125, eM_125⟩ := hp_125; replace er_125 := er_125.symm; replace eM_125 := eM_125.symm; subst er_125; subst eM_125
        refine g_iret hX hR d_WC_total_128 (by omega) ?_
        unfold q_total; rw [if_neg (by omega), if_neg (by omega), if_neg (by omega), if_neg (by omega), if_neg (by omega), if_pos (by omega)]; exact ⟨l4, e1, e2⟩
      refine g_tswO 129 hX d_WC_total_36 (by omega) (by omega) (by decide) ?_
      refine g_aload_n hX d_WC_total_129 rfl ?_
      refine g_getR hX fl_WC_44 d_WC_total_130 ⟨rfl, by decide⟩ rfl rfl ?_
      refine g_callV hX yo_Plan_longestCopy q_454 d_WC_total_133 c_Plan_longestCopy rfl rfl ⟨rfl, by decide⟩ rfl (by decide) (Nat.le_of_ble_eq_true rfl) ⟨Nat.zero_le _, Nat.zero_le _⟩ (k_int fun r_133 M_133 ir_133 hp_133 => ?_)
      obtain ⟨er_133, eM_133⟩ := hp_133; replace er_133 := er_133.symm; replace eM_133 := eM_133.symm; subst er_133; subst eM_133
      refine g_iret hX hR d_WC_total_136 (by omega) ?_
      unfold q_total; rw [if_neg (by omega), if_neg (by omega), if_neg (by omega), if_neg (by omega), if_neg (by omega), if_neg (by omega)]; exact ⟨l5, e1, e2⟩
    · have z2 := ite_eq h_13
      refine g_sipush hX d_WC_total_16 rfl ?_
      refine g_iret hX hR d_WC_total_19 (by omega) ?_
      unfold q_total; rw [if_pos (by omega)]; exact ⟨rfl, h, fun _ _ => rfl⟩
