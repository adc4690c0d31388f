/-! the reference: partings, repeats, counts -/
theorem ly_mono {n : Int} {L : Int → Int} (q : Nat) (p : Int) (h : p < n) : ly L n (q + 1) p = p :: ly L n q (p + L p) := by rw [ly_succ, if_pos h]
theorem drop_cons {l t : List Int} {k : Nat} {p : Int} (h : l.drop k = p :: t) : k < l.length ∧ l.getD k 0 = p ∧ l.drop (k + 1) = t := by
  have hk : k < l.length := by
    rcases Nat.lt_or_ge k l.length with z | z
    · exact z
    · rw [List.drop_eq_nil_of_le z] at h; cases h
  rw [List.drop_eq_getElem_cons hk] at h
  injection h with h1 h2
  refine ⟨hk, ?_, h2⟩
  rw [List.getD_eq_getElem?_getD, List.getElem?_eq_getElem hk]
  exact h1
theorem c_Mo_parting {Γ : gX} {l : Launch} {M : mI} {σ : sG} {v w : Int} (h : MR M σ) (ok : OkV σ) (hw : iR v) (hp : iR w) : Cn Γ l i_Mo_parting R0 51 [.ref (gb Γ + 37), vI v, vI w] M (pI (fun r M' => r = q_parting σ v w ∧ MR M' σ ∧ ∀ a, a < 37 → M' a = M a)) := by
  refine cn_intro (L := [some (.ref (gb Γ + 37)), some (vI v), some (vI w), none, none]) yo_Mo_parting.1 rfl (Nat.le_of_ble_eq_true rfl) rfl (fun X hX hR => ?_)
  obtain ⟨v1, v2, v3, v4, v5⟩ := id h.1
  have zl1 := bgs_len σ.1.1 σ.1.2.1 σ.1.2.2 v v2
  have zl2 := bgs_len σ.1.1 σ.1.2.1 σ.1.2.2 w v2
  have LOOP : ∀ (q k : Nat) (p : Int) (M1 : mI), ((0 ≤ v ∧ v ≤ 2) ∧ (0 ≤ w ∧ w ≤ 2)) → LM M1 σ.1.1 σ.1.2.1 σ.1.2.2 w → FrL M1 M ∨ (MR M1 σ ∧ ∀ a, a < 37 → M1 a = M a) → (∀ j : Nat, j < (bgs σ.1.1 σ.1.2.1 σ.1.2.2 v).length → M1 48 j = pL σ.1.1 σ.1.2.1 σ.1.2.2 v ((bgs σ.1.1 σ.1.2.1 σ.1.2.2 v).getD j 0) ∧ M1 49 j = pD σ.1.1 σ.1.2.1 σ.1.2.2 v ((bgs σ.1.1 σ.1.2.1 σ.1.2.2 v).getD j 0)) → σ.1.1 - p ≤ q → 0 ≤ p → (bgs σ.1.1 σ.1.2.1 σ.1.2.2 v).drop k = ly (pL σ.1.1 σ.1.2.1 σ.1.2.2 v) σ.1.1 q p → (bgs σ.1.1 σ.1.2.1 σ.1.2.2 w).drop k = ly (pL σ.1.1 σ.1.2.1 σ.1.2.2 w) σ.1.1 q p → fuF σ.1.1 (pD σ.1.1 σ.1.2.1 σ.1.2.2 v) (pL σ.1.1 σ.1.2.1 σ.1.2.2 v) (pD σ.1.1 σ.1.2.1 σ.1.2.2 w) (pL σ.1.1 σ.1.2.1 σ.1.2.2 w) q p = fuP σ.1.1 σ.1.2.1 σ.1.2.2 v w → k ≤ (bgs σ.1.1 σ.1.2.1 σ.1.2.2 v).length → G Γ X 5 (R0, 51, 0, 0) 83 [some (.ref (gb Γ + 37)), some (vI v), some (vI w), some (vI (bgs σ.1.1 σ.1.2.1 σ.1.2.2 v).length), some (vI k)] [] M1 := by
    intro q
    induction q with
    | zero =>
      intro k p M1 hz hL hF hO hq h0 hd1 hd2 hf hk
      have hF2 : MR M1 σ ∧ ∀ a, a < 37 → M1 a = M a := by
        rcases hF with z | z
        · exact ⟨z.mr h, z.lo⟩
        · exact z
      have zd : (bgs σ.1.1 σ.1.2.1 σ.1.2.2 v).length ≤ k := List.drop_eq_nil_iff.mp hd1
      refine g_iload hX d_Mo_parting_83 rfl ?_
      refine g_iload_n hX d_Mo_parting_85 rfl ?_
      refine g_icmp_ge 146 hX d_Mo_parting_86 (by decide) (by omega) (by omega) (fun h_86 => ?_) (fun h_86 => ?_)
      · refine g_sipush hX d_Mo_parting_146 rfl ?_
        refine g_iret hX hR d_Mo_parting_149 (by omega) ?_
        have hf0 : fuP σ.1.1 σ.1.2.1 σ.1.2.2 v w = -1 := hf.symm; refine ⟨?_, hF2⟩; unfold q_parting; rw [if_neg (by omega), if_pos hf0]
      · exact absurd h_86 (by omega)
    | succ q ih =>
      intro k p M1 hz hL hF hO hq h0 hd1 hd2 hf hk
      have hF2 : MR M1 σ ∧ ∀ a, a < 37 → M1 a = M a := by
        rcases hF with z | z
        · exact ⟨z.mr h, z.lo⟩
        · exact z
      have e10 := hL.1
      by_cases hpn : p < σ.1.1
      · rw [ly_mono q p hpn] at hd1 hd2
        rw [fuF_succ, if_pos hpn] at hf
        obtain ⟨k1, k2, k3⟩ := drop_cons hd1
        obtain ⟨k4, k5, k6⟩ := drop_cons hd2
        have zA := hL.at ok.1.2.1 k4
        rw [k5] at zA
        have zO := hO k k1
        rw [k2] at zO
        have zB := pL_b (x := σ.1.2.1) ok.1.2.1 v p h0 hpn
        refine g_iload hX d_Mo_parting_83 rfl ?_
        refine g_iload_n hX d_Mo_parting_85 rfl ?_
        refine g_icmp_ge 146 hX d_Mo_parting_86 (by decide) (by omega) (by omega) (fun h_86 => ?_) (fun h_86 => ?_)
        · exact absurd h_86 (by omega)
        · refine g_iload hX d_Mo_parting_89 rfl ?_
          refine g_aload_n hX d_Mo_parting_91 rfl ?_
          refine g_getI hX fl_Mo_98 d_Mo_parting_92 10 ⟨rfl, by decide⟩ rfl rfl (fun r_92 => ?_)
          refine g_icmp_ge 146 hX d_Mo_parting_95 (by decide) (by omega) (by omega) (fun h_95 => ?_) (fun h_95 => ?_)
          · exact absurd h_95 (by omega)
          · refine g_aload_n hX d_Mo_parting_98 rfl ?_
            refine g_getR hX fl_Mo_40 d_Mo_parting_99 ⟨rfl, by decide⟩ rfl rfl ?_
            refine g_iload hX d_Mo_parting_102 rfl ?_
            refine g_iald hX d_Mo_parting_104 ⟨rfl, by decide⟩ (by omega) (fun r_104 => ?_)
            refine g_aload_n hX d_Mo_parting_105 rfl ?_
            refine g_getR hX fl_Mo_25 d_Mo_parting_106 ⟨rfl, by decide⟩ rfl rfl ?_
            refine g_iload hX d_Mo_parting_109 rfl ?_
            refine g_iald hX d_Mo_parting_111 ⟨rfl, by decide⟩ (by omega) (fun r_111 => ?_)
            refine g_icmp_ne 132 hX d_Mo_parting_112 (by decide) (by omega) (by omega) (fun h_112 => ?_) (fun h_112 => ?_)
            · rw [if_pos (by omega)] at hf
              refine g_aload_n hX d_Mo_parting_132 rfl ?_
              refine g_getR hX fl_Mo_22 d_Mo_parting_133 ⟨rfl, by decide⟩ rfl rfl ?_
              refine g_iload hX d_Mo_parting_136 rfl ?_
              refine g_iald hX d_Mo_parting_138 ⟨rfl, by decide⟩ (by omega) (fun r_138 => ?_)
              refine g_iret hX hR d_Mo_parting_139 (by omega) ?_
              refine ⟨?_, hF2⟩; unfold q_parting; rw [if_neg (by omega), if_neg (by omega)]; exact zA.1.trans hf
            · refine g_aload_n hX d_Mo_parting_115 rfl ?_
              refine g_getR hX fl_Mo_43 d_Mo_parting_116 ⟨rfl, by decide⟩ rfl rfl ?_
              refine g_iload hX d_Mo_parting_119 rfl ?_
              refine g_iald hX d_Mo_parting_121 ⟨rfl, by decide⟩ (by omega) (fun r_121 => ?_)
              refine g_aload_n hX d_Mo_parting_122 rfl ?_
              refine g_getR hX fl_Mo_28 d_Mo_parting_123 ⟨rfl, by decide⟩ rfl rfl ?_
              refine g_iload hX d_Mo_parting_126 rfl ?_
              refine g_iald hX d_Mo_parting_128 ⟨rfl, by decide⟩ (by omega) (fun r_128 => ?_)
              refine g_icmp_eq 140 hX d_Mo_parting_129 (by decide) (by omega) (by omega) (fun h_129 => ?_) (fun h_129 => ?_)
              · rw [if_neg (by omega)] at hf
                refine g_iinc hX d_Mo_parting_140 rfl (by decide) ?_
                refine g_goto 83 hX d_Mo_parting_143 (by decide) ?_
                rw [show (k : Int) + 1 = ((k + 1 : Nat) : Int) by omega]
                exact ih (k + 1) _ _ hz hL hF hO (by omega) (by omega) k3 (by rw [k6, show pL σ.1.1 σ.1.2.1 σ.1.2.2 w p = pL σ.1.1 σ.1.2.1 σ.1.2.2 v p by omega]) hf (by omega)
              · rw [if_pos (by omega)] at hf
                refine g_aload_n hX d_Mo_parting_132 rfl ?_
                refine g_getR hX fl_Mo_22 d_Mo_parting_133 ⟨rfl, by decide⟩ rfl rfl ?_
                refine g_iload hX d_Mo_parting_136 rfl ?_
                refine g_iald hX d_Mo_parting_138 ⟨rfl, by decide⟩ (by omega) (fun r_138 => ?_)
                refine g_iret hX hR d_Mo_parting_139 (by omega) ?_
                refine ⟨?_, hF2⟩; unfold q_parting; rw [if_neg (by omega), if_neg (by omega)]; exact zA.1.trans hf
      · rw [ly_end _ _ _ _ (by omega)] at hd1
        rw [fuF_end _ _ _ _ _ _ _ (by omega)] at hf
        have zd : (bgs σ.1.1 σ.1.2.1 σ.1.2.2 v).length ≤ k := List.drop_eq_nil_iff.mp hd1
        refine g_iload hX d_Mo_parting_83 rfl ?_
        refine g_iload_n hX d_Mo_parting_85 rfl ?_
        refine g_icmp_ge 146 hX d_Mo_parting_86 (by decide) (by omega) (by omega) (fun h_86 => ?_) (fun h_86 => ?_)
        · refine g_sipush hX d_Mo_parting_146 rfl ?_
          refine g_iret hX hR d_Mo_parting_149 (by omega) ?_
          refine ⟨?_, hF2⟩; unfold q_parting; rw [if_neg (by omega), if_pos hf.symm]
        · exact absurd h_86 (by omega)
  have COPY : ∀ (q k : Nat) (M1 : mI), ((0 ≤ v ∧ v ≤ 2) ∧ (0 ≤ w ∧ w ≤ 2)) → LM M1 σ.1.1 σ.1.2.1 σ.1.2.2 v → MR M1 σ → (∀ a, a < 37 → M1 a = M a) → (∀ j : Nat, j < k → M1 48 j = pL σ.1.1 σ.1.2.1 σ.1.2.2 v ((bgs σ.1.1 σ.1.2.1 σ.1.2.2 v).getD j 0) ∧ M1 49 j = pD σ.1.1 σ.1.2.1 σ.1.2.2 v ((bgs σ.1.1 σ.1.2.1 σ.1.2.2 v).getD j 0)) → (bgs σ.1.1 σ.1.2.1 σ.1.2.2 v).length - k = q → k ≤ (bgs σ.1.1 σ.1.2.1 σ.1.2.2 v).length → G Γ X 5 (R0, 51, 0, 0) 35 [some (.ref (gb Γ + 37)), some (vI v), some (vI w), some (vI (bgs σ.1.1 σ.1.2.1 σ.1.2.2 v).length), some (vI k)] [] M1 := by
    intro q
    induction q with
    | zero =>
      intro k M1 hz hL hm hlo hO hq hk
      refine g_iload hX d_Mo_parting_35 rfl ?_
      refine g_iload_n hX d_Mo_parting_37 rfl ?_
      refine g_icmp_ge 75 hX d_Mo_parting_38 (by decide) (by omega) (by omega) (fun h_38 => ?_) (fun h_38 => ?_)
      · refine g_aload_n hX d_Mo_parting_75 rfl ?_
        refine g_iload_n hX d_Mo_parting_76 rfl ?_
        refine g_callV hX yo_Mo_lays q_805 d_Mo_parting_77 (c_Mo_lays hm.1 ok.1.2.1 hz.2) rfl rfl ⟨rfl, by decide⟩ rfl (by decide) (Nat.le_of_ble_eq_true rfl) ⟨Nat.zero_le _, Nat.zero_le _⟩ (k_void fun M_77 hp_77 => ?_)
        obtain ⟨hL2, hF2⟩ := hp_77
        refine g_iconst hX d_Mo_parting_80 ?_
        refine g_istore hX d_Mo_parting_81 (by decide) ?_
        exact LOOP σ.1.1.toNat 0 0 _ hz hL2 (Or.inr ⟨hF2.mr hm, fun a u => (hF2.lo a u).trans (hlo a u)⟩) (fun j hj => by rw [hF2.1 48 (by decide) (by decide), hF2.1 49 (by decide) (by decide)]; exact hO j (by omega)) (by omega) (by omega) (by rw [List.drop_zero]; rfl) (by rw [List.drop_zero]; rfl) rfl (by omega)
      · exact absurd h_38 (by omega)
    | succ q ih =>
      intro k M1 hz hL hm hlo hO hq hk
      have zA := hL.at ok.1.2.1 (k := k) (by omega)
      refine g_iload hX d_Mo_parting_35 rfl ?_
      refine g_iload_n hX d_Mo_parting_37 rfl ?_
      refine g_icmp_ge 75 hX d_Mo_parting_38 (by decide) (by omega) (by omega) (fun h_38 => ?_) (fun h_38 => ?_)
      · exact absurd h_38 (by omega)
      · refine g_aload_n hX d_Mo_parting_41 rfl ?_
        refine g_getR hX fl_Mo_40 d_Mo_parting_42 ⟨rfl, by decide⟩ rfl rfl ?_
        refine g_iload hX d_Mo_parting_45 rfl ?_
        refine g_aload_n hX d_Mo_parting_47 rfl ?_
        refine g_getR hX fl_Mo_25 d_Mo_parting_48 ⟨rfl, by decide⟩ rfl rfl ?_
        refine g_iload hX d_Mo_parting_51 rfl ?_
        refine g_iald hX d_Mo_parting_53 ⟨rfl, by decide⟩ (by omega) (fun r_53 => ?_)
        refine g_iast hX d_Mo_parting_54 ⟨rfl, by decide⟩ (by omega) (by omega) ?_
        refine g_aload_n hX d_Mo_parting_55 rfl ?_
        refine g_getR hX fl_Mo_43 d_Mo_parting_56 ⟨rfl, by decide⟩ rfl rfl ?_
        refine g_iload hX d_Mo_parting_59 rfl ?_
        refine g_aload_n hX d_Mo_parting_61 rfl ?_
        refine g_getR hX fl_Mo_28 d_Mo_parting_62 ⟨rfl, by decide⟩ rfl rfl ?_
        refine g_iload hX d_Mo_parting_65 rfl ?_
        refine g_iald hX d_Mo_parting_67 ⟨rfl, by decide⟩ (by omega) (fun r_67 => ?_)
        rw [mU_cell (by decide)] at r_67 ⊢
        refine g_iast hX d_Mo_parting_68 ⟨rfl, by decide⟩ (by omega) (by omega) ?_
        refine g_iinc hX d_Mo_parting_69 rfl (by decide) ?_
        refine g_goto 35 hX d_Mo_parting_72 (by decide) ?_
        rw [show (k : Int) + 1 = ((k + 1 : Nat) : Int) by omega]
        refine ih (k + 1) _ hz ⟨by rw [mU_cell (by decide), mU_cell (by decide)]; exact hL.1, fun i b hb => by rw [mU_cell (by decide), mU_cell (by decide), mU_cell (by decide), mU_cell (by decide), mU_cell (by decide), mU_cell (by decide)]; exact hL.2 i b hb⟩ (hm.to (fun a u v => by rw [mU_cell (by omega), mU_cell (by omega)]) (by rw [mU_cell (by decide), mU_cell (by decide)]) (by rw [mU_cell (by decide), mU_cell (by decide)]) (by rw [mU_cell (by decide), mU_cell (by decide)])) (fun a u => by rw [mU_cell (by omega), mU_cell (by omega)]; exact hlo a u) (fun j hj => ?_) (by omega) (by omega)
        by_cases hjk : j = k
        · subst hjk; exact ⟨by rw [mU_cell (by decide), mU_self]; exact zA.2.1, by rw [mU_self]; exact zA.2.2.1⟩
        · have zo := hO j (by omega)
          exact ⟨by rw [mU_cell (by decide), mU_slot (by omega)]; exact zo.1, by rw [mU_slot (by omega), mU_cell (by decide)]; exact zo.2⟩
  refine g_iload_n hX d_Mo_parting_0 rfl ?_
  refine g_iconst hX d_Mo_parting_1 ?_
  refine g_iconst hX d_Mo_parting_2 ?_
  refine g_callS hX yo_Mo_in q_732 d_Mo_parting_3 (c_Mo_in hw (by omega) (by omega)) rfl rfl (by decide) (Nat.le_of_ble_eq_true rfl) ⟨Nat.zero_le _, Nat.zero_le _⟩ (k_int fun r_3 M_3 ir_3 hp_3 => ?_)
  obtain ⟨er_3, eM_3⟩ := hp_3; replace er_3 := er_3.symm; replace eM_3 := eM_3.symm; subst er_3; subst eM_3
  refine g_if_eq 18 hX d_Mo_parting_6 (by decide) (by first | omega | exact ite_iR) (fun h_6 => ?_) (fun h_6 => ?_)
  · have z1 := ite_eq h_6
    refine g_sipush hX d_Mo_parting_18 rfl ?_
    refine g_iret hX hR d_Mo_parting_21 (by omega) ?_
    refine ⟨?_, h, fun _ _ => rfl⟩; unfold q_parting; rw [if_pos (by omega)]
  · have z1 := ite_ne h_6
    refine g_iload_n hX d_Mo_parting_9 rfl ?_
    refine g_iconst hX d_Mo_parting_10 ?_
    refine g_iconst hX d_Mo_parting_11 ?_
    refine g_callS hX yo_Mo_in q_732 d_Mo_parting_12 (c_Mo_in hp (by omega) (by omega)) rfl rfl (by decide) (Nat.le_of_ble_eq_true rfl) ⟨Nat.zero_le _, Nat.zero_le _⟩ (k_int fun r_12 M_12 ir_12 hp_12 => ?_)
    obtain ⟨er_12, eM_12⟩ := hp_12; replace er_12 := er_12.symm; replace eM_12 := eM_12.symm; subst er_12; subst eM_12
    refine g_if_ne 22 hX d_Mo_parting_15 (by decide) (by first | omega | exact ite_iR) (fun h_15 => ?_) (fun h_15 => ?_)
    · have z2 := ite_ne h_15
      refine g_aload_n hX d_Mo_parting_22 rfl ?_
      refine g_iload_n hX d_Mo_parting_23 rfl ?_
      refine g_callV hX yo_Mo_lays q_805 d_Mo_parting_24 (c_Mo_lays h.1 ok.1.2.1 z1) rfl rfl ⟨rfl, by decide⟩ rfl (by decide) (Nat.le_of_ble_eq_true rfl) ⟨Nat.zero_le _, Nat.zero_le _⟩ (k_void fun M_24 hp_24 => ?_)
      obtain ⟨hL, hF⟩ := hp_24
      refine g_aload_n hX d_Mo_parting_27 rfl ?_
      refine g_getI hX fl_Mo_98 d_Mo_parting_28 10 ⟨rfl, by decide⟩ rfl rfl (fun r_28 => ?_)
      rw [hL.1] at r_28 ⊢
      refine g_istore_n hX d_Mo_parting_31 (by decide) ?_
      refine g_iconst hX d_Mo_parting_32 ?_
      refine g_istore hX d_Mo_parting_33 (by decide) ?_
      exact COPY _ 0 _ ⟨z1, z2⟩ hL (hF.mr h) hF.lo (fun j hj => absurd hj (by omega)) rfl (by omega)
    · have z2 := ite_eq h_15
      refine g_sipush hX d_Mo_parting_18 rfl ?_
      refine g_iret hX hR d_Mo_parting_21 (by omega) ?_
      refine ⟨?_, h, fun _ _ => rfl⟩; unfold q_parting; rw [if_pos (by omega)]
theorem c_Mo_stretch {Γ : gX} {l : Launch} {M : mI} {n i j : Int} {x g : Int → Int} (hv : Ns M n x g) (hi : 0 ≤ i ∧ i < j) (hj : j ≤ n) : Cn Γ l i_Mo_stretch R0 51 [.ref (gb Γ + 37), vI i, vI j] M (pI (fun r M' => r = lk n x j (j - i) ∧ M' = M)) := by
  refine cn_intro (L := [some (.ref (gb Γ + 37)), some (vI i), some (vI j), none]) yo_Mo_stretch.1 rfl (Nat.le_of_ble_eq_true rfl) rfl (fun X hX hR => ?_)
  obtain ⟨v1, v2, v3, v4, v5⟩ := id hv
  have LOOP : ∀ (q : Nat) (k : Int), (n - j - k).toNat = q → 0 ≤ k → j + k ≤ n → lk n x j (j - i) = k + lk n x (j + k) (j - i) → G Γ X 4 (R0, 51, 0, 0) 2 [some (.ref (gb Γ + 37)), some (vI i), some (vI j), some (vI k)] [] M := by
    intro q
    induction q with
    | zero =>
      intro k hq h0 h1 h2
      refine g_iload_n hX d_Mo_stretch_2 rfl ?_
      refine g_iload_n hX d_Mo_stretch_3 rfl ?_
      refine g_iadd hX d_Mo_stretch_4 ?_
      refine g_aload_n hX d_Mo_stretch_5 rfl ?_
      refine g_getR hX fl_Mo_7 d_Mo_stretch_6 ⟨rfl, by decide⟩ rfl rfl ?_
      refine g_iconst hX d_Mo_stretch_9 ?_
      refine g_iald hX d_Mo_stretch_10 ⟨rfl, by decide⟩ (by omega) (fun r_10 => ?_)
      refine g_icmp_ge 45 hX d_Mo_stretch_11 (by decide) (by omega) (by omega) (fun h_11 => ?_) (fun h_11 => ?_)
      · have z0 : k = lk n x j (j - i) := by (rw [lk_end (p := j + k) (by omega)] at h2; omega)
        refine g_iload_n hX d_Mo_stretch_45 rfl ?_
        refine g_iret hX hR d_Mo_stretch_46 (by omega) ?_
        exact ⟨z0, rfl⟩
      · exact absurd h_11 (by omega)
    | succ q ih =>
      intro k hq h0 h1 h2
      refine g_iload_n hX d_Mo_stretch_2 rfl ?_
      refine g_iload_n hX d_Mo_stretch_3 rfl ?_
      refine g_iadd hX d_Mo_stretch_4 ?_
      refine g_aload_n hX d_Mo_stretch_5 rfl ?_
      refine g_getR hX fl_Mo_7 d_Mo_stretch_6 ⟨rfl, by decide⟩ rfl rfl ?_
      refine g_iconst hX d_Mo_stretch_9 ?_
      refine g_iald hX d_Mo_stretch_10 ⟨rfl, by decide⟩ (by omega) (fun r_10 => ?_)
      refine g_icmp_ge 45 hX d_Mo_stretch_11 (by decide) (by omega) (by omega) (fun h_11 => ?_) (fun h_11 => ?_)
      · exact absurd h_11 (by omega)
      · refine g_aload_n hX d_Mo_stretch_14 rfl ?_
        refine g_getR hX fl_Mo_7 d_Mo_stretch_15 ⟨rfl, by decide⟩ rfl rfl ?_
        refine g_bipush hX d_Mo_stretch_18 rfl ?_
        refine g_iload_n hX d_Mo_stretch_20 rfl ?_
        refine g_iadd hX d_Mo_stretch_21 ?_
        refine g_iload_n hX d_Mo_stretch_22 rfl ?_
        refine g_iadd hX d_Mo_stretch_23 ?_
        refine g_iald hX d_Mo_stretch_24 ⟨rfl, by decide⟩ (by omega) (fun r_24 => ?_)
        refine g_aload_n hX d_Mo_stretch_25 rfl ?_
        refine g_getR hX fl_Mo_7 d_Mo_stretch_26 ⟨rfl, by decide⟩ rfl rfl ?_
        refine g_bipush hX d_Mo_stretch_29 rfl ?_
        refine g_iload_n hX d_Mo_stretch_31 rfl ?_
        refine g_iadd hX d_Mo_stretch_32 ?_
        refine g_iload_n hX d_Mo_stretch_33 rfl ?_
        refine g_iadd hX d_Mo_stretch_34 ?_
        refine g_iald hX d_Mo_stretch_35 ⟨rfl, by decide⟩ (by omega) (fun r_35 => ?_)
        refine g_icmp_ne 45 hX d_Mo_stretch_36 (by decide) (by omega) (by omega) (fun h_36 => ?_) (fun h_36 => ?_)
        · have z0 : k = lk n x j (j - i) := by (rw [lk_ne (p := j + k) (by omega) (by rw [← v4 (j + k) (by omega) (by omega), ← v4 (j + k - (j - i)) (by omega) (by omega), show 6 + (j + k) = 6 + j + k by omega, show 6 + (j + k - (j - i)) = 6 + i + k by omega]; exact Ne.symm h_36)] at h2; omega)
          refine g_iload_n hX d_Mo_stretch_45 rfl ?_
          refine g_iret hX hR d_Mo_stretch_46 (by omega) ?_
          exact ⟨z0, rfl⟩
        · refine g_iinc hX d_Mo_stretch_39 rfl (by decide) ?_
          refine g_goto 2 hX d_Mo_stretch_42 (by decide) ?_
          refine ih (k + 1) (by omega) (by omega) (by omega) ?_
          rw [h2, lk_eq (p := j + k) (by omega) (by rw [← v4 (j + k) (by omega) (by omega), ← v4 (j + k - (j - i)) (by omega) (by omega), show 6 + (j + k) = 6 + j + k by omega, show 6 + (j + k - (j - i)) = 6 + i + k by omega]; exact h_36.symm), show j + k + 1 = j + (k + 1) by omega]; omega
  refine g_iconst hX d_Mo_stretch_0 ?_
  refine g_istore_n hX d_Mo_stretch_1 (by decide) ?_
  refine LOOP _ 0 rfl (by omega) (by omega) ?_
  rw [Int.add_zero, Int.zero_add]
theorem c_Mo_repeat {Γ : gX} {l : Launch} {M : mI} {σ : sG} {w : Int} (h : MR M σ) (hw : iR w) : Cn Γ l i_Mo_repeat R0 51 [.ref (gb Γ + 37), vI w] M (pI (fun r M' => r = q_repeat σ w ∧ M' = M)) := by
  refine cn_intro (L := [some (.ref (gb Γ + 37)), some (vI w), none, none, none, none, none, none]) yo_Mo_repeat.1 rfl (Nat.le_of_ble_eq_true rfl) rfl (fun X hX hR => ?_)
  obtain ⟨v1, v2, v3, v4, v5⟩ := id h.1
  have OUT : ∀ (q j : Nat) (a b c : Int) (o6 o7 : Option Value), (0 ≤ w ∧ w ≤ 2) → (σ.1.1 - j).toNat = q → 1 ≤ j → ((j : Int) ≤ σ.1.1 ∨ j = 1) → rpO σ.1.1 σ.1.2.1 j = (a, b, c) → iR a → iR b → iR c → G Γ X 8 (R0, 51, 0, 0) 23 [some (.ref (gb Γ + 37)), some (vI w), some (vI a), some (vI b), some (vI c), some (vI j), o6, o7] [] M := by
    intro q
    induction q with
    | zero =>
      intro j a b c o6 o7 hz hq h1 h2 hr ia ib ic
      have zr : rep σ.1.1 σ.1.2.1 = (a, b, c) := by
        rcases h2 with h3 | h3
        · unfold rep; rw [show σ.1.1.toNat = j by omega]; exact hr
        · subst h3
          by_cases hn : σ.1.1 = 0
          · unfold rep; rw [show σ.1.1.toNat = 0 by omega]; exact hr
          · unfold rep; rw [show σ.1.1.toNat = 1 by omega]; exact hr
      refine g_iload hX d_Mo_repeat_23 rfl ?_
      refine g_aload_n hX d_Mo_repeat_25 rfl ?_
      refine g_getR hX fl_Mo_7 d_Mo_repeat_26 ⟨rfl, by decide⟩ rfl rfl ?_
      refine g_iconst hX d_Mo_repeat_29 ?_
      refine g_iald hX d_Mo_repeat_30 ⟨rfl, by decide⟩ (by omega) (fun r_30 => ?_)
      refine g_icmp_ge 107 hX d_Mo_repeat_31 (by decide) (by omega) (by omega) (fun h_31 => ?_) (fun h_31 => ?_)
      · refine g_iload_n hX d_Mo_repeat_107 rfl ?_
        refine g_if_ne 117 hX d_Mo_repeat_108 (by decide) (by first | omega | exact ite_iR) (fun h_108 => ?_) (fun h_108 => ?_)
        · refine g_iload_n hX d_Mo_repeat_117 rfl ?_
          refine g_if_ne 125 hX d_Mo_repeat_118 (by decide) (by first | omega | exact ite_iR) (fun h_118 => ?_) (fun h_118 => ?_)
          · refine g_iload_n hX d_Mo_repeat_125 rfl ?_
            refine g_iconst hX d_Mo_repeat_126 ?_
            refine g_icmp_ne 134 hX d_Mo_repeat_127 (by decide) (by omega) (by omega) (fun h_127 => ?_) (fun h_127 => ?_)
            · refine g_iload hX d_Mo_repeat_134 rfl ?_
              refine g_iret hX hR d_Mo_repeat_136 (by omega) ?_
              refine ⟨?_, rfl⟩; unfold q_repeat; rw [zr, if_neg (by omega)]; first | (rw [if_pos h_108]; done) | (rw [if_neg h_108, if_pos h_118]; done) | (rw [if_neg h_108, if_neg h_118, if_pos h_127]; done) | (rw [if_neg h_108, if_neg h_118, if_neg h_127]; done)
            · refine g_iload_n hX d_Mo_repeat_130 rfl ?_
              refine g_goto 136 hX d_Mo_repeat_131 (by decide) ?_
              refine g_iret hX hR d_Mo_repeat_136 (by omega) ?_
              refine ⟨?_, rfl⟩; unfold q_repeat; rw [zr, if_neg (by omega)]; first | (rw [if_pos h_108]; done) | (rw [if_neg h_108, if_pos h_118]; done) | (rw [if_neg h_108, if_neg h_118, if_pos h_127]; done) | (rw [if_neg h_108, if_neg h_118, if_neg h_127]; done)
          · refine g_iload_n hX d_Mo_repeat_121 rfl ?_
            refine g_goto 136 hX d_Mo_repeat_122 (by decide) ?_
            refine g_iret hX hR d_Mo_repeat_136 (by omega) ?_
            refine ⟨?_, rfl⟩; unfold q_repeat; rw [zr, if_neg (by omega)]; first | (rw [if_pos h_108]; done) | (rw [if_neg h_108, if_pos h_118]; done) | (rw [if_neg h_108, if_neg h_118, if_pos h_127]; done) | (rw [if_neg h_108, if_neg h_118, if_neg h_127]; done)
        · refine g_sipush hX d_Mo_repeat_111 rfl ?_
          refine g_goto 136 hX d_Mo_repeat_114 (by decide) ?_
          refine g_iret hX hR d_Mo_repeat_136 (by omega) ?_
          refine ⟨?_, rfl⟩; unfold q_repeat; rw [zr, if_neg (by omega)]; first | (rw [if_pos h_108]; done) | (rw [if_neg h_108, if_pos h_118]; done) | (rw [if_neg h_108, if_neg h_118, if_pos h_127]; done) | (rw [if_neg h_108, if_neg h_118, if_neg h_127]; done)
      · exact absurd h_31 (by omega)
    | succ q ih =>
      intro j a b c o6 o7 hz hq h1 h2 hr ia ib ic
      have INN : ∀ (q2 i : Nat) (a b c : Int) (o7 : Option Value), i + q2 = j → rpI σ.1.1 σ.1.2.1 j (rpO σ.1.1 σ.1.2.1 j) i = (a, b, c) → iR a → iR b → iR c → G Γ X 8 (R0, 51, 0, 0) 37 [some (.ref (gb Γ + 37)), some (vI w), some (vI a), some (vI b), some (vI c), some (vI j), some (vI i), o7] [] M := by
        intro q2
        induction q2 with
        | zero =>
          intro i a b c o7 hq2 hr2 ia ib ic
          refine g_iload hX d_Mo_repeat_37 rfl ?_
          refine g_iload hX d_Mo_repeat_39 rfl ?_
          refine g_icmp_ge 101 hX d_Mo_repeat_41 (by decide) (by omega) (by omega) (fun h_41 => ?_) (fun h_41 => ?_)
          · refine g_iinc hX d_Mo_repeat_101 rfl (by decide) ?_
            refine g_goto 23 hX d_Mo_repeat_104 (by decide) ?_
            rw [show (j : Int) + 1 = ((j + 1 : Nat) : Int) by omega]
            exact ih (j + 1) _ _ _ _ _ hz (by omega) (by omega) (by omega) (by show rpI σ.1.1 σ.1.2.1 j (rpO σ.1.1 σ.1.2.1 j) j = _; rw [show i = j by omega] at hr2; exact hr2) ia ib ic
          · exact absurd h_41 (by omega)
        | succ q2 ih2 =>
          intro i a b c o7 hq2 hr2 ia ib ic
          have zS : rpI σ.1.1 σ.1.2.1 j (rpO σ.1.1 σ.1.2.1 j) (i + 1) = if a < lk σ.1.1 σ.1.2.1 j (j - i) then (lk σ.1.1 σ.1.2.1 j (j - i), (i : Int), (j : Int)) else (a, b, c) := by
            show (if (rpI σ.1.1 σ.1.2.1 j (rpO σ.1.1 σ.1.2.1 j) i).1 < lk σ.1.1 σ.1.2.1 j (j - i) then (lk σ.1.1 σ.1.2.1 j (j - i), (i : Int), (j : Int)) else rpI σ.1.1 σ.1.2.1 j (rpO σ.1.1 σ.1.2.1 j) i) = _
            rw [hr2]
          refine g_iload hX d_Mo_repeat_37 rfl ?_
          refine g_iload hX d_Mo_repeat_39 rfl ?_
          refine g_icmp_ge 101 hX d_Mo_repeat_41 (by decide) (by omega) (by omega) (fun h_41 => ?_) (fun h_41 => ?_)
          · exact absurd h_41 (by omega)
          · refine g_aload_n hX d_Mo_repeat_44 rfl ?_
            refine g_iload hX d_Mo_repeat_45 rfl ?_
            refine g_iload hX d_Mo_repeat_47 rfl ?_
            refine g_callV hX yo_Mo_stretch q_845 d_Mo_repeat_49 (c_Mo_stretch h.1 (i := i) (j := j) (by omega) (by omega)) rfl rfl ⟨rfl, by decide⟩ rfl (by decide) (Nat.le_of_ble_eq_true rfl) ⟨Nat.zero_le _, Nat.zero_le _⟩ (k_int fun r_49 M_49 ir_49 hp_49 => ?_)
            obtain ⟨er_49, eM_49⟩ := hp_49; replace er_49 := er_49.symm; replace eM_49 := eM_49.symm; subst er_49; subst eM_49
            refine g_istore hX d_Mo_repeat_52 (by decide) ?_
            refine g_iload hX d_Mo_repeat_54 rfl ?_
            refine g_iload_n hX d_Mo_repeat_56 rfl ?_
            refine g_icmp_le 65 hX d_Mo_repeat_57 (by decide) (by omega) (by omega) (fun h_57 => ?_) (fun h_57 => ?_)
            · refine g_iload_n hX d_Mo_repeat_65 rfl ?_
              refine g_istore_n hX d_Mo_repeat_66 (by decide) ?_
              refine g_iload hX d_Mo_repeat_67 rfl ?_
              refine g_iload_n hX d_Mo_repeat_69 rfl ?_
              refine g_icmp_le 78 hX d_Mo_repeat_70 (by decide) (by omega) (by omega) (fun h_70 => ?_) (fun h_70 => ?_)
              · refine g_iload hX d_Mo_repeat_78 rfl ?_
                refine g_istore hX d_Mo_repeat_80 (by decide) ?_
                refine g_iload hX d_Mo_repeat_82 rfl ?_
                refine g_iload_n hX d_Mo_repeat_84 rfl ?_
                refine g_icmp_le 93 hX d_Mo_repeat_85 (by decide) (by omega) (by omega) (fun h_85 => ?_) (fun h_85 => ?_)
                · refine g_iload_n hX d_Mo_repeat_93 rfl ?_
                  refine g_istore_n hX d_Mo_repeat_94 (by decide) ?_
                  refine g_iinc hX d_Mo_repeat_95 rfl (by decide) ?_
                  refine g_goto 37 hX d_Mo_repeat_98 (by decide) ?_
                  first | (exfalso; omega) | (rw [show (i : Int) + 1 = ((i + 1 : Nat) : Int) by omega]; exact ih2 (i + 1) _ _ _ _ (by omega) (by rw [zS]; first | (rw [if_pos (by omega)]; done) | (rw [if_neg (by omega)]; done)) (by omega) (by omega) (by omega))
                · refine g_iload hX d_Mo_repeat_88 rfl ?_
                  refine g_goto 94 hX d_Mo_repeat_90 (by decide) ?_
                  refine g_istore_n hX d_Mo_repeat_94 (by decide) ?_
                  refine g_iinc hX d_Mo_repeat_95 rfl (by decide) ?_
                  refine g_goto 37 hX d_Mo_repeat_98 (by decide) ?_
                  first | (exfalso; omega) | (rw [show (i : Int) + 1 = ((i + 1 : Nat) : Int) by omega]; exact ih2 (i + 1) _ _ _ _ (by omega) (by rw [zS]; first | (rw [if_pos (by omega)]; done) | (rw [if_neg (by omega)]; done)) (by omega) (by omega) (by omega))
              · refine g_iload hX d_Mo_repeat_73 rfl ?_
                refine g_goto 80 hX d_Mo_repeat_75 (by decide) ?_
                refine g_istore hX d_Mo_repeat_80 (by decide) ?_
                refine g_iload hX d_Mo_repeat_82 rfl ?_
                refine g_iload_n hX d_Mo_repeat_84 rfl ?_
                refine g_icmp_le 93 hX d_Mo_repeat_85 (by decide) (by omega) (by omega) (fun h_85 => ?_) (fun h_85 => ?_)
                · refine g_iload_n hX d_Mo_repeat_93 rfl ?_
                  refine g_istore_n hX d_Mo_repeat_94 (by decide) ?_
                  refine g_iinc hX d_Mo_repeat_95 rfl (by decide) ?_
                  refine g_goto 37 hX d_Mo_repeat_98 (by decide) ?_
                  first | (exfalso; omega) | (rw [show (i : Int) + 1 = ((i + 1 : Nat) : Int) by omega]; exact ih2 (i + 1) _ _ _ _ (by omega) (by rw [zS]; first | (rw [if_pos (by omega)]; done) | (rw [if_neg (by omega)]; done)) (by omega) (by omega) (by omega))
                · refine g_iload hX d_Mo_repeat_88 rfl ?_
                  refine g_goto 94 hX d_Mo_repeat_90 (by decide) ?_
                  refine g_istore_n hX d_Mo_repeat_94 (by decide) ?_
                  refine g_iinc hX d_Mo_repeat_95 rfl (by decide) ?_
                  refine g_goto 37 hX d_Mo_repeat_98 (by decide) ?_
                  first | (exfalso; omega) | (rw [show (i : Int) + 1 = ((i + 1 : Nat) : Int) by omega]; exact ih2 (i + 1) _ _ _ _ (by omega) (by rw [zS]; first | (rw [if_pos (by omega)]; done) | (rw [if_neg (by omega)]; done)) (by omega) (by omega) (by omega))
            · refine g_iload hX d_Mo_repeat_60 rfl ?_
              refine g_goto 66 hX d_Mo_repeat_62 (by decide) ?_
              refine g_istore_n hX d_Mo_repeat_66 (by decide) ?_
              refine g_iload hX d_Mo_repeat_67 rfl ?_
              refine g_iload_n hX d_Mo_repeat_69 rfl ?_
              refine g_icmp_le 78 hX d_Mo_repeat_70 (by decide) (by omega) (by omega) (fun h_70 => ?_) (fun h_70 => ?_)
              · refine g_iload hX d_Mo_repeat_78 rfl ?_
                refine g_istore hX d_Mo_repeat_80 (by decide) ?_
                refine g_iload hX d_Mo_repeat_82 rfl ?_
                refine g_iload_n hX d_Mo_repeat_84 rfl ?_
                refine g_icmp_le 93 hX d_Mo_repeat_85 (by decide) (by omega) (by omega) (fun h_85 => ?_) (fun h_85 => ?_)
                · refine g_iload_n hX d_Mo_repeat_93 rfl ?_
                  refine g_istore_n hX d_Mo_repeat_94 (by decide) ?_
                  refine g_iinc hX d_Mo_repeat_95 rfl (by decide) ?_
                  refine g_goto 37 hX d_Mo_repeat_98 (by decide) ?_
                  first | (exfalso; omega) | (rw [show (i : Int) + 1 = ((i + 1 : Nat) : Int) by omega]; exact ih2 (i + 1) _ _ _ _ (by omega) (by rw [zS]; first | (rw [if_pos (by omega)]; done) | (rw [if_neg (by omega)]; done)) (by omega) (by omega) (by omega))
                · refine g_iload hX d_Mo_repeat_88 rfl ?_
                  refine g_goto 94 hX d_Mo_repeat_90 (by decide) ?_
                  refine g_istore_n hX d_Mo_repeat_94 (by decide) ?_
                  refine g_iinc hX d_Mo_repeat_95 rfl (by decide) ?_
                  refine g_goto 37 hX d_Mo_repeat_98 (by decide) ?_
                  first | (exfalso; omega) | (rw [show (i : Int) + 1 = ((i + 1 : Nat) : Int) by omega]; exact ih2 (i + 1) _ _ _ _ (by omega) (by rw [zS]; first | (rw [if_pos (by omega)]; done) | (rw [if_neg (by omega)]; done)) (by omega) (by omega) (by omega))
              · refine g_iload hX d_Mo_repeat_73 rfl ?_
                refine g_goto 80 hX d_Mo_repeat_75 (by decide) ?_
                refine g_istore hX d_Mo_repeat_80 (by decide) ?_
                refine g_iload hX d_Mo_repeat_82 rfl ?_
                refine g_iload_n hX d_Mo_repeat_84 rfl ?_
                refine g_icmp_le 93 hX d_Mo_repeat_85 (by decide) (by omega) (by omega) (fun h_85 => ?_) (fun h_85 => ?_)
                · refine g_iload_n hX d_Mo_repeat_93 rfl ?_
                  refine g_istore_n hX d_Mo_repeat_94 (by decide) ?_
                  refine g_iinc hX d_Mo_repeat_95 rfl (by decide) ?_
                  refine g_goto 37 hX d_Mo_repeat_98 (by decide) ?_
                  first | (exfalso; omega) | (rw [show (i : Int) + 1 = ((i + 1 : Nat) : Int) by omega]; exact ih2 (i + 1) _ _ _ _ (by omega) (by rw [zS]; first | (rw [if_pos (by omega)]; done) | (rw [if_neg (by omega)]; done)) (by omega) (by omega) (by omega))
                · refine g_iload hX d_Mo_repeat_88 rfl ?_
                  refine g_goto 94 hX d_Mo_repeat_90 (by decide) ?_
                  refine g_istore_n hX d_Mo_repeat_94 (by decide) ?_
                  refine g_iinc hX d_Mo_repeat_95 rfl (by decide) ?_
                  refine g_goto 37 hX d_Mo_repeat_98 (by decide) ?_
                  first | (exfalso; omega) | (rw [show (i : Int) + 1 = ((i + 1 : Nat) : Int) by omega]; exact ih2 (i + 1) _ _ _ _ (by omega) (by rw [zS]; first | (rw [if_pos (by omega)]; done) | (rw [if_neg (by omega)]; done)) (by omega) (by omega) (by omega))
      refine g_iload hX d_Mo_repeat_23 rfl ?_
      refine g_aload_n hX d_Mo_repeat_25 rfl ?_
      refine g_getR hX fl_Mo_7 d_Mo_repeat_26 ⟨rfl, by decide⟩ rfl rfl ?_
      refine g_iconst hX d_Mo_repeat_29 ?_
      refine g_iald hX d_Mo_repeat_30 ⟨rfl, by decide⟩ (by omega) (fun r_30 => ?_)
      refine g_icmp_ge 107 hX d_Mo_repeat_31 (by decide) (by omega) (by omega) (fun h_31 => ?_) (fun h_31 => ?_)
      · exact absurd h_31 (by omega)
      · refine g_iconst hX d_Mo_repeat_34 ?_
        refine g_istore hX d_Mo_repeat_35 (by decide) ?_
        exact INN j 0 _ _ _ _ (by omega) hr ia ib ic
  refine g_iload_n hX d_Mo_repeat_0 rfl ?_
  refine g_iconst hX d_Mo_repeat_1 ?_
  refine g_iconst hX d_Mo_repeat_2 ?_
  refine g_callS hX yo_Mo_in q_732 d_Mo_repeat_3 (c_Mo_in hw (by omega) (by omega)) rfl rfl (by decide) (Nat.le_of_ble_eq_true rfl) ⟨Nat.zero_le _, Nat.zero_le _⟩ (k_int fun r_3 M_3 ir_3 hp_3 => ?_)
  obtain ⟨er_3, eM_3⟩ := hp_3; replace er_3 := er_3.symm; replace eM_3 := eM_3.symm; subst er_3; subst eM_3
  refine g_if_ne 13 hX d_Mo_repeat_6 (by decide) (by first | omega | exact ite_iR) (fun h_6 => ?_) (fun h_6 => ?_)
  · have z1 := ite_ne h_6
    refine g_iconst hX d_Mo_repeat_13 ?_
    refine g_istore_n hX d_Mo_repeat_14 (by decide) ?_
    refine g_iconst hX d_Mo_repeat_15 ?_
    refine g_istore_n hX d_Mo_repeat_16 (by decide) ?_
    refine g_iconst hX d_Mo_repeat_17 ?_
    refine g_istore hX d_Mo_repeat_18 (by decide) ?_
    refine g_iconst hX d_Mo_repeat_20 ?_
    refine g_istore hX d_Mo_repeat_21 (by decide) ?_
    exact OUT _ 1 0 0 0 _ _ z1 rfl (by omega) (Or.inr rfl) rfl (by omega) (by omega) (by omega)
  · have z1 := ite_eq h_6
    refine g_sipush hX d_Mo_repeat_9 rfl ?_
    refine g_iret hX hR d_Mo_repeat_12 (by omega) ?_
    refine ⟨?_, rfl⟩; unfold q_repeat; rw [if_pos z1]
theorem c_Mo_cheapest {Γ : gX} {l : Launch} {M : mI} {σ : sG} (h : MR M σ) (ok : OkV σ) : Cn Γ l i_Mo_cheapest R0 51 [.ref (gb Γ + 37)] M (pI (fun r M' => r = chW σ ∧ MR M' σ ∧ ∀ a, a < 37 → M' a = M a)) := by
  refine cn_intro (L := [some (.ref (gb Γ + 37)), none]) yo_Mo_cheapest.1 rfl (Nat.le_of_ble_eq_true rfl) rfl (fun X hX hR => ?_)
  refine g_aload_n hX d_Mo_cheapest_0 rfl ?_
  refine g_iconst hX d_Mo_cheapest_1 ?_
  refine g_callV hX yo_Mo_costAll q_829 d_Mo_cheapest_2 (c_Mo_costAll h.1 ok.1.2.1 (by omega)) rfl rfl ⟨rfl, by decide⟩ rfl (by decide) (Nat.le_of_ble_eq_true rfl) ⟨Nat.zero_le _, Nat.zero_le _⟩ (k_int fun r_2 M_2 ir_2 hp_2 => ?_)
  obtain ⟨er2, hL2, hF2, hb2⟩ := hp_2
  have hm2 := hF2.mr h
  refine g_aload_n hX d_Mo_cheapest_5 rfl ?_
  refine g_iconst hX d_Mo_cheapest_6 ?_
  refine g_callV hX yo_Mo_costAll q_829 d_Mo_cheapest_7 (c_Mo_costAll hm2.1 ok.1.2.1 (by omega)) rfl rfl ⟨rfl, by decide⟩ rfl (by decide) (Nat.le_of_ble_eq_true rfl) ⟨Nat.zero_le _, Nat.zero_le _⟩ (k_int fun r_7 M_7 ir_7 hp_7 => ?_)
  obtain ⟨er7, hL7, hF7, hb7⟩ := hp_7
  have hm7 := hF7.mr hm2
  refine g_icmp_ge 17 hX d_Mo_cheapest_10 (by decide) (by omega) (by omega) (fun h_10 => ?_) (fun h_10 => ?_)
  · refine g_iconst hX d_Mo_cheapest_17 ?_
    refine g_istore_n hX d_Mo_cheapest_18 (by decide) ?_
    refine g_aload_n hX d_Mo_cheapest_19 rfl ?_
    refine g_iconst hX d_Mo_cheapest_20 ?_
    refine g_callV hX yo_Mo_costAll q_829 d_Mo_cheapest_21 (c_Mo_costAll hm7.1 ok.1.2.1 (by omega)) rfl rfl ⟨rfl, by decide⟩ rfl (by decide) (Nat.le_of_ble_eq_true rfl) ⟨Nat.zero_le _, Nat.zero_le _⟩ (k_int fun r_21 M_21 ir_21 hp_21 => ?_)
    obtain ⟨er21, hL21, hF21, hb21⟩ := hp_21
    have hm21 := hF21.mr hm7
    refine g_aload_n hX d_Mo_cheapest_24 rfl ?_
    refine g_iload_n hX d_Mo_cheapest_25 rfl ?_
    refine g_callV hX yo_Mo_costAll q_829 d_Mo_cheapest_26 (c_Mo_costAll hm21.1 ok.1.2.1 (by omega)) rfl rfl ⟨rfl, by decide⟩ rfl (by decide) (Nat.le_of_ble_eq_true rfl) ⟨Nat.zero_le _, Nat.zero_le _⟩ (k_int fun r_26 M_26 ir_26 hp_26 => ?_)
    obtain ⟨er26, hL26, hF26, hb26⟩ := hp_26
    have hm26 := hF26.mr hm21
    refine g_icmp_ge 36 hX d_Mo_cheapest_29 (by decide) (by omega) (by omega) (fun h_29 => ?_) (fun h_29 => ?_)
    · refine g_iload_n hX d_Mo_cheapest_36 rfl ?_
      refine g_iret hX hR d_Mo_cheapest_37 (by omega) ?_
      refine ⟨?_, hm26, fun a u => by rw [hF26.lo a u, hF21.lo a u, hF7.lo a u, hF2.lo a u]⟩; unfold chW cS; rw [← er2, ← er7, ← er21]; first | (rw [if_pos (by omega), if_pos (by omega)]; done) | (rw [if_pos (by omega), if_neg (by omega)]; done) | (rw [if_neg (by omega), if_pos (by omega)]; done) | (rw [if_neg (by omega), if_neg (by omega)]; done)
    · refine g_iconst hX d_Mo_cheapest_32 ?_
      refine g_goto 37 hX d_Mo_cheapest_33 (by decide) ?_
      refine g_iret hX hR d_Mo_cheapest_37 (by omega) ?_
      refine ⟨?_, hm26, fun a u => by rw [hF26.lo a u, hF21.lo a u, hF7.lo a u, hF2.lo a u]⟩; unfold chW cS; rw [← er2, ← er7, ← er21]; first | (rw [if_pos (by omega), if_pos (by omega)]; done) | (rw [if_pos (by omega), if_neg (by omega)]; done) | (rw [if_neg (by omega), if_pos (by omega)]; done) | (rw [if_neg (by omega), if_neg (by omega)]; done)
  · refine g_iconst hX d_Mo_cheapest_13 ?_
    refine g_goto 18 hX d_Mo_cheapest_14 (by decide) ?_
    refine g_istore_n hX d_Mo_cheapest_18 (by decide) ?_
    refine g_aload_n hX d_Mo_cheapest_19 rfl ?_
    refine g_iconst hX d_Mo_cheapest_20 ?_
    refine g_callV hX yo_Mo_costAll q_829 d_Mo_cheapest_21 (c_Mo_costAll hm7.1 ok.1.2.1 (by omega)) rfl rfl ⟨rfl, by decide⟩ rfl (by decide) (Nat.le_of_ble_eq_true rfl) ⟨Nat.zero_le _, Nat.zero_le _⟩ (k_int fun r_21 M_21 ir_21 hp_21 => ?_)
    obtain ⟨er21, hL21, hF21, hb21⟩ := hp_21
    have hm21 := hF21.mr hm7
    refine g_aload_n hX d_Mo_cheapest_24 rfl ?_
    refine g_iload_n hX d_Mo_cheapest_25 rfl ?_
    refine g_callV hX yo_Mo_costAll q_829 d_Mo_cheapest_26 (c_Mo_costAll hm21.1 ok.1.2.1 (by omega)) rfl rfl ⟨rfl, by decide⟩ rfl (by decide) (Nat.le_of_ble_eq_true rfl) ⟨Nat.zero_le _, Nat.zero_le _⟩ (k_int fun r_26 M_26 ir_26 hp_26 => ?_)
    obtain ⟨er26, hL26, hF26, hb26⟩ := hp_26
    have hm26 := hF26.mr hm21
    refine g_icmp_ge 36 hX d_Mo_cheapest_29 (by decide) (by omega) (by omega) (fun h_29 => ?_) (fun h_29 => ?_)
    · refine g_iload_n hX d_Mo_cheapest_36 rfl ?_
      refine g_iret hX hR d_Mo_cheapest_37 (by omega) ?_
      refine ⟨?_, hm26, fun a u => by rw [hF26.lo a u, hF21.lo a u, hF7.lo a u, hF2.lo a u]⟩; unfold chW cS; rw [← er2, ← er7, ← er21]; first | (rw [if_pos (by omega), if_pos (by omega)]; done) | (rw [if_pos (by omega), if_neg (by omega)]; done) | (rw [if_neg (by omega), if_pos (by omega)]; done) | (rw [if_neg (by omega), if_neg (by omega)]; done)
    · refine g_iconst hX d_Mo_cheapest_32 ?_
      refine g_goto 37 hX d_Mo_cheapest_33 (by decide) ?_
      refine g_iret hX hR d_Mo_cheapest_37 (by omega) ?_
      refine ⟨?_, hm26, fun a u => by rw [hF26.lo a u, hF21.lo a u, hF7.lo a u, hF2.lo a u]⟩; unfold chW cS; rw [← er2, ← er7, ← er21]; first | (rw [if_pos (by omega), if_pos (by omega)]; done) | (rw [if_pos (by omega), if_neg (by omega)]; done) | (rw [if_neg (by omega), if_pos (by omega)]; done) | (rw [if_neg (by omega), if_neg (by omega)]; done)
