/-! the reference: its ways -/
theorem c_Mo_savesMore {Γ : gX} {l : Launch} {M : mI} {n p t : Int} {x g : Int → Int} (hv : Ns M n x g) (hg : Og g) (hp : 0 ≤ p ∧ iR p) (ht : 0 < t ∧ iR t) : Cn Γ l i_Mo_savesMore R0 51 [.ref (gb Γ + 37), vI p, vI t] M (pI (fun r M' => r = (if t < sv n x g p then 1 else 0) ∧ M' = M)) := by
  refine cn_intro (L := [some (.ref (gb Γ + 37)), some (vI p), some (vI t)]) yo_Mo_savesMore.1 rfl (Nat.le_of_ble_eq_true rfl) rfl (fun X hX hR => ?_)
  obtain ⟨v1, v2, v3, v4, v5⟩ := id hv
  refine g_aload_n hX d_Mo_savesMore_0 rfl ?_
  refine g_iload_n hX d_Mo_savesMore_1 rfl ?_
  refine g_callV hX yo_Mo_isPlace q_747 d_Mo_savesMore_2 (c_Mo_isPlace hp.2) rfl rfl ⟨rfl, by decide⟩ rfl (by decide) (Nat.le_of_ble_eq_true rfl) ⟨Nat.zero_le _, Nat.zero_le _⟩ (k_int fun r_2 M_2 ir_2 hp_2 => ?_)
  obtain ⟨er_2, eM_2⟩ := hp_2; replace er_2 := er_2.symm; replace eM_2 := eM_2.symm; subst er_2; subst eM_2
  refine g_if_eq 29 hX d_Mo_savesMore_5 (by decide) (by first | omega | exact ite_iR) (fun h_5 => ?_) (fun h_5 => ?_)
  · have z1 := ite_eq h_5
    rw [v1] at z1
    have z2 : sv n x g p ≤ 0 := by rw [sv_past n x g (by omega)]; omega
    refine g_iconst hX d_Mo_savesMore_29 ?_
    refine g_zret hX hR d_Mo_savesMore_30 (by omega) ?_
    exact ⟨by first | rw [if_pos (by omega)] | rw [if_neg (by omega)], rfl⟩
  · have z1 := ite_ne h_5
    rw [v1] at z1
    have zb := bD_cases (n := n) (x := x) (p := p) hg hp.1
    refine g_aload_n hX d_Mo_savesMore_8 rfl ?_
    refine g_iload_n hX d_Mo_savesMore_9 rfl ?_
    refine g_callV hX yo_Mo_best q_789 d_Mo_savesMore_10 (c_Mo_best hv hg ⟨hp.1, by omega⟩) rfl rfl ⟨rfl, by decide⟩ rfl (by decide) (Nat.le_of_ble_eq_true rfl) ⟨Nat.zero_le _, Nat.zero_le _⟩ (k_int fun r_10 M_10 ir_10 hp_10 => ?_)
    obtain ⟨er_10, eM_10⟩ := hp_10; replace er_10 := er_10.symm; replace eM_10 := eM_10.symm; subst er_10; subst eM_10
    refine g_if_le 29 hX d_Mo_savesMore_13 (by decide) (by first | omega | exact ite_iR) (fun h_13 => ?_) (fun h_13 => ?_)
    · have z2 : sv n x g p ≤ 0 := by (unfold sv; rw [if_pos (by omega)]; omega)
      refine g_iconst hX d_Mo_savesMore_29 ?_
      refine g_zret hX hR d_Mo_savesMore_30 (by omega) ?_
      exact ⟨by first | rw [if_pos (by omega)] | rw [if_neg (by omega)], rfl⟩
    · refine g_aload_n hX d_Mo_savesMore_16 rfl ?_
      refine g_iload_n hX d_Mo_savesMore_17 rfl ?_
      refine g_callV hX yo_Mo_saves q_793 d_Mo_savesMore_18 (c_Mo_saves hv hg ⟨hp.1, by omega⟩ (by omega)) rfl rfl ⟨rfl, by decide⟩ rfl (by decide) (Nat.le_of_ble_eq_true rfl) ⟨Nat.zero_le _, Nat.zero_le _⟩ (k_int fun r_18 M_18 ir_18 hp_18 => ?_)
      obtain ⟨er_18, eM_18⟩ := hp_18; replace er_18 := er_18.symm; replace eM_18 := eM_18.symm; subst er_18; subst eM_18
      refine g_iload_n hX d_Mo_savesMore_21 rfl ?_
      refine g_icmp_le 29 hX d_Mo_savesMore_22 (by decide) (by omega) (by omega) (fun h_22 => ?_) (fun h_22 => ?_)
      · refine g_iconst hX d_Mo_savesMore_29 ?_
        refine g_zret hX hR d_Mo_savesMore_30 (by omega) ?_
        exact ⟨by first | rw [if_pos (by omega)] | rw [if_neg (by omega)], rfl⟩
      · refine g_iconst hX d_Mo_savesMore_25 ?_
        refine g_goto 30 hX d_Mo_savesMore_26 (by decide) ?_
        refine g_zret hX hR d_Mo_savesMore_30 (by omega) ?_
        exact ⟨by first | rw [if_pos (by omega)] | rw [if_neg (by omega)], rfl⟩
theorem c_Mo_takes {Γ : gX} {l : Launch} {M : mI} {n w p : Int} {x g : Int → Int} (hv : Ns M n x g) (hg : Og g) (hp : 0 ≤ p ∧ p < n) (hw : w = 0 ∨ w = 1) : Cn Γ l i_Mo_takes R0 51 [.ref (gb Γ + 37), vI w, vI p] M (pI (fun r M' => r = (if bD n x g p ≠ -10004 ∧ (w = 0 ∨ (0 < sv n x g p ∧ sv n x g (p + 1) ≤ sv n x g p ∧ sv n x g (p + 2) ≤ sv n x g p)) then 1 else 0) ∧ M' = M)) := by
  refine cn_intro (L := [some (.ref (gb Γ + 37)), some (vI w), some (vI p), none]) yo_Mo_takes.1 rfl (Nat.le_of_ble_eq_true rfl) rfl (fun X hX hR => ?_)
  obtain ⟨v1, v2, v3, v4, v5⟩ := id hv
  have zb := bD_cases (n := n) (x := x) (p := p) hg hp.1
  have zs2 := sv_bd (x := x) hg hp.1 (show p ≤ n by omega)
  refine g_aload_n hX d_Mo_takes_0 rfl ?_
  refine g_iload_n hX d_Mo_takes_1 rfl ?_
  refine g_callV hX yo_Mo_best q_789 d_Mo_takes_2 (c_Mo_best hv hg ⟨hp.1, by omega⟩) rfl rfl ⟨rfl, by decide⟩ rfl (by decide) (Nat.le_of_ble_eq_true rfl) ⟨Nat.zero_le _, Nat.zero_le _⟩ (k_int fun r_2 M_2 ir_2 hp_2 => ?_)
  obtain ⟨er_2, eM_2⟩ := hp_2; replace er_2 := er_2.symm; replace eM_2 := eM_2.symm; subst er_2; subst eM_2
  refine g_if_lt 12 hX d_Mo_takes_5 (by decide) (by first | omega | exact ite_iR) (fun h_5 => ?_) (fun h_5 => ?_)
  · refine g_aload_n hX d_Mo_takes_12 rfl ?_
    refine g_iload_n hX d_Mo_takes_13 rfl ?_
    refine g_callV hX yo_Mo_best q_789 d_Mo_takes_14 (c_Mo_best hv hg ⟨hp.1, by omega⟩) rfl rfl ⟨rfl, by decide⟩ rfl (by decide) (Nat.le_of_ble_eq_true rfl) ⟨Nat.zero_le _, Nat.zero_le _⟩ (k_int fun r_14 M_14 ir_14 hp_14 => ?_)
    obtain ⟨er_14, eM_14⟩ := hp_14; replace er_14 := er_14.symm; replace eM_14 := eM_14.symm; subst er_14; subst eM_14
    refine g_if_le 24 hX d_Mo_takes_17 (by decide) (by first | omega | exact ite_iR) (fun h_17 => ?_) (fun h_17 => ?_)
    · refine g_iconst hX d_Mo_takes_24 ?_
      refine g_zret hX hR d_Mo_takes_25 (by omega) ?_
      exact ⟨by first | (exfalso; omega) | rw [if_pos (by omega)] | rw [if_neg (by omega)], rfl⟩
    · refine g_iconst hX d_Mo_takes_20 ?_
      refine g_goto 25 hX d_Mo_takes_21 (by decide) ?_
      refine g_zret hX hR d_Mo_takes_25 (by omega) ?_
      exact ⟨by first | (exfalso; omega) | rw [if_pos (by omega)] | rw [if_neg (by omega)], rfl⟩
  · refine g_iload_n hX d_Mo_takes_8 rfl ?_
    refine g_if_ne 26 hX d_Mo_takes_9 (by decide) (by first | omega | exact ite_iR) (fun h_9 => ?_) (fun h_9 => ?_)
    · refine g_aload_n hX d_Mo_takes_26 rfl ?_
      refine g_iload_n hX d_Mo_takes_27 rfl ?_
      refine g_callV hX yo_Mo_saves q_793 d_Mo_takes_28 (c_Mo_saves hv hg ⟨hp.1, by omega⟩ (by omega)) rfl rfl ⟨rfl, by decide⟩ rfl (by decide) (Nat.le_of_ble_eq_true rfl) ⟨Nat.zero_le _, Nat.zero_le _⟩ (k_int fun r_28 M_28 ir_28 hp_28 => ?_)
      obtain ⟨er_28, eM_28⟩ := hp_28; replace er_28 := er_28.symm; replace eM_28 := eM_28.symm; subst er_28; subst eM_28
      refine g_istore_n hX d_Mo_takes_31 (by decide) ?_
      refine g_iload_n hX d_Mo_takes_32 rfl ?_
      refine g_if_le 62 hX d_Mo_takes_33 (by decide) (by first | omega | exact ite_iR) (fun h_33 => ?_) (fun h_33 => ?_)
      · refine g_iconst hX d_Mo_takes_62 ?_
        refine g_zret hX hR d_Mo_takes_63 (by omega) ?_
        exact ⟨by first | (exfalso; omega) | rw [if_pos (by omega)] | rw [if_neg (by omega)], rfl⟩
      · refine g_aload_n hX d_Mo_takes_36 rfl ?_
        refine g_iload_n hX d_Mo_takes_37 rfl ?_
        refine g_iconst hX d_Mo_takes_38 ?_
        refine g_iadd hX d_Mo_takes_39 ?_
        refine g_iload_n hX d_Mo_takes_40 rfl ?_
        refine g_callV hX yo_Mo_savesMore q_817 d_Mo_takes_41 (c_Mo_savesMore hv hg ⟨by omega, by omega⟩ ⟨by omega, by omega⟩) rfl rfl ⟨rfl, by decide⟩ rfl (by decide) (Nat.le_of_ble_eq_true rfl) ⟨Nat.zero_le _, Nat.zero_le _⟩ (k_int fun r_41 M_41 ir_41 hp_41 => ?_)
        obtain ⟨er_41, eM_41⟩ := hp_41; replace er_41 := er_41.symm; replace eM_41 := eM_41.symm; subst er_41; subst eM_41
        refine g_if_ne 62 hX d_Mo_takes_44 (by decide) (by first | omega | exact ite_iR) (fun h_44 => ?_) (fun h_44 => ?_)
        · have z1 := ite_ne h_44
          refine g_iconst hX d_Mo_takes_62 ?_
          refine g_zret hX hR d_Mo_takes_63 (by omega) ?_
          exact ⟨by first | (exfalso; omega) | rw [if_pos (by omega)] | rw [if_neg (by omega)], rfl⟩
        · have z1 := ite_eq h_44
          refine g_aload_n hX d_Mo_takes_47 rfl ?_
          refine g_iload_n hX d_Mo_takes_48 rfl ?_
          refine g_iconst hX d_Mo_takes_49 ?_
          refine g_iadd hX d_Mo_takes_50 ?_
          refine g_iload_n hX d_Mo_takes_51 rfl ?_
          refine g_callV hX yo_Mo_savesMore q_817 d_Mo_takes_52 (c_Mo_savesMore hv hg ⟨by omega, by omega⟩ ⟨by omega, by omega⟩) rfl rfl ⟨rfl, by decide⟩ rfl (by decide) (Nat.le_of_ble_eq_true rfl) ⟨Nat.zero_le _, Nat.zero_le _⟩ (k_int fun r_52 M_52 ir_52 hp_52 => ?_)
          obtain ⟨er_52, eM_52⟩ := hp_52; replace er_52 := er_52.symm; replace eM_52 := eM_52.symm; subst er_52; subst eM_52
          refine g_if_ne 62 hX d_Mo_takes_55 (by decide) (by first | omega | exact ite_iR) (fun h_55 => ?_) (fun h_55 => ?_)
          · have z2 := ite_ne h_55
            refine g_iconst hX d_Mo_takes_62 ?_
            refine g_zret hX hR d_Mo_takes_63 (by omega) ?_
            exact ⟨by first | (exfalso; omega) | rw [if_pos (by omega)] | rw [if_neg (by omega)], rfl⟩
          · have z2 := ite_eq h_55
            refine g_iconst hX d_Mo_takes_58 ?_
            refine g_goto 63 hX d_Mo_takes_59 (by decide) ?_
            refine g_zret hX hR d_Mo_takes_63 (by omega) ?_
            exact ⟨by first | (exfalso; omega) | rw [if_pos (by omega)] | rw [if_neg (by omega)], rfl⟩
    · refine g_aload_n hX d_Mo_takes_12 rfl ?_
      refine g_iload_n hX d_Mo_takes_13 rfl ?_
      refine g_callV hX yo_Mo_best q_789 d_Mo_takes_14 (c_Mo_best hv hg ⟨hp.1, by omega⟩) rfl rfl ⟨rfl, by decide⟩ rfl (by decide) (Nat.le_of_ble_eq_true rfl) ⟨Nat.zero_le _, Nat.zero_le _⟩ (k_int fun r_14 M_14 ir_14 hp_14 => ?_)
      obtain ⟨er_14, eM_14⟩ := hp_14; replace er_14 := er_14.symm; replace eM_14 := eM_14.symm; subst er_14; subst eM_14
      refine g_if_le 24 hX d_Mo_takes_17 (by decide) (by first | omega | exact ite_iR) (fun h_17 => ?_) (fun h_17 => ?_)
      · refine g_iconst hX d_Mo_takes_24 ?_
        refine g_zret hX hR d_Mo_takes_25 (by omega) ?_
        exact ⟨by first | (exfalso; omega) | rw [if_pos (by omega)] | rw [if_neg (by omega)], rfl⟩
      · refine g_iconst hX d_Mo_takes_20 ?_
        refine g_goto 25 hX d_Mo_takes_21 (by decide) ?_
        refine g_zret hX hR d_Mo_takes_25 (by omega) ?_
        exact ⟨by first | (exfalso; omega) | rw [if_pos (by omega)] | rw [if_neg (by omega)], rfl⟩
def Iw (M1 M : mI) (p : Int) (s : Int × Int × Int) : Prop := (M1 45 p = s.1 ∧ M1 46 p = s.2.1 ∧ M1 47 p = s.2.2) ∧ (∀ a, a ≠ 45 → a ≠ 46 → a ≠ 47 → M1 a = M a) ∧ ∀ a j, j ≠ p → M1 a j = M a j
theorem Iw.step {M1 M : mI} {p l d c : Int} {s s' : Int × Int × Int} (h : Iw M1 M p s) (h1 : c = s'.1) (h2 : l = s'.2.1) (h3 : d = s'.2.2) : Iw (mU (mU (mU M1 46 p l) 47 p d) 45 p c) M p s' :=
  ⟨⟨by rw [mU_self]; exact h1, by rw [mU_cell (by decide), mU_cell (by decide), mU_self]; exact h2, by rw [mU_cell (by decide), mU_self]; exact h3⟩, fun a u v w => by rw [mU_cell u, mU_cell w, mU_cell v]; exact h.2.1 a u v w, fun a j u => by rw [mU_slot u, mU_slot u, mU_slot u]; exact h.2.2 a j u⟩
theorem c_Mo_weighs {Γ : gX} {l : Launch} {M : mI} {n p : Int} {x g : Int → Int} (hv : Ns M n x g) (hg : Og g) (hp : 0 ≤ p ∧ p < n) (hT : ∀ q, p < q → q ≤ n → M 45 q = cC n x g q) : Cn Γ l i_Mo_weighs R0 51 [.ref (gb Γ + 37), vI p] M (pV (fun M' => Iw M' M p (w2 n x g (cC n x g) p))) := by
  refine cn_intro (L := [some (.ref (gb Γ + 37)), some (vI p), none, none, none, none]) yo_Mo_weighs.1 rfl (Nat.le_of_ble_eq_true rfl) rfl (fun X hX hR => ?_)
  obtain ⟨v1, v2, v3, v4, v5⟩ := id hv
  obtain ⟨s0, s1, s2, s3, s4⟩ := hv.s
  obtain ⟨g0, g1, g2, g3, g4⟩ := id hg
  have LOOP : ∀ (q : Nat) (d c : Int) (k : Nat) (s : Int × Int × Int) (M1 : mI) (o4 o5 : Option Value), p.toNat - k = q → d = k + 1 → k ≤ p.toNat → c = ((cl n x g p k).length : Int) → s = (cl n x g p k).foldl (fun s d => wI (cC n x g) (g 4) p d s (rc n x p d) (rc n x p d - g 1 + 1).toNat) (g 3 + cC n x g (p + 1), 1, 0) → Iw M1 M p s → G Γ X 6 (R0, 51, 0, 0) 39 [some (.ref (gb Γ + 37)), some (vI p), some (vI c), some (vI d), o4, o5] [] M1 := by
    intro q
    induction q with
    | zero =>
      intro d c k s M1 o4 o5 hq hd hk hc hs hI
      subst hd
      refine g_iload_n hX d_Mo_weighs_39 rfl ?_
      refine g_iload_n hX d_Mo_weighs_40 rfl ?_
      refine g_icmp_gt 198 hX d_Mo_weighs_41 (by decide) (by omega) (by omega) (fun h_41 => ?_) (fun h_41 => ?_)
      · refine g_vret hX hR d_Mo_weighs_198 ?_
        unfold w2 cs; rw [show p.toNat = k by omega, ← hs]; exact hI
      · exact absurd h_41 (by omega)
    | succ q ih =>
      intro d c k s M1 o4 o5 hq hd hk hc hs hI
      subst hd
      have zl2 := cl_len n x g p k g2.1
      have hv1 : Ns M1 n x g := hv.to (hI.2.1 38 (by decide) (by decide) (by decide))
      obtain ⟨t0, t1, t2, t3, t4⟩ := hv1.s
      have INNER : ∀ (q2 : Nat) (i : Int) (s' : Int × Int × Int) (M2 : mI) (o5 : Option Value), (i - g 1 + 1).toNat = q2 → p + i ≤ n → 0 ≤ i ∧ i ≤ 20 → wI (cC n x g) (g 4) p (k + 1) s' i q2 = (cl n x g p (k + 1)).foldl (fun s d => wI (cC n x g) (g 4) p d s (rc n x p d) (rc n x p d - g 1 + 1).toNat) (g 3 + cC n x g (p + 1), 1, 0) → ((cl n x g p (k + 1)).length : Int) = c + 1 → Iw M2 M p s' → G Γ X 6 (R0, 51, 0, 0) 74 [some (.ref (gb Γ + 37)), some (vI p), some (vI (c + 1)), some (vI (k + 1)), some (vI i), o5] [] M2 := by
        intro q2
        induction q2 with
        | zero =>
          intro i s' M2 o5 hq2 h1 h2 hw hl hI2
          have e38 : M2 38 = M 38 := hI2.2.1 38 (by decide) (by decide) (by decide)
          have u1 : M2 38 2 = g 1 := by rw [e38]; exact s1
          refine g_iload hX d_Mo_weighs_74 rfl ?_
          refine g_aload_n hX d_Mo_weighs_76 rfl ?_
          refine g_getR hX fl_Mo_7 d_Mo_weighs_77 ⟨rfl, by decide⟩ rfl rfl ?_
          refine g_iconst hX d_Mo_weighs_80 ?_
          refine g_iald hX d_Mo_weighs_81 ⟨rfl, by decide⟩ (by omega) (fun r_81 => ?_)
          refine g_icmp_lt 192 hX d_Mo_weighs_82 (by decide) (by omega) (by omega) (fun h_82 => ?_) (fun h_82 => ?_)
          · refine g_iinc hX d_Mo_weighs_192 rfl (by decide) ?_
            refine g_goto 39 hX d_Mo_weighs_195 (by decide) ?_
            exact ih _ _ (k + 1) _ _ _ _ (by omega) (by omega) (by omega) hl.symm rfl (by rw [← hw]; exact hI2)
          · exact absurd h_82 (by omega)
        | succ q2 ih2 =>
          intro i s' M2 o5 hq2 h1 h2 hw hl hI2
          have e38 : M2 38 = M 38 := hI2.2.1 38 (by decide) (by decide) (by decide)
          have u1 : M2 38 2 = g 1 := by rw [e38]; exact s1
          have u4 : M2 38 5 = g 4 := by rw [e38]; exact s4
          obtain ⟨⟨j1, j2, j3⟩, j4, j5⟩ := id hI2
          rw [wI_succ] at hw
          refine g_iload hX d_Mo_weighs_74 rfl ?_
          refine g_aload_n hX d_Mo_weighs_76 rfl ?_
          refine g_getR hX fl_Mo_7 d_Mo_weighs_77 ⟨rfl, by decide⟩ rfl rfl ?_
          refine g_iconst hX d_Mo_weighs_80 ?_
          refine g_iald hX d_Mo_weighs_81 ⟨rfl, by decide⟩ (by omega) (fun r_81 => ?_)
          refine g_icmp_lt 192 hX d_Mo_weighs_82 (by decide) (by omega) (by omega) (fun h_82 => ?_) (fun h_82 => ?_)
          · exact absurd h_82 (by omega)
          · refine g_aload_n hX d_Mo_weighs_85 rfl ?_
            refine g_getR hX fl_Mo_7 d_Mo_weighs_86 ⟨rfl, by decide⟩ rfl rfl ?_
            refine g_iconst hX d_Mo_weighs_89 ?_
            refine g_iald hX d_Mo_weighs_90 ⟨rfl, by decide⟩ (by omega) (fun r_90 => ?_)
            refine g_aload_n hX d_Mo_weighs_91 rfl ?_
            refine g_getR hX fl_Mo_31 d_Mo_weighs_92 ⟨rfl, by decide⟩ rfl rfl ?_
            refine g_iload_n hX d_Mo_weighs_95 rfl ?_
            refine g_iload hX d_Mo_weighs_96 rfl ?_
            refine g_iadd hX d_Mo_weighs_98 ?_
            refine g_iald hX d_Mo_weighs_99 ⟨rfl, by decide⟩ (by omega) (fun r_99 => ?_)
            have eT : M2 45 (p + i) = cC n x g (p + i) := (j5 45 (p + i) (by omega)).trans (hT (p + i) (by omega) (by omega))
            have zT := cC_bound (x := x) (p := p + i) hg (by omega) (by omega) v3
            rw [eT, u4]
            refine g_iadd hX d_Mo_weighs_100 ?_
            refine g_istore hX d_Mo_weighs_101 (by decide) ?_
            refine g_aload_n hX d_Mo_weighs_103 rfl ?_
            refine g_getR hX fl_Mo_34 d_Mo_weighs_104 ⟨rfl, by decide⟩ rfl rfl ?_
            refine g_iload_n hX d_Mo_weighs_107 rfl ?_
            refine g_iload hX d_Mo_weighs_108 rfl ?_
            refine g_aload_n hX d_Mo_weighs_110 rfl ?_
            refine g_getR hX fl_Mo_31 d_Mo_weighs_111 ⟨rfl, by decide⟩ rfl rfl ?_
            refine g_iload_n hX d_Mo_weighs_114 rfl ?_
            refine g_iald hX d_Mo_weighs_115 ⟨rfl, by decide⟩ (by omega) (fun r_115 => ?_)
            refine g_icmp_ge 124 hX d_Mo_weighs_116 (by decide) (by omega) (by omega) (fun h_116 => ?_) (fun h_116 => ?_)
            · refine g_aload_n hX d_Mo_weighs_124 rfl ?_
              refine g_getR hX fl_Mo_34 d_Mo_weighs_125 ⟨rfl, by decide⟩ rfl rfl ?_
              refine g_iload_n hX d_Mo_weighs_128 rfl ?_
              refine g_iald hX d_Mo_weighs_129 ⟨rfl, by decide⟩ (by omega) (fun r_129 => ?_)
              refine g_iast hX d_Mo_weighs_130 ⟨rfl, by decide⟩ (by omega) (by omega) ?_
              refine g_aload_n hX d_Mo_weighs_131 rfl ?_
              refine g_getR hX fl_Mo_37 d_Mo_weighs_132 ⟨rfl, by decide⟩ rfl rfl ?_
              refine g_iload_n hX d_Mo_weighs_135 rfl ?_
              refine g_iload hX d_Mo_weighs_136 rfl ?_
              refine g_aload_n hX d_Mo_weighs_138 rfl ?_
              refine g_getR hX fl_Mo_31 d_Mo_weighs_139 ⟨rfl, by decide⟩ rfl rfl ?_
              refine g_iload_n hX d_Mo_weighs_142 rfl ?_
              refine g_iald hX d_Mo_weighs_143 ⟨rfl, by decide⟩ (by omega) (fun r_143 => ?_)
              rw [mU_cell (by decide)] at r_143 ⊢
              refine g_icmp_ge 151 hX d_Mo_weighs_144 (by decide) (by omega) (by omega) (fun h_144 => ?_) (fun h_144 => ?_)
              · refine g_aload_n hX d_Mo_weighs_151 rfl ?_
                refine g_getR hX fl_Mo_37 d_Mo_weighs_152 ⟨rfl, by decide⟩ rfl rfl ?_
                refine g_iload_n hX d_Mo_weighs_155 rfl ?_
                refine g_iald hX d_Mo_weighs_156 ⟨rfl, by decide⟩ (by omega) (fun r_156 => ?_)
                try rw [mU_cell (by decide)] at r_156 ⊢
                refine g_iast hX d_Mo_weighs_157 ⟨rfl, by decide⟩ (by omega) (by omega) ?_
                refine g_aload_n hX d_Mo_weighs_158 rfl ?_
                refine g_getR hX fl_Mo_31 d_Mo_weighs_159 ⟨rfl, by decide⟩ rfl rfl ?_
                refine g_iload_n hX d_Mo_weighs_162 rfl ?_
                refine g_iload hX d_Mo_weighs_163 rfl ?_
                refine g_aload_n hX d_Mo_weighs_165 rfl ?_
                refine g_getR hX fl_Mo_31 d_Mo_weighs_166 ⟨rfl, by decide⟩ rfl rfl ?_
                refine g_iload_n hX d_Mo_weighs_169 rfl ?_
                refine g_iald hX d_Mo_weighs_170 ⟨rfl, by decide⟩ (by omega) (fun r_170 => ?_)
                rw [mU_cell (by decide), mU_cell (by decide)] at r_170 ⊢
                refine g_icmp_ge 179 hX d_Mo_weighs_171 (by decide) (by omega) (by omega) (fun h_171 => ?_) (fun h_171 => ?_)
                · refine g_aload_n hX d_Mo_weighs_179 rfl ?_
                  refine g_getR hX fl_Mo_31 d_Mo_weighs_180 ⟨rfl, by decide⟩ rfl rfl ?_
                  refine g_iload_n hX d_Mo_weighs_183 rfl ?_
                  refine g_iald hX d_Mo_weighs_184 ⟨rfl, by decide⟩ (by omega) (fun r_184 => ?_)
                  try rw [mU_cell (by decide), mU_cell (by decide)] at r_184 ⊢
                  refine g_iast hX d_Mo_weighs_185 ⟨rfl, by decide⟩ (by omega) (by omega) ?_
                  refine g_iinc hX d_Mo_weighs_186 rfl (by decide) ?_
                  refine g_goto 74 hX d_Mo_weighs_189 (by decide) ?_
                  first | (exfalso; omega) | exact ih2 _ _ _ _ (by omega) (by omega) (by omega) hw hl (hI2.step (by first | (rw [if_pos (by omega)]; done) | (rw [if_neg (by omega)]; exact j1)) (by first | (rw [if_pos (by omega)]; done) | (rw [if_neg (by omega)]; exact j2)) (by first | (rw [if_pos (by omega)]; done) | (rw [if_neg (by omega)]; exact j3)))
                · refine g_iload hX d_Mo_weighs_174 rfl ?_
                  refine g_goto 185 hX d_Mo_weighs_176 (by decide) ?_
                  try rw [mU_cell (by decide), mU_cell (by decide)] at r_184 ⊢
                  refine g_iast hX d_Mo_weighs_185 ⟨rfl, by decide⟩ (by omega) (by omega) ?_
                  refine g_iinc hX d_Mo_weighs_186 rfl (by decide) ?_
                  refine g_goto 74 hX d_Mo_weighs_189 (by decide) ?_
                  first | (exfalso; omega) | exact ih2 _ _ _ _ (by omega) (by omega) (by omega) hw hl (hI2.step (by first | (rw [if_pos (by omega)]; done) | (rw [if_neg (by omega)]; exact j1)) (by first | (rw [if_pos (by omega)]; done) | (rw [if_neg (by omega)]; exact j2)) (by first | (rw [if_pos (by omega)]; done) | (rw [if_neg (by omega)]; exact j3)))
              · refine g_iload_n hX d_Mo_weighs_147 rfl ?_
                refine g_goto 157 hX d_Mo_weighs_148 (by decide) ?_
                try rw [mU_cell (by decide)] at r_156 ⊢
                refine g_iast hX d_Mo_weighs_157 ⟨rfl, by decide⟩ (by omega) (by omega) ?_
                refine g_aload_n hX d_Mo_weighs_158 rfl ?_
                refine g_getR hX fl_Mo_31 d_Mo_weighs_159 ⟨rfl, by decide⟩ rfl rfl ?_
                refine g_iload_n hX d_Mo_weighs_162 rfl ?_
                refine g_iload hX d_Mo_weighs_163 rfl ?_
                refine g_aload_n hX d_Mo_weighs_165 rfl ?_
                refine g_getR hX fl_Mo_31 d_Mo_weighs_166 ⟨rfl, by decide⟩ rfl rfl ?_
                refine g_iload_n hX d_Mo_weighs_169 rfl ?_
                refine g_iald hX d_Mo_weighs_170 ⟨rfl, by decide⟩ (by omega) (fun r_170 => ?_)
                rw [mU_cell (by decide), mU_cell (by decide)] at r_170 ⊢
                refine g_icmp_ge 179 hX d_Mo_weighs_171 (by decide) (by omega) (by omega) (fun h_171 => ?_) (fun h_171 => ?_)
                · refine g_aload_n hX d_Mo_weighs_179 rfl ?_
                  refine g_getR hX fl_Mo_31 d_Mo_weighs_180 ⟨rfl, by decide⟩ rfl rfl ?_
                  refine g_iload_n hX d_Mo_weighs_183 rfl ?_
                  refine g_iald hX d_Mo_weighs_184 ⟨rfl, by decide⟩ (by omega) (fun r_184 => ?_)
                  try rw [mU_cell (by decide), mU_cell (by decide)] at r_184 ⊢
                  refine g_iast hX d_Mo_weighs_185 ⟨rfl, by decide⟩ (by omega) (by omega) ?_
                  refine g_iinc hX d_Mo_weighs_186 rfl (by decide) ?_
                  refine g_goto 74 hX d_Mo_weighs_189 (by decide) ?_
                  first | (exfalso; omega) | exact ih2 _ _ _ _ (by omega) (by omega) (by omega) hw hl (hI2.step (by first | (rw [if_pos (by omega)]; done) | (rw [if_neg (by omega)]; exact j1)) (by first | (rw [if_pos (by omega)]; done) | (rw [if_neg (by omega)]; exact j2)) (by first | (rw [if_pos (by omega)]; done) | (rw [if_neg (by omega)]; exact j3)))
                · refine g_iload hX d_Mo_weighs_174 rfl ?_
                  refine g_goto 185 hX d_Mo_weighs_176 (by decide) ?_
                  try rw [mU_cell (by decide), mU_cell (by decide)] at r_184 ⊢
                  refine g_iast hX d_Mo_weighs_185 ⟨rfl, by decide⟩ (by omega) (by omega) ?_
                  refine g_iinc hX d_Mo_weighs_186 rfl (by decide) ?_
                  refine g_goto 74 hX d_Mo_weighs_189 (by decide) ?_
                  first | (exfalso; omega) | exact ih2 _ _ _ _ (by omega) (by omega) (by omega) hw hl (hI2.step (by first | (rw [if_pos (by omega)]; done) | (rw [if_neg (by omega)]; exact j1)) (by first | (rw [if_pos (by omega)]; done) | (rw [if_neg (by omega)]; exact j2)) (by first | (rw [if_pos (by omega)]; done) | (rw [if_neg (by omega)]; exact j3)))
            · refine g_iload hX d_Mo_weighs_119 rfl ?_
              refine g_goto 130 hX d_Mo_weighs_121 (by decide) ?_
              refine g_iast hX d_Mo_weighs_130 ⟨rfl, by decide⟩ (by omega) (by omega) ?_
              refine g_aload_n hX d_Mo_weighs_131 rfl ?_
              refine g_getR hX fl_Mo_37 d_Mo_weighs_132 ⟨rfl, by decide⟩ rfl rfl ?_
              refine g_iload_n hX d_Mo_weighs_135 rfl ?_
              refine g_iload hX d_Mo_weighs_136 rfl ?_
              refine g_aload_n hX d_Mo_weighs_138 rfl ?_
              refine g_getR hX fl_Mo_31 d_Mo_weighs_139 ⟨rfl, by decide⟩ rfl rfl ?_
              refine g_iload_n hX d_Mo_weighs_142 rfl ?_
              refine g_iald hX d_Mo_weighs_143 ⟨rfl, by decide⟩ (by omega) (fun r_143 => ?_)
              rw [mU_cell (by decide)] at r_143 ⊢
              refine g_icmp_ge 151 hX d_Mo_weighs_144 (by decide) (by omega) (by omega) (fun h_144 => ?_) (fun h_144 => ?_)
              · refine g_aload_n hX d_Mo_weighs_151 rfl ?_
                refine g_getR hX fl_Mo_37 d_Mo_weighs_152 ⟨rfl, by decide⟩ rfl rfl ?_
                refine g_iload_n hX d_Mo_weighs_155 rfl ?_
                refine g_iald hX d_Mo_weighs_156 ⟨rfl, by decide⟩ (by omega) (fun r_156 => ?_)
                try rw [mU_cell (by decide)] at r_156 ⊢
                refine g_iast hX d_Mo_weighs_157 ⟨rfl, by decide⟩ (by omega) (by omega) ?_
                refine g_aload_n hX d_Mo_weighs_158 rfl ?_
                refine g_getR hX fl_Mo_31 d_Mo_weighs_159 ⟨rfl, by decide⟩ rfl rfl ?_
                refine g_iload_n hX d_Mo_weighs_162 rfl ?_
                refine g_iload hX d_Mo_weighs_163 rfl ?_
                refine g_aload_n hX d_Mo_weighs_165 rfl ?_
                refine g_getR hX fl_Mo_31 d_Mo_weighs_166 ⟨rfl, by decide⟩ rfl rfl ?_
                refine g_iload_n hX d_Mo_weighs_169 rfl ?_
                refine g_iald hX d_Mo_weighs_170 ⟨rfl, by decide⟩ (by omega) (fun r_170 => ?_)
                rw [mU_cell (by decide), mU_cell (by decide)] at r_170 ⊢
                refine g_icmp_ge 179 hX d_Mo_weighs_171 (by decide) (by omega) (by omega) (fun h_171 => ?_) (fun h_171 => ?_)
                · refine g_aload_n hX d_Mo_weighs_179 rfl ?_
                  refine g_getR hX fl_Mo_31 d_Mo_weighs_180 ⟨rfl, by decide⟩ rfl rfl ?_
                  refine g_iload_n hX d_Mo_weighs_183 rfl ?_
                  refine g_iald hX d_Mo_weighs_184 ⟨rfl, by decide⟩ (by omega) (fun r_184 => ?_)
                  try rw [mU_cell (by decide), mU_cell (by decide)] at r_184 ⊢
                  refine g_iast hX d_Mo_weighs_185 ⟨rfl, by decide⟩ (by omega) (by omega) ?_
                  refine g_iinc hX d_Mo_weighs_186 rfl (by decide) ?_
                  refine g_goto 74 hX d_Mo_weighs_189 (by decide) ?_
                  first | (exfalso; omega) | exact ih2 _ _ _ _ (by omega) (by omega) (by omega) hw hl (hI2.step (by first | (rw [if_pos (by omega)]; done) | (rw [if_neg (by omega)]; exact j1)) (by first | (rw [if_pos (by omega)]; done) | (rw [if_neg (by omega)]; exact j2)) (by first | (rw [if_pos (by omega)]; done) | (rw [if_neg (by omega)]; exact j3)))
                · refine g_iload hX d_Mo_weighs_174 rfl ?_
                  refine g_goto 185 hX d_Mo_weighs_176 (by decide) ?_
                  try rw [mU_cell (by decide), mU_cell (by decide)] at r_184 ⊢
                  refine g_iast hX d_Mo_weighs_185 ⟨rfl, by decide⟩ (by omega) (by omega) ?_
                  refine g_iinc hX d_Mo_weighs_186 rfl (by decide) ?_
                  refine g_goto 74 hX d_Mo_weighs_189 (by decide) ?_
                  first | (exfalso; omega) | exact ih2 _ _ _ _ (by omega) (by omega) (by omega) hw hl (hI2.step (by first | (rw [if_pos (by omega)]; done) | (rw [if_neg (by omega)]; exact j1)) (by first | (rw [if_pos (by omega)]; done) | (rw [if_neg (by omega)]; exact j2)) (by first | (rw [if_pos (by omega)]; done) | (rw [if_neg (by omega)]; exact j3)))
              · refine g_iload_n hX d_Mo_weighs_147 rfl ?_
                refine g_goto 157 hX d_Mo_weighs_148 (by decide) ?_
                try rw [mU_cell (by decide)] at r_156 ⊢
                refine g_iast hX d_Mo_weighs_157 ⟨rfl, by decide⟩ (by omega) (by omega) ?_
                refine g_aload_n hX d_Mo_weighs_158 rfl ?_
                refine g_getR hX fl_Mo_31 d_Mo_weighs_159 ⟨rfl, by decide⟩ rfl rfl ?_
                refine g_iload_n hX d_Mo_weighs_162 rfl ?_
                refine g_iload hX d_Mo_weighs_163 rfl ?_
                refine g_aload_n hX d_Mo_weighs_165 rfl ?_
                refine g_getR hX fl_Mo_31 d_Mo_weighs_166 ⟨rfl, by decide⟩ rfl rfl ?_
                refine g_iload_n hX d_Mo_weighs_169 rfl ?_
                refine g_iald hX d_Mo_weighs_170 ⟨rfl, by decide⟩ (by omega) (fun r_170 => ?_)
                rw [mU_cell (by decide), mU_cell (by decide)] at r_170 ⊢
                refine g_icmp_ge 179 hX d_Mo_weighs_171 (by decide) (by omega) (by omega) (fun h_171 => ?_) (fun h_171 => ?_)
                · refine g_aload_n hX d_Mo_weighs_179 rfl ?_
                  refine g_getR hX fl_Mo_31 d_Mo_weighs_180 ⟨rfl, by decide⟩ rfl rfl ?_
                  refine g_iload_n hX d_Mo_weighs_183 rfl ?_
                  refine g_iald hX d_Mo_weighs_184 ⟨rfl, by decide⟩ (by omega) (fun r_184 => ?_)
                  try rw [mU_cell (by decide), mU_cell (by decide)] at r_184 ⊢
                  refine g_iast hX d_Mo_weighs_185 ⟨rfl, by decide⟩ (by omega) (by omega) ?_
                  refine g_iinc hX d_Mo_weighs_186 rfl (by decide) ?_
                  refine g_goto 74 hX d_Mo_weighs_189 (by decide) ?_
                  first | (exfalso; omega) | exact ih2 _ _ _ _ (by omega) (by omega) (by omega) hw hl (hI2.step (by first | (rw [if_pos (by omega)]; done) | (rw [if_neg (by omega)]; exact j1)) (by first | (rw [if_pos (by omega)]; done) | (rw [if_neg (by omega)]; exact j2)) (by first | (rw [if_pos (by omega)]; done) | (rw [if_neg (by omega)]; exact j3)))
                · refine g_iload hX d_Mo_weighs_174 rfl ?_
                  refine g_goto 185 hX d_Mo_weighs_176 (by decide) ?_
                  try rw [mU_cell (by decide), mU_cell (by decide)] at r_184 ⊢
                  refine g_iast hX d_Mo_weighs_185 ⟨rfl, by decide⟩ (by omega) (by omega) ?_
                  refine g_iinc hX d_Mo_weighs_186 rfl (by decide) ?_
                  refine g_goto 74 hX d_Mo_weighs_189 (by decide) ?_
                  first | (exfalso; omega) | exact ih2 _ _ _ _ (by omega) (by omega) (by omega) hw hl (hI2.step (by first | (rw [if_pos (by omega)]; done) | (rw [if_neg (by omega)]; exact j1)) (by first | (rw [if_pos (by omega)]; done) | (rw [if_neg (by omega)]; exact j2)) (by first | (rw [if_pos (by omega)]; done) | (rw [if_neg (by omega)]; exact j3)))
      refine g_iload_n hX d_Mo_weighs_39 rfl ?_
      refine g_iload_n hX d_Mo_weighs_40 rfl ?_
      refine g_icmp_gt 198 hX d_Mo_weighs_41 (by decide) (by omega) (by omega) (fun h_41 => ?_) (fun h_41 => ?_)
      · exact absurd h_41 (by omega)
      · refine g_iload_n hX d_Mo_weighs_44 rfl ?_
        refine g_aload_n hX d_Mo_weighs_45 rfl ?_
        refine g_getR hX fl_Mo_7 d_Mo_weighs_46 ⟨rfl, by decide⟩ rfl rfl ?_
        refine g_iconst hX d_Mo_weighs_49 ?_
        refine g_iald hX d_Mo_weighs_50 ⟨rfl, by decide⟩ (by omega) (fun r_50 => ?_)
        refine g_icmp_ge 198 hX d_Mo_weighs_51 (by decide) (by omega) (by omega) (fun h_51 => ?_) (fun h_51 => ?_)
        · have zc : cs n x g p = cl n x g p k := by (unfold cs; rw [show p.toNat = k + (p.toNat - k) by omega]; exact cl_stop (Or.inr (by omega)) _)
          refine g_vret hX hR d_Mo_weighs_198 ?_
          unfold w2; rw [zc, ← hs]; exact hI
        · refine g_aload_n hX d_Mo_weighs_54 rfl ?_
          refine g_iload_n hX d_Mo_weighs_55 rfl ?_
          refine g_iload_n hX d_Mo_weighs_56 rfl ?_
          refine g_callV hX yo_Mo_isCandidate q_773 d_Mo_weighs_57 (c_Mo_isCandidate hv1 hg ⟨hp.1, by omega⟩ ⟨by omega, by omega⟩) rfl rfl ⟨rfl, by decide⟩ rfl (by decide) (Nat.le_of_ble_eq_true rfl) ⟨Nat.zero_le _, Nat.zero_le _⟩ (k_int fun r_57 M_57 ir_57 hp_57 => ?_)
          obtain ⟨er_57, eM_57⟩ := hp_57; replace er_57 := er_57.symm; replace eM_57 := eM_57.symm; subst er_57; subst eM_57
          refine g_if_eq 192 hX d_Mo_weighs_60 (by decide) (by first | omega | exact ite_iR) (fun h_60 => ?_) (fun h_60 => ?_)
          · have z1 := ite_eq h_60
            have zc : cl n x g p (k + 1) = cl n x g p k := by rw [cl_succ, if_neg (fun zz => z1 zz.1)]
            refine g_iinc hX d_Mo_weighs_192 rfl (by decide) ?_
            refine g_goto 39 hX d_Mo_weighs_195 (by decide) ?_
            exact ih _ _ (k + 1) _ _ _ _ (by omega) (by omega) (by omega) (by rw [zc]; exact hc) (by rw [zc]; exact hs) hI
          · have z1 := ite_ne h_60
            have zc : cl n x g p (k + 1) = cl n x g p k ++ [(k + 1 : Int)] := by rw [cl_succ, if_pos ⟨z1, by omega⟩]
            have zrb := @rc_b n x p (k + 1) (by omega)
            refine g_iinc hX d_Mo_weighs_63 rfl (by decide) ?_
            refine g_aload_n hX d_Mo_weighs_66 rfl ?_
            refine g_iload_n hX d_Mo_weighs_67 rfl ?_
            refine g_iload_n hX d_Mo_weighs_68 rfl ?_
            refine g_callV hX yo_Mo_reach q_777 d_Mo_weighs_69 (c_Mo_reach hv1 ⟨hp.1, by omega⟩ ⟨by omega, by omega⟩) rfl rfl ⟨rfl, by decide⟩ rfl (by decide) (Nat.le_of_ble_eq_true rfl) ⟨Nat.zero_le _, Nat.zero_le _⟩ (k_int fun r_69 M_69 ir_69 hp_69 => ?_)
            obtain ⟨er_69, eM_69⟩ := hp_69; replace er_69 := er_69.symm; replace eM_69 := eM_69.symm; subst er_69; subst eM_69
            refine g_istore hX d_Mo_weighs_72 (by decide) ?_
            refine INNER _ _ s _ _ rfl zrb.2.2 ⟨zrb.1, zrb.2.1⟩ ?_ (by rw [zc]; simp; omega) hI
            rw [zc, List.foldl_append, ← hs]
            rfl
  refine g_iconst hX d_Mo_weighs_0 ?_
  refine g_istore_n hX d_Mo_weighs_1 (by decide) ?_
  refine g_aload_n hX d_Mo_weighs_2 rfl ?_
  refine g_getR hX fl_Mo_31 d_Mo_weighs_3 ⟨rfl, by decide⟩ rfl rfl ?_
  refine g_iload_n hX d_Mo_weighs_6 rfl ?_
  refine g_aload_n hX d_Mo_weighs_7 rfl ?_
  refine g_getR hX fl_Mo_7 d_Mo_weighs_8 ⟨rfl, by decide⟩ rfl rfl ?_
  refine g_iconst hX d_Mo_weighs_11 ?_
  refine g_iald hX d_Mo_weighs_12 ⟨rfl, by decide⟩ (by omega) (fun r_12 => ?_)
  refine g_aload_n hX d_Mo_weighs_13 rfl ?_
  refine g_getR hX fl_Mo_31 d_Mo_weighs_14 ⟨rfl, by decide⟩ rfl rfl ?_
  refine g_iload_n hX d_Mo_weighs_17 rfl ?_
  refine g_iconst hX d_Mo_weighs_18 ?_
  refine g_iadd hX d_Mo_weighs_19 ?_
  refine g_iald hX d_Mo_weighs_20 ⟨rfl, by decide⟩ (by omega) (fun r_20 => ?_)
  rw [s3, hT (p + 1) (by omega) (by omega)]
  have zT := cC_bound (x := x) (p := p + 1) hg (by omega) (by omega) v3
  refine g_iadd hX d_Mo_weighs_21 ?_
  refine g_iast hX d_Mo_weighs_22 ⟨rfl, by decide⟩ (by omega) (by omega) ?_
  refine g_aload_n hX d_Mo_weighs_23 rfl ?_
  refine g_getR hX fl_Mo_34 d_Mo_weighs_24 ⟨rfl, by decide⟩ rfl rfl ?_
  refine g_iload_n hX d_Mo_weighs_27 rfl ?_
  refine g_iconst hX d_Mo_weighs_28 ?_
  refine g_iast hX d_Mo_weighs_29 ⟨rfl, by decide⟩ (by omega) (by omega) ?_
  refine g_aload_n hX d_Mo_weighs_30 rfl ?_
  refine g_getR hX fl_Mo_37 d_Mo_weighs_31 ⟨rfl, by decide⟩ rfl rfl ?_
  refine g_iload_n hX d_Mo_weighs_34 rfl ?_
  refine g_iconst hX d_Mo_weighs_35 ?_
  refine g_iast hX d_Mo_weighs_36 ⟨rfl, by decide⟩ (by omega) (by omega) ?_
  refine g_iconst hX d_Mo_weighs_37 ?_
  refine g_istore_n hX d_Mo_weighs_38 (by decide) ?_
  refine LOOP _ _ _ 0 _ _ _ _ rfl (by omega) (by omega) rfl rfl ⟨⟨by rw [mU_cell (by decide), mU_cell (by decide), mU_self]; rfl, by rw [mU_cell (by decide), mU_self]; rfl, by rw [mU_self]; rfl⟩, fun a u v w => by rw [mU_cell w, mU_cell v, mU_cell u], fun a j u => by rw [mU_slot u, mU_slot u, mU_slot u]⟩
def LM (M : mI) (n : Int) (x g : Int → Int) (w : Int) : Prop := M 37 10 = ((bgs n x g w).length : Int) ∧ ∀ (i : Nat) (b : Int), (bgs n x g w)[i]? = some b → M 42 i = b ∧ M 43 i = pL n x g w b ∧ M 44 i = pD n x g w b
def FrL (M' M : mI) : Prop := (∀ a, a ≠ 37 → (a < 42 ∨ 47 < a) → M' a = M a) ∧ ∀ j, j ≠ 10 → M' 37 j = M 37 j
theorem FrL.trans {M M' M'' : mI} (h : FrL M'' M') (h2 : FrL M' M) : FrL M'' M := ⟨fun a u v => (h.1 a u v).trans (h2.1 a u v), fun j u => (h.2 j u).trans (h2.2 j u)⟩
theorem FrL.mr {M M' : mI} {σ : sG} (h : FrL M' M) (hm : MR M σ) : MR M' σ := hm.to (fun a u v => h.1 a (by omega) (by omega)) (h.2 3 (by decide)) (h.2 4 (by decide)) (h.2 6 (by decide))
theorem FrL.lo {M M' : mI} (h : FrL M' M) : ∀ a, a < 37 → M' a = M a := fun a u => h.1 a (by omega) (by omega)
theorem vI_eq {a b : Int} (h : a = b) : vI a = vI b := by rw [h]
theorem pP_take {n w p : Int} {x g : Int → Int} (hw : w = 0 ∨ w = 1) : (bD n x g p ≠ -10004 ∧ (w = 0 ∨ (0 < sv n x g p ∧ sv n x g (p + 1) ≤ sv n x g p ∧ sv n x g (p + 2) ≤ sv n x g p)) → pD n x g w p = bD n x g p ∧ pL n x g w p = rc n x p (bD n x g p)) ∧ (¬ (bD n x g p ≠ -10004 ∧ (w = 0 ∨ (0 < sv n x g p ∧ sv n x g (p + 1) ≤ sv n x g p ∧ sv n x g (p + 2) ≤ sv n x g p))) → pD n x g w p = 0 ∧ pL n x g w p = 1) := by
  unfold pD pL pP
  rw [if_neg (show ¬ w = 2 by omega)]
  refine ⟨fun h => ?_, fun h => ?_⟩
  · rw [if_neg h.1]
    rcases h.2 with h2 | h2
    · rw [if_pos h2]; exact ⟨rfl, rfl⟩
    · rw [if_pos h2]; split <;> exact ⟨rfl, rfl⟩
  · by_cases hb : bD n x g p = -10004
    · rw [if_pos hb]; exact ⟨rfl, rfl⟩
    · rw [if_neg hb, if_neg (fun hw => h ⟨hb, Or.inl hw⟩), if_neg (fun hw => h ⟨hb, Or.inr hw⟩)]; exact ⟨rfl, rfl⟩
theorem lays_rows {M : mI} {n w p : Int} {x g : Int → Int} {pre : List Int} {i : Nat} {b y : Int} (h6 : ∀ (i : Nat) (b : Int), pre[i]? = some b → M 42 i = b ∧ M 43 i = pL n x g w b ∧ M 44 i = pD n x g w b) (hb : (pre ++ [p])[i]? = some b) : mU (mU (mU (mU M 42 pre.length p) 44 pre.length (pD n x g w p)) 43 pre.length (pL n x g w p)) 37 10 y 42 i = b ∧ mU (mU (mU (mU M 42 pre.length p) 44 pre.length (pD n x g w p)) 43 pre.length (pL n x g w p)) 37 10 y 43 i = pL n x g w b ∧ mU (mU (mU (mU M 42 pre.length p) 44 pre.length (pD n x g w p)) 43 pre.length (pL n x g w p)) 37 10 y 44 i = pD n x g w b := by
  by_cases hi : i < pre.length
  · rw [List.getElem?_append_left hi] at hb
    obtain ⟨w1, w2, w3⟩ := h6 i b hb
    exact ⟨by rw [mU_cell (by decide), mU_cell (by decide), mU_cell (by decide), mU_slot (by omega)]; exact w1, by rw [mU_cell (by decide), mU_slot (by omega), mU_cell (by decide), mU_cell (by decide)]; exact w2, by rw [mU_cell (by decide), mU_cell (by decide), mU_slot (by omega), mU_cell (by decide)]; exact w3⟩
  · have hi2 : i = pre.length := by
      have zz := (List.getElem?_eq_some_iff.mp hb).1
      simp at zz
      omega
    subst hi2
    have e : b = p := by simpa using hb.symm
    subst e
    exact ⟨by rw [mU_cell (by decide), mU_cell (by decide), mU_cell (by decide), mU_self], by rw [mU_cell (by decide), mU_self], by rw [mU_cell (by decide), mU_cell (by decide), mU_self]⟩
theorem c_Mo_lays {Γ : gX} {l : Launch} {M : mI} {n w : Int} {x g : Int → Int} (hv : Ns M n x g) (hg : Og g) (hw : 0 ≤ w ∧ w ≤ 2) : Cn Γ l i_Mo_lays R0 51 [.ref (gb Γ + 37), vI w] M (pV (fun M' => LM M' n x g w ∧ FrL M' M)) := by
  refine cn_intro (L := [some (.ref (gb Γ + 37)), some (vI w), none, none]) yo_Mo_lays.1 rfl (Nat.le_of_ble_eq_true rfl) rfl (fun X hX hR => ?_)
  obtain ⟨v1, v2, v3, v4, v5⟩ := id hv
  have zlb : (bgs n x g w).length ≤ n.toNat := ly_len _ _
  have LOOP : ∀ (q : Nat) (p : Int) (pre : List Int) (M1 : mI) (o3 : Option Value), pre ++ ly (pL n x g w) n q p = bgs n x g w → n - p ≤ q → 0 ≤ p ∧ p ≤ n → (pre.length : Int) ≤ p → M1 37 10 = (pre.length : Int) → (∀ (i : Nat) (b : Int), pre[i]? = some b → M1 42 i = b ∧ M1 43 i = pL n x g w b ∧ M1 44 i = pD n x g w b) → (w = 2 → ∀ q, 0 ≤ q → q < n → M1 46 q = pL n x g w q ∧ M1 47 q = pD n x g w q) → FrL M1 M → G Γ X 4 (R0, 51, 0, 0) 48 [some (.ref (gb Γ + 37)), some (vI w), some (vI p), o3] [] M1 := by
    intro q
    induction q with
    | zero =>
      intro p pre M1 o3 h1 h2 h3 h4 h5 h6 h7 hF
      have e38 : M1 38 0 = n := by rw [hF.1 38 (by decide) (by decide)]; exact v1
      refine g_iload_n hX d_Mo_lays_48 rfl ?_
      refine g_aload_n hX d_Mo_lays_49 rfl ?_
      refine g_getR hX fl_Mo_7 d_Mo_lays_50 ⟨rfl, by decide⟩ rfl rfl ?_
      refine g_iconst hX d_Mo_lays_53 ?_
      refine g_iald hX d_Mo_lays_54 ⟨rfl, by decide⟩ (by omega) (fun r_54 => ?_)
      refine g_icmp_ge 190 hX d_Mo_lays_55 (by decide) (by omega) (by omega) (fun h_55 => ?_) (fun h_55 => ?_)
      · refine g_vret hX hR d_Mo_lays_190 ?_
        rw [ly_end _ _ _ _ (by omega), List.append_nil] at h1; exact ⟨⟨by rw [← h1]; exact h5, fun i b hb => h6 i b (by rw [h1]; exact hb)⟩, hF⟩
      · exact absurd h_55 (by omega)
    | succ q ih =>
      intro p pre M1 o3 h1 h2 h3 h4 h5 h6 h7 hF
      have e38 : M1 38 0 = n := by rw [hF.1 38 (by decide) (by decide)]; exact v1
      have hv1 : Ns M1 n x g := hv.to (hF.1 38 (by decide) (by decide))
      refine g_iload_n hX d_Mo_lays_48 rfl ?_
      refine g_aload_n hX d_Mo_lays_49 rfl ?_
      refine g_getR hX fl_Mo_7 d_Mo_lays_50 ⟨rfl, by decide⟩ rfl rfl ?_
      refine g_iconst hX d_Mo_lays_53 ?_
      refine g_iald hX d_Mo_lays_54 ⟨rfl, by decide⟩ (by omega) (fun r_54 => ?_)
      refine g_icmp_ge 190 hX d_Mo_lays_55 (by decide) (by omega) (by omega) (fun h_55 => ?_) (fun h_55 => ?_)
      · refine g_vret hX hR d_Mo_lays_190 ?_
        rw [ly_end _ _ _ _ (by omega), List.append_nil] at h1; exact ⟨⟨by rw [← h1]; exact h5, fun i b hb => h6 i b (by rw [h1]; exact hb)⟩, hF⟩
      · have zpk := pP_ok (x := x) (w := w) hg h3.1 (show p < n by omega)
        have zp1 : 1 ≤ pL n x g w p ∧ pL n x g w p ≤ 20 ∧ p + pL n x g w p ≤ n := ⟨zpk.1, zpk.2.1, zpk.2.2.1⟩
        have zp2 : 0 ≤ pD n x g w p ∧ pD n x g w p ≤ p := ⟨zpk.2.2.2.1, zpk.2.2.2.2.1⟩
        have zbc := bD_cases (n := n) (x := x) (p := p) hg h3.1
        refine g_iload_n hX d_Mo_lays_58 rfl ?_
        refine g_iconst hX d_Mo_lays_59 ?_
        refine g_icmp_ge 76 hX d_Mo_lays_60 (by decide) (by omega) (by omega) (fun h_60 => ?_) (fun h_60 => ?_)
        · obtain ⟨zL2, zD2⟩ := h7 (by omega) p h3.1 (by omega)
          refine g_iconst hX d_Mo_lays_76 ?_
          refine g_istore_n hX d_Mo_lays_77 (by decide) ?_
          refine g_aload_n hX d_Mo_lays_78 rfl ?_
          refine g_getR hX fl_Mo_22 d_Mo_lays_79 ⟨rfl, by decide⟩ rfl rfl ?_
          refine g_aload_n hX d_Mo_lays_82 rfl ?_
          refine g_getI hX fl_Mo_98 d_Mo_lays_83 10 ⟨rfl, by decide⟩ rfl rfl (fun r_83 => ?_)
          rw [h5] at r_83 ⊢
          refine g_iload_n hX d_Mo_lays_86 rfl ?_
          refine g_iast hX d_Mo_lays_87 ⟨rfl, by decide⟩ (by omega) (by omega) ?_
          refine g_aload_n hX d_Mo_lays_88 rfl ?_
          refine g_getR hX fl_Mo_28 d_Mo_lays_89 ⟨rfl, by decide⟩ rfl rfl ?_
          refine g_aload_n hX d_Mo_lays_92 rfl ?_
          refine g_getI hX fl_Mo_98 d_Mo_lays_93 10 ⟨rfl, by decide⟩ rfl rfl (fun r_93 => ?_)
          rw [mU_cell (by decide), h5] at r_93 ⊢
          refine g_iload_n hX d_Mo_lays_96 rfl ?_
          refine g_iconst hX d_Mo_lays_97 ?_
          refine g_icmp_ne 110 hX d_Mo_lays_98 (by decide) (by omega) (by omega) (fun h_98 => ?_) (fun h_98 => ?_)
          · refine g_iload_n hX d_Mo_lays_110 rfl ?_
            refine g_if_eq 122 hX d_Mo_lays_111 (by decide) (by first | omega | exact ite_iR) (fun h_111 => ?_) (fun h_111 => ?_)
            · refine g_iconst hX d_Mo_lays_122 ?_
              first | rw [mU_cell (by decide), zD2] | rw [vI_eq zD.symm] | skip
              refine g_iast hX d_Mo_lays_123 ⟨rfl, by decide⟩ (by omega) (by first | omega | assumption) ?_
              refine g_aload_n hX d_Mo_lays_124 rfl ?_
              refine g_getR hX fl_Mo_25 d_Mo_lays_125 ⟨rfl, by decide⟩ rfl rfl ?_
              refine g_aload_n hX d_Mo_lays_128 rfl ?_
              refine g_getI hX fl_Mo_98 d_Mo_lays_129 10 ⟨rfl, by decide⟩ rfl rfl (fun r_129 => ?_)
              rw [mU_cell (by decide), mU_cell (by decide), h5] at r_129 ⊢
              refine g_iload_n hX d_Mo_lays_132 rfl ?_
              refine g_iconst hX d_Mo_lays_133 ?_
              refine g_icmp_ne 146 hX d_Mo_lays_134 (by decide) (by omega) (by omega) (fun h_134 => ?_) (fun h_134 => ?_)
              · refine g_iload_n hX d_Mo_lays_146 rfl ?_
                refine g_if_eq 163 hX d_Mo_lays_147 (by decide) (by first | omega | exact ite_iR) (fun h_147 => ?_) (fun h_147 => ?_)
                · refine g_iconst hX d_Mo_lays_163 ?_
                  first | rw [mU_cell (by decide), mU_cell (by decide), zL2] | rw [vI_eq zL.symm] | skip
                  refine g_iast hX d_Mo_lays_164 ⟨rfl, by decide⟩ (by omega) (by first | omega | assumption) ?_
                  refine g_iload_n hX d_Mo_lays_165 rfl ?_
                  refine g_aload_n hX d_Mo_lays_166 rfl ?_
                  refine g_getR hX fl_Mo_25 d_Mo_lays_167 ⟨rfl, by decide⟩ rfl rfl ?_
                  refine g_aload_n hX d_Mo_lays_170 rfl ?_
                  refine g_getI hX fl_Mo_98 d_Mo_lays_171 10 ⟨rfl, by decide⟩ rfl rfl (fun r_171 => ?_)
                  rw [mU_cell (by decide), mU_cell (by decide), mU_cell (by decide), h5] at r_171 ⊢
                  refine g_iald hX d_Mo_lays_174 ⟨rfl, by decide⟩ (by omega) (fun r_174 => ?_)
                  try rw [mU_self]
                  refine g_iadd hX d_Mo_lays_175 ?_
                  refine g_istore_n hX d_Mo_lays_176 (by decide) ?_
                  refine g_aload_n hX d_Mo_lays_177 rfl ?_
                  refine g_dup hX d_Mo_lays_178 rfl ?_
                  refine g_getI hX fl_Mo_98 d_Mo_lays_179 10 ⟨rfl, by decide⟩ rfl rfl (fun r_179 => ?_)
                  try rw [mU_cell (by decide), mU_cell (by decide), mU_cell (by decide), h5] at r_179 ⊢
                  refine g_iconst hX d_Mo_lays_182 ?_
                  refine g_iadd hX d_Mo_lays_183 ?_
                  refine g_putI hX fl_Mo_98 d_Mo_lays_184 10 ⟨rfl, by decide⟩ rfl rfl (fun q h => by cases h; rfl) rfl (by omega) ?_
                  refine g_goto 48 hX d_Mo_lays_187 (by decide) ?_
                  first | (exfalso; omega) | refine ih (p + pL n x g w p) (pre ++ [p]) _ _ (by rw [← h1, ly_succ, if_pos (by omega), List.append_assoc]; rfl) (by omega) (by omega) (by simp; omega) (by rw [mU_self]; simp) (fun i b hb => ?_) (fun e q u v => ?_) ⟨fun a u v => by rw [mU_cell (by omega), mU_cell (by omega), mU_cell (by omega), mU_cell (by omega)]; exact hF.1 a u v, fun j u => by rw [mU_slot u, mU_cell (by decide), mU_cell (by decide), mU_cell (by decide)]; exact hF.2 j u⟩
                  all_goals first | (obtain ⟨a1, a2⟩ := h7 e q u v; exact ⟨by rw [mU_cell (by decide), mU_cell (by decide), mU_cell (by decide), mU_cell (by decide)]; exact a1, by rw [mU_cell (by decide), mU_cell (by decide), mU_cell (by decide), mU_cell (by decide)]; exact a2⟩) | (exact lays_rows h6 hb)
                · refine g_aload_n hX d_Mo_lays_150 rfl ?_
                  refine g_iload_n hX d_Mo_lays_151 rfl ?_
                  refine g_aload_n hX d_Mo_lays_152 rfl ?_
                  refine g_iload_n hX d_Mo_lays_153 rfl ?_
                  refine g_callV hX yo_Mo_best q_789 d_Mo_lays_154 (c_Mo_best (hv1.to ((mU_cell (by decide)).trans (mU_cell (by decide)))) hg ⟨h3.1, by omega⟩) rfl rfl ⟨rfl, by decide⟩ rfl (by decide) (Nat.le_of_ble_eq_true rfl) ⟨Nat.zero_le _, Nat.zero_le _⟩ (k_int fun r_154 M_154 ir_154 hp_154 => ?_)
                  obtain ⟨er_154, eM_154⟩ := hp_154; replace er_154 := er_154.symm; replace eM_154 := eM_154.symm; subst er_154; subst eM_154
                  refine g_callV hX yo_Mo_reach q_777 d_Mo_lays_157 (c_Mo_reach (hv1.to ((mU_cell (by decide)).trans (mU_cell (by decide)))) ⟨h3.1, by omega⟩ ⟨by omega, by omega⟩) rfl rfl ⟨rfl, by decide⟩ rfl (by decide) (Nat.le_of_ble_eq_true rfl) ⟨Nat.zero_le _, Nat.zero_le _⟩ (k_int fun r_157 M_157 ir_157 hp_157 => ?_)
                  obtain ⟨er_157, eM_157⟩ := hp_157; replace er_157 := er_157.symm; replace eM_157 := eM_157.symm; subst er_157; subst eM_157
                  refine g_goto 164 hX d_Mo_lays_160 (by decide) ?_
                  first | rw [mU_cell (by decide), mU_cell (by decide), zL2] | rw [vI_eq zL.symm] | skip
                  refine g_iast hX d_Mo_lays_164 ⟨rfl, by decide⟩ (by omega) (by first | omega | assumption) ?_
                  refine g_iload_n hX d_Mo_lays_165 rfl ?_
                  refine g_aload_n hX d_Mo_lays_166 rfl ?_
                  refine g_getR hX fl_Mo_25 d_Mo_lays_167 ⟨rfl, by decide⟩ rfl rfl ?_
                  refine g_aload_n hX d_Mo_lays_170 rfl ?_
                  refine g_getI hX fl_Mo_98 d_Mo_lays_171 10 ⟨rfl, by decide⟩ rfl rfl (fun r_171 => ?_)
                  rw [mU_cell (by decide), mU_cell (by decide), mU_cell (by decide), h5] at r_171 ⊢
                  refine g_iald hX d_Mo_lays_174 ⟨rfl, by decide⟩ (by omega) (fun r_174 => ?_)
                  try rw [mU_self]
                  refine g_iadd hX d_Mo_lays_175 ?_
                  refine g_istore_n hX d_Mo_lays_176 (by decide) ?_
                  refine g_aload_n hX d_Mo_lays_177 rfl ?_
                  refine g_dup hX d_Mo_lays_178 rfl ?_
                  refine g_getI hX fl_Mo_98 d_Mo_lays_179 10 ⟨rfl, by decide⟩ rfl rfl (fun r_179 => ?_)
                  try rw [mU_cell (by decide), mU_cell (by decide), mU_cell (by decide), h5] at r_179 ⊢
                  refine g_iconst hX d_Mo_lays_182 ?_
                  refine g_iadd hX d_Mo_lays_183 ?_
                  refine g_putI hX fl_Mo_98 d_Mo_lays_184 10 ⟨rfl, by decide⟩ rfl rfl (fun q h => by cases h; rfl) rfl (by omega) ?_
                  refine g_goto 48 hX d_Mo_lays_187 (by decide) ?_
                  first | (exfalso; omega) | refine ih (p + pL n x g w p) (pre ++ [p]) _ _ (by rw [← h1, ly_succ, if_pos (by omega), List.append_assoc]; rfl) (by omega) (by omega) (by simp; omega) (by rw [mU_self]; simp) (fun i b hb => ?_) (fun e q u v => ?_) ⟨fun a u v => by rw [mU_cell (by omega), mU_cell (by omega), mU_cell (by omega), mU_cell (by omega)]; exact hF.1 a u v, fun j u => by rw [mU_slot u, mU_cell (by decide), mU_cell (by decide), mU_cell (by decide)]; exact hF.2 j u⟩
                  all_goals first | (obtain ⟨a1, a2⟩ := h7 e q u v; exact ⟨by rw [mU_cell (by decide), mU_cell (by decide), mU_cell (by decide), mU_cell (by decide)]; exact a1, by rw [mU_cell (by decide), mU_cell (by decide), mU_cell (by decide), mU_cell (by decide)]; exact a2⟩) | (exact lays_rows h6 hb)
              · refine g_aload_n hX d_Mo_lays_137 rfl ?_
                refine g_getR hX fl_Mo_34 d_Mo_lays_138 ⟨rfl, by decide⟩ rfl rfl ?_
                refine g_iload_n hX d_Mo_lays_141 rfl ?_
                refine g_iald hX d_Mo_lays_142 ⟨rfl, by decide⟩ (by omega) (fun r_142 => ?_)
                refine g_goto 164 hX d_Mo_lays_143 (by decide) ?_
                first | rw [mU_cell (by decide), mU_cell (by decide), zL2] | rw [vI_eq zL.symm] | skip
                refine g_iast hX d_Mo_lays_164 ⟨rfl, by decide⟩ (by omega) (by first | omega | assumption) ?_
                refine g_iload_n hX d_Mo_lays_165 rfl ?_
                refine g_aload_n hX d_Mo_lays_166 rfl ?_
                refine g_getR hX fl_Mo_25 d_Mo_lays_167 ⟨rfl, by decide⟩ rfl rfl ?_
                refine g_aload_n hX d_Mo_lays_170 rfl ?_
                refine g_getI hX fl_Mo_98 d_Mo_lays_171 10 ⟨rfl, by decide⟩ rfl rfl (fun r_171 => ?_)
                rw [mU_cell (by decide), mU_cell (by decide), mU_cell (by decide), h5] at r_171 ⊢
                refine g_iald hX d_Mo_lays_174 ⟨rfl, by decide⟩ (by omega) (fun r_174 => ?_)
                try rw [mU_self]
                refine g_iadd hX d_Mo_lays_175 ?_
                refine g_istore_n hX d_Mo_lays_176 (by decide) ?_
                refine g_aload_n hX d_Mo_lays_177 rfl ?_
                refine g_dup hX d_Mo_lays_178 rfl ?_
                refine g_getI hX fl_Mo_98 d_Mo_lays_179 10 ⟨rfl, by decide⟩ rfl rfl (fun r_179 => ?_)
                try rw [mU_cell (by decide), mU_cell (by decide), mU_cell (by decide), h5] at r_179 ⊢
                refine g_iconst hX d_Mo_lays_182 ?_
                refine g_iadd hX d_Mo_lays_183 ?_
                refine g_putI hX fl_Mo_98 d_Mo_lays_184 10 ⟨rfl, by decide⟩ rfl rfl (fun q h => by cases h; rfl) rfl (by omega) ?_
                refine g_goto 48 hX d_Mo_lays_187 (by decide) ?_
                first | (exfalso; omega) | refine ih (p + pL n x g w p) (pre ++ [p]) _ _ (by rw [← h1, ly_succ, if_pos (by omega), List.append_assoc]; rfl) (by omega) (by omega) (by simp; omega) (by rw [mU_self]; simp) (fun i b hb => ?_) (fun e q u v => ?_) ⟨fun a u v => by rw [mU_cell (by omega), mU_cell (by omega), mU_cell (by omega), mU_cell (by omega)]; exact hF.1 a u v, fun j u => by rw [mU_slot u, mU_cell (by decide), mU_cell (by decide), mU_cell (by decide)]; exact hF.2 j u⟩
                all_goals first | (obtain ⟨a1, a2⟩ := h7 e q u v; exact ⟨by rw [mU_cell (by decide), mU_cell (by decide), mU_cell (by decide), mU_cell (by decide)]; exact a1, by rw [mU_cell (by decide), mU_cell (by decide), mU_cell (by decide), mU_cell (by decide)]; exact a2⟩) | (exact lays_rows h6 hb)
            · refine g_aload_n hX d_Mo_lays_114 rfl ?_
              refine g_iload_n hX d_Mo_lays_115 rfl ?_
              refine g_callV hX yo_Mo_best q_789 d_Mo_lays_116 (c_Mo_best (hv1.to (mU_cell (by decide))) hg ⟨h3.1, by omega⟩) rfl rfl ⟨rfl, by decide⟩ rfl (by decide) (Nat.le_of_ble_eq_true rfl) ⟨Nat.zero_le _, Nat.zero_le _⟩ (k_int fun r_116 M_116 ir_116 hp_116 => ?_)
              obtain ⟨er_116, eM_116⟩ := hp_116; replace er_116 := er_116.symm; replace eM_116 := eM_116.symm; subst er_116; subst eM_116
              refine g_goto 123 hX d_Mo_lays_119 (by decide) ?_
              first | rw [mU_cell (by decide), zD2] | rw [vI_eq zD.symm] | skip
              refine g_iast hX d_Mo_lays_123 ⟨rfl, by decide⟩ (by omega) (by first | omega | assumption) ?_
              refine g_aload_n hX d_Mo_lays_124 rfl ?_
              refine g_getR hX fl_Mo_25 d_Mo_lays_125 ⟨rfl, by decide⟩ rfl rfl ?_
              refine g_aload_n hX d_Mo_lays_128 rfl ?_
              refine g_getI hX fl_Mo_98 d_Mo_lays_129 10 ⟨rfl, by decide⟩ rfl rfl (fun r_129 => ?_)
              rw [mU_cell (by decide), mU_cell (by decide), h5] at r_129 ⊢
              refine g_iload_n hX d_Mo_lays_132 rfl ?_
              refine g_iconst hX d_Mo_lays_133 ?_
              refine g_icmp_ne 146 hX d_Mo_lays_134 (by decide) (by omega) (by omega) (fun h_134 => ?_) (fun h_134 => ?_)
              · refine g_iload_n hX d_Mo_lays_146 rfl ?_
                refine g_if_eq 163 hX d_Mo_lays_147 (by decide) (by first | omega | exact ite_iR) (fun h_147 => ?_) (fun h_147 => ?_)
                · refine g_iconst hX d_Mo_lays_163 ?_
                  first | rw [mU_cell (by decide), mU_cell (by decide), zL2] | rw [vI_eq zL.symm] | skip
                  refine g_iast hX d_Mo_lays_164 ⟨rfl, by decide⟩ (by omega) (by first | omega | assumption) ?_
                  refine g_iload_n hX d_Mo_lays_165 rfl ?_
                  refine g_aload_n hX d_Mo_lays_166 rfl ?_
                  refine g_getR hX fl_Mo_25 d_Mo_lays_167 ⟨rfl, by decide⟩ rfl rfl ?_
                  refine g_aload_n hX d_Mo_lays_170 rfl ?_
                  refine g_getI hX fl_Mo_98 d_Mo_lays_171 10 ⟨rfl, by decide⟩ rfl rfl (fun r_171 => ?_)
                  rw [mU_cell (by decide), mU_cell (by decide), mU_cell (by decide), h5] at r_171 ⊢
                  refine g_iald hX d_Mo_lays_174 ⟨rfl, by decide⟩ (by omega) (fun r_174 => ?_)
                  try rw [mU_self]
                  refine g_iadd hX d_Mo_lays_175 ?_
                  refine g_istore_n hX d_Mo_lays_176 (by decide) ?_
                  refine g_aload_n hX d_Mo_lays_177 rfl ?_
                  refine g_dup hX d_Mo_lays_178 rfl ?_
                  refine g_getI hX fl_Mo_98 d_Mo_lays_179 10 ⟨rfl, by decide⟩ rfl rfl (fun r_179 => ?_)
                  try rw [mU_cell (by decide), mU_cell (by decide), mU_cell (by decide), h5] at r_179 ⊢
                  refine g_iconst hX d_Mo_lays_182 ?_
                  refine g_iadd hX d_Mo_lays_183 ?_
                  refine g_putI hX fl_Mo_98 d_Mo_lays_184 10 ⟨rfl, by decide⟩ rfl rfl (fun q h => by cases h; rfl) rfl (by omega) ?_
                  refine g_goto 48 hX d_Mo_lays_187 (by decide) ?_
                  first | (exfalso; omega) | refine ih (p + pL n x g w p) (pre ++ [p]) _ _ (by rw [← h1, ly_succ, if_pos (by omega), List.append_assoc]; rfl) (by omega) (by omega) (by simp; omega) (by rw [mU_self]; simp) (fun i b hb => ?_) (fun e q u v => ?_) ⟨fun a u v => by rw [mU_cell (by omega), mU_cell (by omega), mU_cell (by omega), mU_cell (by omega)]; exact hF.1 a u v, fun j u => by rw [mU_slot u, mU_cell (by decide), mU_cell (by decide), mU_cell (by decide)]; exact hF.2 j u⟩
                  all_goals first | (obtain ⟨a1, a2⟩ := h7 e q u v; exact ⟨by rw [mU_cell (by decide), mU_cell (by decide), mU_cell (by decide), mU_cell (by decide)]; exact a1, by rw [mU_cell (by decide), mU_cell (by decide), mU_cell (by decide), mU_cell (by decide)]; exact a2⟩) | (exact lays_rows h6 hb)
                · refine g_aload_n hX d_Mo_lays_150 rfl ?_
                  refine g_iload_n hX d_Mo_lays_151 rfl ?_
                  refine g_aload_n hX d_Mo_lays_152 rfl ?_
                  refine g_iload_n hX d_Mo_lays_153 rfl ?_
                  refine g_callV hX yo_Mo_best q_789 d_Mo_lays_154 (c_Mo_best (hv1.to ((mU_cell (by decide)).trans (mU_cell (by decide)))) hg ⟨h3.1, by omega⟩) rfl rfl ⟨rfl, by decide⟩ rfl (by decide) (Nat.le_of_ble_eq_true rfl) ⟨Nat.zero_le _, Nat.zero_le _⟩ (k_int fun r_154 M_154 ir_154 hp_154 => ?_)
                  obtain ⟨er_154, eM_154⟩ := hp_154; replace er_154 := er_154.symm; replace eM_154 := eM_154.symm; subst er_154; subst eM_154
                  refine g_callV hX yo_Mo_reach q_777 d_Mo_lays_157 (c_Mo_reach (hv1.to ((mU_cell (by decide)).trans (mU_cell (by decide)))) ⟨h3.1, by omega⟩ ⟨by omega, by omega⟩) rfl rfl ⟨rfl, by decide⟩ rfl (by decide) (Nat.le_of_ble_eq_true rfl) ⟨Nat.zero_le _, Nat.zero_le _⟩ (k_int fun r_157 M_157 ir_157 hp_157 => ?_)
                  obtain ⟨er_157, eM_157⟩ := hp_157; replace er_157 := er_157.symm; replace eM_157 := eM_157.symm; subst er_157; subst eM_157
                  refine g_goto 164 hX d_Mo_lays_160 (by decide) ?_
                  first | rw [mU_cell (by decide), mU_cell (by decide), zL2] | rw [vI_eq zL.symm] | skip
                  refine g_iast hX d_Mo_lays_164 ⟨rfl, by decide⟩ (by omega) (by first | omega | assumption) ?_
                  refine g_iload_n hX d_Mo_lays_165 rfl ?_
                  refine g_aload_n hX d_Mo_lays_166 rfl ?_
                  refine g_getR hX fl_Mo_25 d_Mo_lays_167 ⟨rfl, by decide⟩ rfl rfl ?_
                  refine g_aload_n hX d_Mo_lays_170 rfl ?_
                  refine g_getI hX fl_Mo_98 d_Mo_lays_171 10 ⟨rfl, by decide⟩ rfl rfl (fun r_171 => ?_)
                  rw [mU_cell (by decide), mU_cell (by decide), mU_cell (by decide), h5] at r_171 ⊢
                  refine g_iald hX d_Mo_lays_174 ⟨rfl, by decide⟩ (by omega) (fun r_174 => ?_)
                  try rw [mU_self]
                  refine g_iadd hX d_Mo_lays_175 ?_
                  refine g_istore_n hX d_Mo_lays_176 (by decide) ?_
                  refine g_aload_n hX d_Mo_lays_177 rfl ?_
                  refine g_dup hX d_Mo_lays_178 rfl ?_
                  refine g_getI hX fl_Mo_98 d_Mo_lays_179 10 ⟨rfl, by decide⟩ rfl rfl (fun r_179 => ?_)
                  try rw [mU_cell (by decide), mU_cell (by decide), mU_cell (by decide), h5] at r_179 ⊢
                  refine g_iconst hX d_Mo_lays_182 ?_
                  refine g_iadd hX d_Mo_lays_183 ?_
                  refine g_putI hX fl_Mo_98 d_Mo_lays_184 10 ⟨rfl, by decide⟩ rfl rfl (fun q h => by cases h; rfl) rfl (by omega) ?_
                  refine g_goto 48 hX d_Mo_lays_187 (by decide) ?_
                  first | (exfalso; omega) | refine ih (p + pL n x g w p) (pre ++ [p]) _ _ (by rw [← h1, ly_succ, if_pos (by omega), List.append_assoc]; rfl) (by omega) (by omega) (by simp; omega) (by rw [mU_self]; simp) (fun i b hb => ?_) (fun e q u v => ?_) ⟨fun a u v => by rw [mU_cell (by omega), mU_cell (by omega), mU_cell (by omega), mU_cell (by omega)]; exact hF.1 a u v, fun j u => by rw [mU_slot u, mU_cell (by decide), mU_cell (by decide), mU_cell (by decide)]; exact hF.2 j u⟩
                  all_goals first | (obtain ⟨a1, a2⟩ := h7 e q u v; exact ⟨by rw [mU_cell (by decide), mU_cell (by decide), mU_cell (by decide), mU_cell (by decide)]; exact a1, by rw [mU_cell (by decide), mU_cell (by decide), mU_cell (by decide), mU_cell (by decide)]; exact a2⟩) | (exact lays_rows h6 hb)
              · refine g_aload_n hX d_Mo_lays_137 rfl ?_
                refine g_getR hX fl_Mo_34 d_Mo_lays_138 ⟨rfl, by decide⟩ rfl rfl ?_
                refine g_iload_n hX d_Mo_lays_141 rfl ?_
                refine g_iald hX d_Mo_lays_142 ⟨rfl, by decide⟩ (by omega) (fun r_142 => ?_)
                refine g_goto 164 hX d_Mo_lays_143 (by decide) ?_
                first | rw [mU_cell (by decide), mU_cell (by decide), zL2] | rw [vI_eq zL.symm] | skip
                refine g_iast hX d_Mo_lays_164 ⟨rfl, by decide⟩ (by omega) (by first | omega | assumption) ?_
                refine g_iload_n hX d_Mo_lays_165 rfl ?_
                refine g_aload_n hX d_Mo_lays_166 rfl ?_
                refine g_getR hX fl_Mo_25 d_Mo_lays_167 ⟨rfl, by decide⟩ rfl rfl ?_
                refine g_aload_n hX d_Mo_lays_170 rfl ?_
                refine g_getI hX fl_Mo_98 d_Mo_lays_171 10 ⟨rfl, by decide⟩ rfl rfl (fun r_171 => ?_)
                rw [mU_cell (by decide), mU_cell (by decide), mU_cell (by decide), h5] at r_171 ⊢
                refine g_iald hX d_Mo_lays_174 ⟨rfl, by decide⟩ (by omega) (fun r_174 => ?_)
                try rw [mU_self]
                refine g_iadd hX d_Mo_lays_175 ?_
                refine g_istore_n hX d_Mo_lays_176 (by decide) ?_
                refine g_aload_n hX d_Mo_lays_177 rfl ?_
                refine g_dup hX d_Mo_lays_178 rfl ?_
                refine g_getI hX fl_Mo_98 d_Mo_lays_179 10 ⟨rfl, by decide⟩ rfl rfl (fun r_179 => ?_)
                try rw [mU_cell (by decide), mU_cell (by decide), mU_cell (by decide), h5] at r_179 ⊢
                refine g_iconst hX d_Mo_lays_182 ?_
                refine g_iadd hX d_Mo_lays_183 ?_
                refine g_putI hX fl_Mo_98 d_Mo_lays_184 10 ⟨rfl, by decide⟩ rfl rfl (fun q h => by cases h; rfl) rfl (by omega) ?_
                refine g_goto 48 hX d_Mo_lays_187 (by decide) ?_
                first | (exfalso; omega) | refine ih (p + pL n x g w p) (pre ++ [p]) _ _ (by rw [← h1, ly_succ, if_pos (by omega), List.append_assoc]; rfl) (by omega) (by omega) (by simp; omega) (by rw [mU_self]; simp) (fun i b hb => ?_) (fun e q u v => ?_) ⟨fun a u v => by rw [mU_cell (by omega), mU_cell (by omega), mU_cell (by omega), mU_cell (by omega)]; exact hF.1 a u v, fun j u => by rw [mU_slot u, mU_cell (by decide), mU_cell (by decide), mU_cell (by decide)]; exact hF.2 j u⟩
                all_goals first | (obtain ⟨a1, a2⟩ := h7 e q u v; exact ⟨by rw [mU_cell (by decide), mU_cell (by decide), mU_cell (by decide), mU_cell (by decide)]; exact a1, by rw [mU_cell (by decide), mU_cell (by decide), mU_cell (by decide), mU_cell (by decide)]; exact a2⟩) | (exact lays_rows h6 hb)
          · refine g_aload_n hX d_Mo_lays_101 rfl ?_
            refine g_getR hX fl_Mo_37 d_Mo_lays_102 ⟨rfl, by decide⟩ rfl rfl ?_
            refine g_iload_n hX d_Mo_lays_105 rfl ?_
            refine g_iald hX d_Mo_lays_106 ⟨rfl, by decide⟩ (by omega) (fun r_106 => ?_)
            refine g_goto 123 hX d_Mo_lays_107 (by decide) ?_
            first | rw [mU_cell (by decide), zD2] | rw [vI_eq zD.symm] | skip
            refine g_iast hX d_Mo_lays_123 ⟨rfl, by decide⟩ (by omega) (by first | omega | assumption) ?_
            refine g_aload_n hX d_Mo_lays_124 rfl ?_
            refine g_getR hX fl_Mo_25 d_Mo_lays_125 ⟨rfl, by decide⟩ rfl rfl ?_
            refine g_aload_n hX d_Mo_lays_128 rfl ?_
            refine g_getI hX fl_Mo_98 d_Mo_lays_129 10 ⟨rfl, by decide⟩ rfl rfl (fun r_129 => ?_)
            rw [mU_cell (by decide), mU_cell (by decide), h5] at r_129 ⊢
            refine g_iload_n hX d_Mo_lays_132 rfl ?_
            refine g_iconst hX d_Mo_lays_133 ?_
            refine g_icmp_ne 146 hX d_Mo_lays_134 (by decide) (by omega) (by omega) (fun h_134 => ?_) (fun h_134 => ?_)
            · refine g_iload_n hX d_Mo_lays_146 rfl ?_
              refine g_if_eq 163 hX d_Mo_lays_147 (by decide) (by first | omega | exact ite_iR) (fun h_147 => ?_) (fun h_147 => ?_)
              · refine g_iconst hX d_Mo_lays_163 ?_
                first | rw [mU_cell (by decide), mU_cell (by decide), zL2] | rw [vI_eq zL.symm] | skip
                refine g_iast hX d_Mo_lays_164 ⟨rfl, by decide⟩ (by omega) (by first | omega | assumption) ?_
                refine g_iload_n hX d_Mo_lays_165 rfl ?_
                refine g_aload_n hX d_Mo_lays_166 rfl ?_
                refine g_getR hX fl_Mo_25 d_Mo_lays_167 ⟨rfl, by decide⟩ rfl rfl ?_
                refine g_aload_n hX d_Mo_lays_170 rfl ?_
                refine g_getI hX fl_Mo_98 d_Mo_lays_171 10 ⟨rfl, by decide⟩ rfl rfl (fun r_171 => ?_)
                rw [mU_cell (by decide), mU_cell (by decide), mU_cell (by decide), h5] at r_171 ⊢
                refine g_iald hX d_Mo_lays_174 ⟨rfl, by decide⟩ (by omega) (fun r_174 => ?_)
                try rw [mU_self]
                refine g_iadd hX d_Mo_lays_175 ?_
                refine g_istore_n hX d_Mo_lays_176 (by decide) ?_
                refine g_aload_n hX d_Mo_lays_177 rfl ?_
                refine g_dup hX d_Mo_lays_178 rfl ?_
                refine g_getI hX fl_Mo_98 d_Mo_lays_179 10 ⟨rfl, by decide⟩ rfl rfl (fun r_179 => ?_)
                try rw [mU_cell (by decide), mU_cell (by decide), mU_cell (by decide), h5] at r_179 ⊢
                refine g_iconst hX d_Mo_lays_182 ?_
                refine g_iadd hX d_Mo_lays_183 ?_
                refine g_putI hX fl_Mo_98 d_Mo_lays_184 10 ⟨rfl, by decide⟩ rfl rfl (fun q h => by cases h; rfl) rfl (by omega) ?_
                refine g_goto 48 hX d_Mo_lays_187 (by decide) ?_
                first | (exfalso; omega) | refine ih (p + pL n x g w p) (pre ++ [p]) _ _ (by rw [← h1, ly_succ, if_pos (by omega), List.append_assoc]; rfl) (by omega) (by omega) (by simp; omega) (by rw [mU_self]; simp) (fun i b hb => ?_) (fun e q u v => ?_) ⟨fun a u v => by rw [mU_cell (by omega), mU_cell (by omega), mU_cell (by omega), mU_cell (by omega)]; exact hF.1 a u v, fun j u => by rw [mU_slot u, mU_cell (by decide), mU_cell (by decide), mU_cell (by decide)]; exact hF.2 j u⟩
                all_goals first | (obtain ⟨a1, a2⟩ := h7 e q u v; exact ⟨by rw [mU_cell (by decide), mU_cell (by decide), mU_cell (by decide), mU_cell (by decide)]; exact a1, by rw [mU_cell (by decide), mU_cell (by decide), mU_cell (by decide), mU_cell (by decide)]; exact a2⟩) | (exact lays_rows h6 hb)
              · refine g_aload_n hX d_Mo_lays_150 rfl ?_
                refine g_iload_n hX d_Mo_lays_151 rfl ?_
                refine g_aload_n hX d_Mo_lays_152 rfl ?_
                refine g_iload_n hX d_Mo_lays_153 rfl ?_
                refine g_callV hX yo_Mo_best q_789 d_Mo_lays_154 (c_Mo_best (hv1.to ((mU_cell (by decide)).trans (mU_cell (by decide)))) hg ⟨h3.1, by omega⟩) rfl rfl ⟨rfl, by decide⟩ rfl (by decide) (Nat.le_of_ble_eq_true rfl) ⟨Nat.zero_le _, Nat.zero_le _⟩ (k_int fun r_154 M_154 ir_154 hp_154 => ?_)
                obtain ⟨er_154, eM_154⟩ := hp_154; replace er_154 := er_154.symm; replace eM_154 := eM_154.symm; subst er_154; subst eM_154
                refine g_callV hX yo_Mo_reach q_777 d_Mo_lays_157 (c_Mo_reach (hv1.to ((mU_cell (by decide)).trans (mU_cell (by decide)))) ⟨h3.1, by omega⟩ ⟨by omega, by omega⟩) rfl rfl ⟨rfl, by decide⟩ rfl (by decide) (Nat.le_of_ble_eq_true rfl) ⟨Nat.zero_le _, Nat.zero_le _⟩ (k_int fun r_157 M_157 ir_157 hp_157 => ?_)
                obtain ⟨er_157, eM_157⟩ := hp_157; replace er_157 := er_157.symm; replace eM_157 := eM_157.symm; subst er_157; subst eM_157
                refine g_goto 164 hX d_Mo_lays_160 (by decide) ?_
                first | rw [mU_cell (by decide), mU_cell (by decide), zL2] | rw [vI_eq zL.symm] | skip
                refine g_iast hX d_Mo_lays_164 ⟨rfl, by decide⟩ (by omega) (by first | omega | assumption) ?_
                refine g_iload_n hX d_Mo_lays_165 rfl ?_
                refine g_aload_n hX d_Mo_lays_166 rfl ?_
                refine g_getR hX fl_Mo_25 d_Mo_lays_167 ⟨rfl, by decide⟩ rfl rfl ?_
                refine g_aload_n hX d_Mo_lays_170 rfl ?_
                refine g_getI hX fl_Mo_98 d_Mo_lays_171 10 ⟨rfl, by decide⟩ rfl rfl (fun r_171 => ?_)
                rw [mU_cell (by decide), mU_cell (by decide), mU_cell (by decide), h5] at r_171 ⊢
                refine g_iald hX d_Mo_lays_174 ⟨rfl, by decide⟩ (by omega) (fun r_174 => ?_)
                try rw [mU_self]
                refine g_iadd hX d_Mo_lays_175 ?_
                refine g_istore_n hX d_Mo_lays_176 (by decide) ?_
                refine g_aload_n hX d_Mo_lays_177 rfl ?_
                refine g_dup hX d_Mo_lays_178 rfl ?_
                refine g_getI hX fl_Mo_98 d_Mo_lays_179 10 ⟨rfl, by decide⟩ rfl rfl (fun r_179 => ?_)
                try rw [mU_cell (by decide), mU_cell (by decide), mU_cell (by decide), h5] at r_179 ⊢
                refine g_iconst hX d_Mo_lays_182 ?_
                refine g_iadd hX d_Mo_lays_183 ?_
                refine g_putI hX fl_Mo_98 d_Mo_lays_184 10 ⟨rfl, by decide⟩ rfl rfl (fun q h => by cases h; rfl) rfl (by omega) ?_
                refine g_goto 48 hX d_Mo_lays_187 (by decide) ?_
                first | (exfalso; omega) | refine ih (p + pL n x g w p) (pre ++ [p]) _ _ (by rw [← h1, ly_succ, if_pos (by omega), List.append_assoc]; rfl) (by omega) (by omega) (by simp; omega) (by rw [mU_self]; simp) (fun i b hb => ?_) (fun e q u v => ?_) ⟨fun a u v => by rw [mU_cell (by omega), mU_cell (by omega), mU_cell (by omega), mU_cell (by omega)]; exact hF.1 a u v, fun j u => by rw [mU_slot u, mU_cell (by decide), mU_cell (by decide), mU_cell (by decide)]; exact hF.2 j u⟩
                all_goals first | (obtain ⟨a1, a2⟩ := h7 e q u v; exact ⟨by rw [mU_cell (by decide), mU_cell (by decide), mU_cell (by decide), mU_cell (by decide)]; exact a1, by rw [mU_cell (by decide), mU_cell (by decide), mU_cell (by decide), mU_cell (by decide)]; exact a2⟩) | (exact lays_rows h6 hb)
            · refine g_aload_n hX d_Mo_lays_137 rfl ?_
              refine g_getR hX fl_Mo_34 d_Mo_lays_138 ⟨rfl, by decide⟩ rfl rfl ?_
              refine g_iload_n hX d_Mo_lays_141 rfl ?_
              refine g_iald hX d_Mo_lays_142 ⟨rfl, by decide⟩ (by omega) (fun r_142 => ?_)
              refine g_goto 164 hX d_Mo_lays_143 (by decide) ?_
              first | rw [mU_cell (by decide), mU_cell (by decide), zL2] | rw [vI_eq zL.symm] | skip
              refine g_iast hX d_Mo_lays_164 ⟨rfl, by decide⟩ (by omega) (by first | omega | assumption) ?_
              refine g_iload_n hX d_Mo_lays_165 rfl ?_
              refine g_aload_n hX d_Mo_lays_166 rfl ?_
              refine g_getR hX fl_Mo_25 d_Mo_lays_167 ⟨rfl, by decide⟩ rfl rfl ?_
              refine g_aload_n hX d_Mo_lays_170 rfl ?_
              refine g_getI hX fl_Mo_98 d_Mo_lays_171 10 ⟨rfl, by decide⟩ rfl rfl (fun r_171 => ?_)
              rw [mU_cell (by decide), mU_cell (by decide), mU_cell (by decide), h5] at r_171 ⊢
              refine g_iald hX d_Mo_lays_174 ⟨rfl, by decide⟩ (by omega) (fun r_174 => ?_)
              try rw [mU_self]
              refine g_iadd hX d_Mo_lays_175 ?_
              refine g_istore_n hX d_Mo_lays_176 (by decide) ?_
              refine g_aload_n hX d_Mo_lays_177 rfl ?_
              refine g_dup hX d_Mo_lays_178 rfl ?_
              refine g_getI hX fl_Mo_98 d_Mo_lays_179 10 ⟨rfl, by decide⟩ rfl rfl (fun r_179 => ?_)
              try rw [mU_cell (by decide), mU_cell (by decide), mU_cell (by decide), h5] at r_179 ⊢
              refine g_iconst hX d_Mo_lays_182 ?_
              refine g_iadd hX d_Mo_lays_183 ?_
              refine g_putI hX fl_Mo_98 d_Mo_lays_184 10 ⟨rfl, by decide⟩ rfl rfl (fun q h => by cases h; rfl) rfl (by omega) ?_
              refine g_goto 48 hX d_Mo_lays_187 (by decide) ?_
              first | (exfalso; omega) | refine ih (p + pL n x g w p) (pre ++ [p]) _ _ (by rw [← h1, ly_succ, if_pos (by omega), List.append_assoc]; rfl) (by omega) (by omega) (by simp; omega) (by rw [mU_self]; simp) (fun i b hb => ?_) (fun e q u v => ?_) ⟨fun a u v => by rw [mU_cell (by omega), mU_cell (by omega), mU_cell (by omega), mU_cell (by omega)]; exact hF.1 a u v, fun j u => by rw [mU_slot u, mU_cell (by decide), mU_cell (by decide), mU_cell (by decide)]; exact hF.2 j u⟩
              all_goals first | (obtain ⟨a1, a2⟩ := h7 e q u v; exact ⟨by rw [mU_cell (by decide), mU_cell (by decide), mU_cell (by decide), mU_cell (by decide)]; exact a1, by rw [mU_cell (by decide), mU_cell (by decide), mU_cell (by decide), mU_cell (by decide)]; exact a2⟩) | (exact lays_rows h6 hb)
        · refine g_aload_n hX d_Mo_lays_63 rfl ?_
          refine g_iload_n hX d_Mo_lays_64 rfl ?_
          refine g_iload_n hX d_Mo_lays_65 rfl ?_
          refine g_callV hX yo_Mo_takes q_813 d_Mo_lays_66 (c_Mo_takes hv1 hg ⟨h3.1, by omega⟩ (by omega)) rfl rfl ⟨rfl, by decide⟩ rfl (by decide) (Nat.le_of_ble_eq_true rfl) ⟨Nat.zero_le _, Nat.zero_le _⟩ (k_int fun r_66 M_66 ir_66 hp_66 => ?_)
          obtain ⟨er_66, eM_66⟩ := hp_66; replace er_66 := er_66.symm; replace eM_66 := eM_66.symm; subst er_66; subst eM_66
          refine g_if_eq 76 hX d_Mo_lays_69 (by decide) (by first | omega | exact ite_iR) (fun h_69 => ?_) (fun h_69 => ?_)
          · have z1 := ite_eq h_69
            obtain ⟨zD, zL⟩ := (pP_take (n := n) (x := x) (g := g) (p := p) (show w = 0 ∨ w = 1 by omega)).2 z1
            refine g_iconst hX d_Mo_lays_76 ?_
            refine g_istore_n hX d_Mo_lays_77 (by decide) ?_
            refine g_aload_n hX d_Mo_lays_78 rfl ?_
            refine g_getR hX fl_Mo_22 d_Mo_lays_79 ⟨rfl, by decide⟩ rfl rfl ?_
            refine g_aload_n hX d_Mo_lays_82 rfl ?_
            refine g_getI hX fl_Mo_98 d_Mo_lays_83 10 ⟨rfl, by decide⟩ rfl rfl (fun r_83 => ?_)
            rw [h5] at r_83 ⊢
            refine g_iload_n hX d_Mo_lays_86 rfl ?_
            refine g_iast hX d_Mo_lays_87 ⟨rfl, by decide⟩ (by omega) (by omega) ?_
            refine g_aload_n hX d_Mo_lays_88 rfl ?_
            refine g_getR hX fl_Mo_28 d_Mo_lays_89 ⟨rfl, by decide⟩ rfl rfl ?_
            refine g_aload_n hX d_Mo_lays_92 rfl ?_
            refine g_getI hX fl_Mo_98 d_Mo_lays_93 10 ⟨rfl, by decide⟩ rfl rfl (fun r_93 => ?_)
            rw [mU_cell (by decide), h5] at r_93 ⊢
            refine g_iload_n hX d_Mo_lays_96 rfl ?_
            refine g_iconst hX d_Mo_lays_97 ?_
            refine g_icmp_ne 110 hX d_Mo_lays_98 (by decide) (by omega) (by omega) (fun h_98 => ?_) (fun h_98 => ?_)
            · refine g_iload_n hX d_Mo_lays_110 rfl ?_
              refine g_if_eq 122 hX d_Mo_lays_111 (by decide) (by first | omega | exact ite_iR) (fun h_111 => ?_) (fun h_111 => ?_)
              · refine g_iconst hX d_Mo_lays_122 ?_
                first | rw [mU_cell (by decide), zD2] | rw [vI_eq zD.symm] | skip
                refine g_iast hX d_Mo_lays_123 ⟨rfl, by decide⟩ (by omega) (by first | omega | assumption) ?_
                refine g_aload_n hX d_Mo_lays_124 rfl ?_
                refine g_getR hX fl_Mo_25 d_Mo_lays_125 ⟨rfl, by decide⟩ rfl rfl ?_
                refine g_aload_n hX d_Mo_lays_128 rfl ?_
                refine g_getI hX fl_Mo_98 d_Mo_lays_129 10 ⟨rfl, by decide⟩ rfl rfl (fun r_129 => ?_)
                rw [mU_cell (by decide), mU_cell (by decide), h5] at r_129 ⊢
                refine g_iload_n hX d_Mo_lays_132 rfl ?_
                refine g_iconst hX d_Mo_lays_133 ?_
                refine g_icmp_ne 146 hX d_Mo_lays_134 (by decide) (by omega) (by omega) (fun h_134 => ?_) (fun h_134 => ?_)
                · refine g_iload_n hX d_Mo_lays_146 rfl ?_
                  refine g_if_eq 163 hX d_Mo_lays_147 (by decide) (by first | omega | exact ite_iR) (fun h_147 => ?_) (fun h_147 => ?_)
                  · refine g_iconst hX d_Mo_lays_163 ?_
                    first | rw [mU_cell (by decide), mU_cell (by decide), zL2] | rw [vI_eq zL.symm] | skip
                    refine g_iast hX d_Mo_lays_164 ⟨rfl, by decide⟩ (by omega) (by first | omega | assumption) ?_
                    refine g_iload_n hX d_Mo_lays_165 rfl ?_
                    refine g_aload_n hX d_Mo_lays_166 rfl ?_
                    refine g_getR hX fl_Mo_25 d_Mo_lays_167 ⟨rfl, by decide⟩ rfl rfl ?_
                    refine g_aload_n hX d_Mo_lays_170 rfl ?_
                    refine g_getI hX fl_Mo_98 d_Mo_lays_171 10 ⟨rfl, by decide⟩ rfl rfl (fun r_171 => ?_)
                    rw [mU_cell (by decide), mU_cell (by decide), mU_cell (by decide), h5] at r_171 ⊢
                    refine g_iald hX d_Mo_lays_174 ⟨rfl, by decide⟩ (by omega) (fun r_174 => ?_)
                    try rw [mU_self]
                    refine g_iadd hX d_Mo_lays_175 ?_
                    refine g_istore_n hX d_Mo_lays_176 (by decide) ?_
                    refine g_aload_n hX d_Mo_lays_177 rfl ?_
                    refine g_dup hX d_Mo_lays_178 rfl ?_
                    refine g_getI hX fl_Mo_98 d_Mo_lays_179 10 ⟨rfl, by decide⟩ rfl rfl (fun r_179 => ?_)
                    try rw [mU_cell (by decide), mU_cell (by decide), mU_cell (by decide), h5] at r_179 ⊢
                    refine g_iconst hX d_Mo_lays_182 ?_
                    refine g_iadd hX d_Mo_lays_183 ?_
                    refine g_putI hX fl_Mo_98 d_Mo_lays_184 10 ⟨rfl, by decide⟩ rfl rfl (fun q h => by cases h; rfl) rfl (by omega) ?_
                    refine g_goto 48 hX d_Mo_lays_187 (by decide) ?_
                    first | (exfalso; omega) | refine ih (p + pL n x g w p) (pre ++ [p]) _ _ (by rw [← h1, ly_succ, if_pos (by omega), List.append_assoc]; rfl) (by omega) (by omega) (by simp; omega) (by rw [mU_self]; simp) (fun i b hb => ?_) (fun e q u v => ?_) ⟨fun a u v => by rw [mU_cell (by omega), mU_cell (by omega), mU_cell (by omega), mU_cell (by omega)]; exact hF.1 a u v, fun j u => by rw [mU_slot u, mU_cell (by decide), mU_cell (by decide), mU_cell (by decide)]; exact hF.2 j u⟩
                    all_goals first | (obtain ⟨a1, a2⟩ := h7 e q u v; exact ⟨by rw [mU_cell (by decide), mU_cell (by decide), mU_cell (by decide), mU_cell (by decide)]; exact a1, by rw [mU_cell (by decide), mU_cell (by decide), mU_cell (by decide), mU_cell (by decide)]; exact a2⟩) | (exact lays_rows h6 hb)
                  · refine g_aload_n hX d_Mo_lays_150 rfl ?_
                    refine g_iload_n hX d_Mo_lays_151 rfl ?_
                    refine g_aload_n hX d_Mo_lays_152 rfl ?_
                    refine g_iload_n hX d_Mo_lays_153 rfl ?_
                    refine g_callV hX yo_Mo_best q_789 d_Mo_lays_154 (c_Mo_best (hv1.to ((mU_cell (by decide)).trans (mU_cell (by decide)))) hg ⟨h3.1, by omega⟩) rfl rfl ⟨rfl, by decide⟩ rfl (by decide) (Nat.le_of_ble_eq_true rfl) ⟨Nat.zero_le _, Nat.zero_le _⟩ (k_int fun r_154 M_154 ir_154 hp_154 => ?_)
                    obtain ⟨er_154, eM_154⟩ := hp_154; replace er_154 := er_154.symm; replace eM_154 := eM_154.symm; subst er_154; subst eM_154
                    refine g_callV hX yo_Mo_reach q_777 d_Mo_lays_157 (c_Mo_reach (hv1.to ((mU_cell (by decide)).trans (mU_cell (by decide)))) ⟨h3.1, by omega⟩ ⟨by omega, by omega⟩) rfl rfl ⟨rfl, by decide⟩ rfl (by decide) (Nat.le_of_ble_eq_true rfl) ⟨Nat.zero_le _, Nat.zero_le _⟩ (k_int fun r_157 M_157 ir_157 hp_157 => ?_)
                    obtain ⟨er_157, eM_157⟩ := hp_157; replace er_157 := er_157.symm; replace eM_157 := eM_157.symm; subst er_157; subst eM_157
                    refine g_goto 164 hX d_Mo_lays_160 (by decide) ?_
                    first | rw [mU_cell (by decide), mU_cell (by decide), zL2] | rw [vI_eq zL.symm] | skip
                    refine g_iast hX d_Mo_lays_164 ⟨rfl, by decide⟩ (by omega) (by first | omega | assumption) ?_
                    refine g_iload_n hX d_Mo_lays_165 rfl ?_
                    refine g_aload_n hX d_Mo_lays_166 rfl ?_
                    refine g_getR hX fl_Mo_25 d_Mo_lays_167 ⟨rfl, by decide⟩ rfl rfl ?_
                    refine g_aload_n hX d_Mo_lays_170 rfl ?_
                    refine g_getI hX fl_Mo_98 d_Mo_lays_171 10 ⟨rfl, by decide⟩ rfl rfl (fun r_171 => ?_)
                    rw [mU_cell (by decide), mU_cell (by decide), mU_cell (by decide), h5] at r_171 ⊢
                    refine g_iald hX d_Mo_lays_174 ⟨rfl, by decide⟩ (by omega) (fun r_174 => ?_)
                    try rw [mU_self]
                    refine g_iadd hX d_Mo_lays_175 ?_
                    refine g_istore_n hX d_Mo_lays_176 (by decide) ?_
                    refine g_aload_n hX d_Mo_lays_177 rfl ?_
                    refine g_dup hX d_Mo_lays_178 rfl ?_
                    refine g_getI hX fl_Mo_98 d_Mo_lays_179 10 ⟨rfl, by decide⟩ rfl rfl (fun r_179 => ?_)
                    try rw [mU_cell (by decide), mU_cell (by decide), mU_cell (by decide), h5] at r_179 ⊢
                    refine g_iconst hX d_Mo_lays_182 ?_
                    refine g_iadd hX d_Mo_lays_183 ?_
                    refine g_putI hX fl_Mo_98 d_Mo_lays_184 10 ⟨rfl, by decide⟩ rfl rfl (fun q h => by cases h; rfl) rfl (by omega) ?_
                    refine g_goto 48 hX d_Mo_lays_187 (by decide) ?_
                    first | (exfalso; omega) | refine ih (p + pL n x g w p) (pre ++ [p]) _ _ (by rw [← h1, ly_succ, if_pos (by omega), List.append_assoc]; rfl) (by omega) (by omega) (by simp; omega) (by rw [mU_self]; simp) (fun i b hb => ?_) (fun e q u v => ?_) ⟨fun a u v => by rw [mU_cell (by omega), mU_cell (by omega), mU_cell (by omega), mU_cell (by omega)]; exact hF.1 a u v, fun j u => by rw [mU_slot u, mU_cell (by decide), mU_cell (by decide), mU_cell (by decide)]; exact hF.2 j u⟩
                    all_goals first | (obtain ⟨a1, a2⟩ := h7 e q u v; exact ⟨by rw [mU_cell (by decide), mU_cell (by decide), mU_cell (by decide), mU_cell (by decide)]; exact a1, by rw [mU_cell (by decide), mU_cell (by decide), mU_cell (by decide), mU_cell (by decide)]; exact a2⟩) | (exact lays_rows h6 hb)
                · refine g_aload_n hX d_Mo_lays_137 rfl ?_
                  refine g_getR hX fl_Mo_34 d_Mo_lays_138 ⟨rfl, by decide⟩ rfl rfl ?_
                  refine g_iload_n hX d_Mo_lays_141 rfl ?_
                  refine g_iald hX d_Mo_lays_142 ⟨rfl, by decide⟩ (by omega) (fun r_142 => ?_)
                  refine g_goto 164 hX d_Mo_lays_143 (by decide) ?_
                  first | rw [mU_cell (by decide), mU_cell (by decide), zL2] | rw [vI_eq zL.symm] | skip
                  refine g_iast hX d_Mo_lays_164 ⟨rfl, by decide⟩ (by omega) (by first | omega | assumption) ?_
                  refine g_iload_n hX d_Mo_lays_165 rfl ?_
                  refine g_aload_n hX d_Mo_lays_166 rfl ?_
                  refine g_getR hX fl_Mo_25 d_Mo_lays_167 ⟨rfl, by decide⟩ rfl rfl ?_
                  refine g_aload_n hX d_Mo_lays_170 rfl ?_
                  refine g_getI hX fl_Mo_98 d_Mo_lays_171 10 ⟨rfl, by decide⟩ rfl rfl (fun r_171 => ?_)
                  rw [mU_cell (by decide), mU_cell (by decide), mU_cell (by decide), h5] at r_171 ⊢
                  refine g_iald hX d_Mo_lays_174 ⟨rfl, by decide⟩ (by omega) (fun r_174 => ?_)
                  try rw [mU_self]
                  refine g_iadd hX d_Mo_lays_175 ?_
                  refine g_istore_n hX d_Mo_lays_176 (by decide) ?_
                  refine g_aload_n hX d_Mo_lays_177 rfl ?_
                  refine g_dup hX d_Mo_lays_178 rfl ?_
                  refine g_getI hX fl_Mo_98 d_Mo_lays_179 10 ⟨rfl, by decide⟩ rfl rfl (fun r_179 => ?_)
                  try rw [mU_cell (by decide), mU_cell (by decide), mU_cell (by decide), h5] at r_179 ⊢
                  refine g_iconst hX d_Mo_lays_182 ?_
                  refine g_iadd hX d_Mo_lays_183 ?_
                  refine g_putI hX fl_Mo_98 d_Mo_lays_184 10 ⟨rfl, by decide⟩ rfl rfl (fun q h => by cases h; rfl) rfl (by omega) ?_
                  refine g_goto 48 hX d_Mo_lays_187 (by decide) ?_
                  first | (exfalso; omega) | refine ih (p + pL n x g w p) (pre ++ [p]) _ _ (by rw [← h1, ly_succ, if_pos (by omega), List.append_assoc]; rfl) (by omega) (by omega) (by simp; omega) (by rw [mU_self]; simp) (fun i b hb => ?_) (fun e q u v => ?_) ⟨fun a u v => by rw [mU_cell (by omega), mU_cell (by omega), mU_cell (by omega), mU_cell (by omega)]; exact hF.1 a u v, fun j u => by rw [mU_slot u, mU_cell (by decide), mU_cell (by decide), mU_cell (by decide)]; exact hF.2 j u⟩
                  all_goals first | (obtain ⟨a1, a2⟩ := h7 e q u v; exact ⟨by rw [mU_cell (by decide), mU_cell (by decide), mU_cell (by decide), mU_cell (by decide)]; exact a1, by rw [mU_cell (by decide), mU_cell (by decide), mU_cell (by decide), mU_cell (by decide)]; exact a2⟩) | (exact lays_rows h6 hb)
              · refine g_aload_n hX d_Mo_lays_114 rfl ?_
                refine g_iload_n hX d_Mo_lays_115 rfl ?_
                refine g_callV hX yo_Mo_best q_789 d_Mo_lays_116 (c_Mo_best (hv1.to (mU_cell (by decide))) hg ⟨h3.1, by omega⟩) rfl rfl ⟨rfl, by decide⟩ rfl (by decide) (Nat.le_of_ble_eq_true rfl) ⟨Nat.zero_le _, Nat.zero_le _⟩ (k_int fun r_116 M_116 ir_116 hp_116 => ?_)
                obtain ⟨er_116, eM_116⟩ := hp_116; replace er_116 := er_116.symm; replace eM_116 := eM_116.symm; subst er_116; subst eM_116
                refine g_goto 123 hX d_Mo_lays_119 (by decide) ?_
                first | rw [mU_cell (by decide), zD2] | rw [vI_eq zD.symm] | skip
                refine g_iast hX d_Mo_lays_123 ⟨rfl, by decide⟩ (by omega) (by first | omega | assumption) ?_
                refine g_aload_n hX d_Mo_lays_124 rfl ?_
                refine g_getR hX fl_Mo_25 d_Mo_lays_125 ⟨rfl, by decide⟩ rfl rfl ?_
                refine g_aload_n hX d_Mo_lays_128 rfl ?_
                refine g_getI hX fl_Mo_98 d_Mo_lays_129 10 ⟨rfl, by decide⟩ rfl rfl (fun r_129 => ?_)
                rw [mU_cell (by decide), mU_cell (by decide), h5] at r_129 ⊢
                refine g_iload_n hX d_Mo_lays_132 rfl ?_
                refine g_iconst hX d_Mo_lays_133 ?_
                refine g_icmp_ne 146 hX d_Mo_lays_134 (by decide) (by omega) (by omega) (fun h_134 => ?_) (fun h_134 => ?_)
                · refine g_iload_n hX d_Mo_lays_146 rfl ?_
                  refine g_if_eq 163 hX d_Mo_lays_147 (by decide) (by first | omega | exact ite_iR) (fun h_147 => ?_) (fun h_147 => ?_)
                  · refine g_iconst hX d_Mo_lays_163 ?_
                    first | rw [mU_cell (by decide), mU_cell (by decide), zL2] | rw [vI_eq zL.symm] | skip
                    refine g_iast hX d_Mo_lays_164 ⟨rfl, by decide⟩ (by omega) (by first | omega | assumption) ?_
                    refine g_iload_n hX d_Mo_lays_165 rfl ?_
                    refine g_aload_n hX d_Mo_lays_166 rfl ?_
                    refine g_getR hX fl_Mo_25 d_Mo_lays_167 ⟨rfl, by decide⟩ rfl rfl ?_
                    refine g_aload_n hX d_Mo_lays_170 rfl ?_
                    refine g_getI hX fl_Mo_98 d_Mo_lays_171 10 ⟨rfl, by decide⟩ rfl rfl (fun r_171 => ?_)
                    rw [mU_cell (by decide), mU_cell (by decide), mU_cell (by decide), h5] at r_171 ⊢
                    refine g_iald hX d_Mo_lays_174 ⟨rfl, by decide⟩ (by omega) (fun r_174 => ?_)
                    try rw [mU_self]
                    refine g_iadd hX d_Mo_lays_175 ?_
                    refine g_istore_n hX d_Mo_lays_176 (by decide) ?_
                    refine g_aload_n hX d_Mo_lays_177 rfl ?_
                    refine g_dup hX d_Mo_lays_178 rfl ?_
                    refine g_getI hX fl_Mo_98 d_Mo_lays_179 10 ⟨rfl, by decide⟩ rfl rfl (fun r_179 => ?_)
                    try rw [mU_cell (by decide), mU_cell (by decide), mU_cell (by decide), h5] at r_179 ⊢
                    refine g_iconst hX d_Mo_lays_182 ?_
                    refine g_iadd hX d_Mo_lays_183 ?_
                    refine g_putI hX fl_Mo_98 d_Mo_lays_184 10 ⟨rfl, by decide⟩ rfl rfl (fun q h => by cases h; rfl) rfl (by omega) ?_
                    refine g_goto 48 hX d_Mo_lays_187 (by decide) ?_
                    first | (exfalso; omega) | refine ih (p + pL n x g w p) (pre ++ [p]) _ _ (by rw [← h1, ly_succ, if_pos (by omega), List.append_assoc]; rfl) (by omega) (by omega) (by simp; omega) (by rw [mU_self]; simp) (fun i b hb => ?_) (fun e q u v => ?_) ⟨fun a u v => by rw [mU_cell (by omega), mU_cell (by omega), mU_cell (by omega), mU_cell (by omega)]; exact hF.1 a u v, fun j u => by rw [mU_slot u, mU_cell (by decide), mU_cell (by decide), mU_cell (by decide)]; exact hF.2 j u⟩
                    all_goals first | (obtain ⟨a1, a2⟩ := h7 e q u v; exact ⟨by rw [mU_cell (by decide), mU_cell (by decide), mU_cell (by decide), mU_cell (by decide)]; exact a1, by rw [mU_cell (by decide), mU_cell (by decide), mU_cell (by decide), mU_cell (by decide)]; exact a2⟩) | (exact lays_rows h6 hb)
                  · refine g_aload_n hX d_Mo_lays_150 rfl ?_
                    refine g_iload_n hX d_Mo_lays_151 rfl ?_
                    refine g_aload_n hX d_Mo_lays_152 rfl ?_
                    refine g_iload_n hX d_Mo_lays_153 rfl ?_
                    refine g_callV hX yo_Mo_best q_789 d_Mo_lays_154 (c_Mo_best (hv1.to ((mU_cell (by decide)).trans (mU_cell (by decide)))) hg ⟨h3.1, by omega⟩) rfl rfl ⟨rfl, by decide⟩ rfl (by decide) (Nat.le_of_ble_eq_true rfl) ⟨Nat.zero_le _, Nat.zero_le _⟩ (k_int fun r_154 M_154 ir_154 hp_154 => ?_)
                    obtain ⟨er_154, eM_154⟩ := hp_154; replace er_154 := er_154.symm; replace eM_154 := eM_154.symm; subst er_154; subst eM_154
                    refine g_callV hX yo_Mo_reach q_777 d_Mo_lays_157 (c_Mo_reach (hv1.to ((mU_cell (by decide)).trans (mU_cell (by decide)))) ⟨h3.1, by omega⟩ ⟨by omega, by omega⟩) rfl rfl ⟨rfl, by decide⟩ rfl (by decide) (Nat.le_of_ble_eq_true rfl) ⟨Nat.zero_le _, Nat.zero_le _⟩ (k_int fun r_157 M_157 ir_157 hp_157 => ?_)
                    obtain ⟨er_157, eM_157⟩ := hp_157; replace er_157 := er_157.symm; replace eM_157 := eM_157.symm; subst er_157; subst eM_157
                    refine g_goto 164 hX d_Mo_lays_160 (by decide) ?_
                    first | rw [mU_cell (by decide), mU_cell (by decide), zL2] | rw [vI_eq zL.symm] | skip
                    refine g_iast hX d_Mo_lays_164 ⟨rfl, by decide⟩ (by omega) (by first | omega | assumption) ?_
                    refine g_iload_n hX d_Mo_lays_165 rfl ?_
                    refine g_aload_n hX d_Mo_lays_166 rfl ?_
                    refine g_getR hX fl_Mo_25 d_Mo_lays_167 ⟨rfl, by decide⟩ rfl rfl ?_
                    refine g_aload_n hX d_Mo_lays_170 rfl ?_
                    refine g_getI hX fl_Mo_98 d_Mo_lays_171 10 ⟨rfl, by decide⟩ rfl rfl (fun r_171 => ?_)
                    rw [mU_cell (by decide), mU_cell (by decide), mU_cell (by decide), h5] at r_171 ⊢
                    refine g_iald hX d_Mo_lays_174 ⟨rfl, by decide⟩ (by omega) (fun r_174 => ?_)
                    try rw [mU_self]
                    refine g_iadd hX d_Mo_lays_175 ?_
                    refine g_istore_n hX d_Mo_lays_176 (by decide) ?_
                    refine g_aload_n hX d_Mo_lays_177 rfl ?_
                    refine g_dup hX d_Mo_lays_178 rfl ?_
                    refine g_getI hX fl_Mo_98 d_Mo_lays_179 10 ⟨rfl, by decide⟩ rfl rfl (fun r_179 => ?_)
                    try rw [mU_cell (by decide), mU_cell (by decide), mU_cell (by decide), h5] at r_179 ⊢
                    refine g_iconst hX d_Mo_lays_182 ?_
                    refine g_iadd hX d_Mo_lays_183 ?_
                    refine g_putI hX fl_Mo_98 d_Mo_lays_184 10 ⟨rfl, by decide⟩ rfl rfl (fun q h => by cases h; rfl) rfl (by omega) ?_
                    refine g_goto 48 hX d_Mo_lays_187 (by decide) ?_
                    first | (exfalso; omega) | refine ih (p + pL n x g w p) (pre ++ [p]) _ _ (by rw [← h1, ly_succ, if_pos (by omega), List.append_assoc]; rfl) (by omega) (by omega) (by simp; omega) (by rw [mU_self]; simp) (fun i b hb => ?_) (fun e q u v => ?_) ⟨fun a u v => by rw [mU_cell (by omega), mU_cell (by omega), mU_cell (by omega), mU_cell (by omega)]; exact hF.1 a u v, fun j u => by rw [mU_slot u, mU_cell (by decide), mU_cell (by decide), mU_cell (by decide)]; exact hF.2 j u⟩
                    all_goals first | (obtain ⟨a1, a2⟩ := h7 e q u v; exact ⟨by rw [mU_cell (by decide), mU_cell (by decide), mU_cell (by decide), mU_cell (by decide)]; exact a1, by rw [mU_cell (by decide), mU_cell (by decide), mU_cell (by decide), mU_cell (by decide)]; exact a2⟩) | (exact lays_rows h6 hb)
                · refine g_aload_n hX d_Mo_lays_137 rfl ?_
                  refine g_getR hX fl_Mo_34 d_Mo_lays_138 ⟨rfl, by decide⟩ rfl rfl ?_
                  refine g_iload_n hX d_Mo_lays_141 rfl ?_
                  refine g_iald hX d_Mo_lays_142 ⟨rfl, by decide⟩ (by omega) (fun r_142 => ?_)
                  refine g_goto 164 hX d_Mo_lays_143 (by decide) ?_
                  first | rw [mU_cell (by decide), mU_cell (by decide), zL2] | rw [vI_eq zL.symm] | skip
                  refine g_iast hX d_Mo_lays_164 ⟨rfl, by decide⟩ (by omega) (by first | omega | assumption) ?_
                  refine g_iload_n hX d_Mo_lays_165 rfl ?_
                  refine g_aload_n hX d_Mo_lays_166 rfl ?_
                  refine g_getR hX fl_Mo_25 d_Mo_lays_167 ⟨rfl, by decide⟩ rfl rfl ?_
                  refine g_aload_n hX d_Mo_lays_170 rfl ?_
                  refine g_getI hX fl_Mo_98 d_Mo_lays_171 10 ⟨rfl, by decide⟩ rfl rfl (fun r_171 => ?_)
                  rw [mU_cell (by decide), mU_cell (by decide), mU_cell (by decide), h5] at r_171 ⊢
                  refine g_iald hX d_Mo_lays_174 ⟨rfl, by decide⟩ (by omega) (fun r_174 => ?_)
                  try rw [mU_self]
                  refine g_iadd hX d_Mo_lays_175 ?_
                  refine g_istore_n hX d_Mo_lays_176 (by decide) ?_
                  refine g_aload_n hX d_Mo_lays_177 rfl ?_
                  refine g_dup hX d_Mo_lays_178 rfl ?_
                  refine g_getI hX fl_Mo_98 d_Mo_lays_179 10 ⟨rfl, by decide⟩ rfl rfl (fun r_179 => ?_)
                  try rw [mU_cell (by decide), mU_cell (by decide), mU_cell (by decide), h5] at r_179 ⊢
                  refine g_iconst hX d_Mo_lays_182 ?_
                  refine g_iadd hX d_Mo_lays_183 ?_
                  refine g_putI hX fl_Mo_98 d_Mo_lays_184 10 ⟨rfl, by decide⟩ rfl rfl (fun q h => by cases h; rfl) rfl (by omega) ?_
                  refine g_goto 48 hX d_Mo_lays_187 (by decide) ?_
                  first | (exfalso; omega) | refine ih (p + pL n x g w p) (pre ++ [p]) _ _ (by rw [← h1, ly_succ, if_pos (by omega), List.append_assoc]; rfl) (by omega) (by omega) (by simp; omega) (by rw [mU_self]; simp) (fun i b hb => ?_) (fun e q u v => ?_) ⟨fun a u v => by rw [mU_cell (by omega), mU_cell (by omega), mU_cell (by omega), mU_cell (by omega)]; exact hF.1 a u v, fun j u => by rw [mU_slot u, mU_cell (by decide), mU_cell (by decide), mU_cell (by decide)]; exact hF.2 j u⟩
                  all_goals first | (obtain ⟨a1, a2⟩ := h7 e q u v; exact ⟨by rw [mU_cell (by decide), mU_cell (by decide), mU_cell (by decide), mU_cell (by decide)]; exact a1, by rw [mU_cell (by decide), mU_cell (by decide), mU_cell (by decide), mU_cell (by decide)]; exact a2⟩) | (exact lays_rows h6 hb)
            · refine g_aload_n hX d_Mo_lays_101 rfl ?_
              refine g_getR hX fl_Mo_37 d_Mo_lays_102 ⟨rfl, by decide⟩ rfl rfl ?_
              refine g_iload_n hX d_Mo_lays_105 rfl ?_
              refine g_iald hX d_Mo_lays_106 ⟨rfl, by decide⟩ (by omega) (fun r_106 => ?_)
              refine g_goto 123 hX d_Mo_lays_107 (by decide) ?_
              first | rw [mU_cell (by decide), zD2] | rw [vI_eq zD.symm] | skip
              refine g_iast hX d_Mo_lays_123 ⟨rfl, by decide⟩ (by omega) (by first | omega | assumption) ?_
              refine g_aload_n hX d_Mo_lays_124 rfl ?_
              refine g_getR hX fl_Mo_25 d_Mo_lays_125 ⟨rfl, by decide⟩ rfl rfl ?_
              refine g_aload_n hX d_Mo_lays_128 rfl ?_
              refine g_getI hX fl_Mo_98 d_Mo_lays_129 10 ⟨rfl, by decide⟩ rfl rfl (fun r_129 => ?_)
              rw [mU_cell (by decide), mU_cell (by decide), h5] at r_129 ⊢
              refine g_iload_n hX d_Mo_lays_132 rfl ?_
              refine g_iconst hX d_Mo_lays_133 ?_
              refine g_icmp_ne 146 hX d_Mo_lays_134 (by decide) (by omega) (by omega) (fun h_134 => ?_) (fun h_134 => ?_)
              · refine g_iload_n hX d_Mo_lays_146 rfl ?_
                refine g_if_eq 163 hX d_Mo_lays_147 (by decide) (by first | omega | exact ite_iR) (fun h_147 => ?_) (fun h_147 => ?_)
                · refine g_iconst hX d_Mo_lays_163 ?_
                  first | rw [mU_cell (by decide), mU_cell (by decide), zL2] | rw [vI_eq zL.symm] | skip
                  refine g_iast hX d_Mo_lays_164 ⟨rfl, by decide⟩ (by omega) (by first | omega | assumption) ?_
                  refine g_iload_n hX d_Mo_lays_165 rfl ?_
                  refine g_aload_n hX d_Mo_lays_166 rfl ?_
                  refine g_getR hX fl_Mo_25 d_Mo_lays_167 ⟨rfl, by decide⟩ rfl rfl ?_
                  refine g_aload_n hX d_Mo_lays_170 rfl ?_
                  refine g_getI hX fl_Mo_98 d_Mo_lays_171 10 ⟨rfl, by decide⟩ rfl rfl (fun r_171 => ?_)
                  rw [mU_cell (by decide), mU_cell (by decide), mU_cell (by decide), h5] at r_171 ⊢
                  refine g_iald hX d_Mo_lays_174 ⟨rfl, by decide⟩ (by omega) (fun r_174 => ?_)
                  try rw [mU_self]
                  refine g_iadd hX d_Mo_lays_175 ?_
                  refine g_istore_n hX d_Mo_lays_176 (by decide) ?_
                  refine g_aload_n hX d_Mo_lays_177 rfl ?_
                  refine g_dup hX d_Mo_lays_178 rfl ?_
                  refine g_getI hX fl_Mo_98 d_Mo_lays_179 10 ⟨rfl, by decide⟩ rfl rfl (fun r_179 => ?_)
                  try rw [mU_cell (by decide), mU_cell (by decide), mU_cell (by decide), h5] at r_179 ⊢
                  refine g_iconst hX d_Mo_lays_182 ?_
                  refine g_iadd hX d_Mo_lays_183 ?_
                  refine g_putI hX fl_Mo_98 d_Mo_lays_184 10 ⟨rfl, by decide⟩ rfl rfl (fun q h => by cases h; rfl) rfl (by omega) ?_
                  refine g_goto 48 hX d_Mo_lays_187 (by decide) ?_
                  first | (exfalso; omega) | refine ih (p + pL n x g w p) (pre ++ [p]) _ _ (by rw [← h1, ly_succ, if_pos (by omega), List.append_assoc]; rfl) (by omega) (by omega) (by simp; omega) (by rw [mU_self]; simp) (fun i b hb => ?_) (fun e q u v => ?_) ⟨fun a u v => by rw [mU_cell (by omega), mU_cell (by omega), mU_cell (by omega), mU_cell (by omega)]; exact hF.1 a u v, fun j u => by rw [mU_slot u, mU_cell (by decide), mU_cell (by decide), mU_cell (by decide)]; exact hF.2 j u⟩
                  all_goals first | (obtain ⟨a1, a2⟩ := h7 e q u v; exact ⟨by rw [mU_cell (by decide), mU_cell (by decide), mU_cell (by decide), mU_cell (by decide)]; exact a1, by rw [mU_cell (by decide), mU_cell (by decide), mU_cell (by decide), mU_cell (by decide)]; exact a2⟩) | (exact lays_rows h6 hb)
                · refine g_aload_n hX d_Mo_lays_150 rfl ?_
                  refine g_iload_n hX d_Mo_lays_151 rfl ?_
                  refine g_aload_n hX d_Mo_lays_152 rfl ?_
                  refine g_iload_n hX d_Mo_lays_153 rfl ?_
                  refine g_callV hX yo_Mo_best q_789 d_Mo_lays_154 (c_Mo_best (hv1.to ((mU_cell (by decide)).trans (mU_cell (by decide)))) hg ⟨h3.1, by omega⟩) rfl rfl ⟨rfl, by decide⟩ rfl (by decide) (Nat.le_of_ble_eq_true rfl) ⟨Nat.zero_le _, Nat.zero_le _⟩ (k_int fun r_154 M_154 ir_154 hp_154 => ?_)
                  obtain ⟨er_154, eM_154⟩ := hp_154; replace er_154 := er_154.symm; replace eM_154 := eM_154.symm; subst er_154; subst eM_154
                  refine g_callV hX yo_Mo_reach q_777 d_Mo_lays_157 (c_Mo_reach (hv1.to ((mU_cell (by decide)).trans (mU_cell (by decide)))) ⟨h3.1, by omega⟩ ⟨by omega, by omega⟩) rfl rfl ⟨rfl, by decide⟩ rfl (by decide) (Nat.le_of_ble_eq_true rfl) ⟨Nat.zero_le _, Nat.zero_le _⟩ (k_int fun r_157 M_157 ir_157 hp_157 => ?_)
                  obtain ⟨er_157, eM_157⟩ := hp_157; replace er_157 := er_157.symm; replace eM_157 := eM_157.symm; subst er_157; subst eM_157
                  refine g_goto 164 hX d_Mo_lays_160 (by decide) ?_
                  first | rw [mU_cell (by decide), mU_cell (by decide), zL2] | rw [vI_eq zL.symm] | skip
                  refine g_iast hX d_Mo_lays_164 ⟨rfl, by decide⟩ (by omega) (by first | omega | assumption) ?_
                  refine g_iload_n hX d_Mo_lays_165 rfl ?_
                  refine g_aload_n hX d_Mo_lays_166 rfl ?_
                  refine g_getR hX fl_Mo_25 d_Mo_lays_167 ⟨rfl, by decide⟩ rfl rfl ?_
                  refine g_aload_n hX d_Mo_lays_170 rfl ?_
                  refine g_getI hX fl_Mo_98 d_Mo_lays_171 10 ⟨rfl, by decide⟩ rfl rfl (fun r_171 => ?_)
                  rw [mU_cell (by decide), mU_cell (by decide), mU_cell (by decide), h5] at r_171 ⊢
                  refine g_iald hX d_Mo_lays_174 ⟨rfl, by decide⟩ (by omega) (fun r_174 => ?_)
                  try rw [mU_self]
                  refine g_iadd hX d_Mo_lays_175 ?_
                  refine g_istore_n hX d_Mo_lays_176 (by decide) ?_
                  refine g_aload_n hX d_Mo_lays_177 rfl ?_
                  refine g_dup hX d_Mo_lays_178 rfl ?_
                  refine g_getI hX fl_Mo_98 d_Mo_lays_179 10 ⟨rfl, by decide⟩ rfl rfl (fun r_179 => ?_)
                  try rw [mU_cell (by decide), mU_cell (by decide), mU_cell (by decide), h5] at r_179 ⊢
                  refine g_iconst hX d_Mo_lays_182 ?_
                  refine g_iadd hX d_Mo_lays_183 ?_
                  refine g_putI hX fl_Mo_98 d_Mo_lays_184 10 ⟨rfl, by decide⟩ rfl rfl (fun q h => by cases h; rfl) rfl (by omega) ?_
                  refine g_goto 48 hX d_Mo_lays_187 (by decide) ?_
                  first | (exfalso; omega) | refine ih (p + pL n x g w p) (pre ++ [p]) _ _ (by rw [← h1, ly_succ, if_pos (by omega), List.append_assoc]; rfl) (by omega) (by omega) (by simp; omega) (by rw [mU_self]; simp) (fun i b hb => ?_) (fun e q u v => ?_) ⟨fun a u v => by rw [mU_cell (by omega), mU_cell (by omega), mU_cell (by omega), mU_cell (by omega)]; exact hF.1 a u v, fun j u => by rw [mU_slot u, mU_cell (by decide), mU_cell (by decide), mU_cell (by decide)]; exact hF.2 j u⟩
                  all_goals first | (obtain ⟨a1, a2⟩ := h7 e q u v; exact ⟨by rw [mU_cell (by decide), mU_cell (by decide), mU_cell (by decide), mU_cell (by decide)]; exact a1, by rw [mU_cell (by decide), mU_cell (by decide), mU_cell (by decide), mU_cell (by decide)]; exact a2⟩) | (exact lays_rows h6 hb)
              · refine g_aload_n hX d_Mo_lays_137 rfl ?_
                refine g_getR hX fl_Mo_34 d_Mo_lays_138 ⟨rfl, by decide⟩ rfl rfl ?_
                refine g_iload_n hX d_Mo_lays_141 rfl ?_
                refine g_iald hX d_Mo_lays_142 ⟨rfl, by decide⟩ (by omega) (fun r_142 => ?_)
                refine g_goto 164 hX d_Mo_lays_143 (by decide) ?_
                first | rw [mU_cell (by decide), mU_cell (by decide), zL2] | rw [vI_eq zL.symm] | skip
                refine g_iast hX d_Mo_lays_164 ⟨rfl, by decide⟩ (by omega) (by first | omega | assumption) ?_
                refine g_iload_n hX d_Mo_lays_165 rfl ?_
                refine g_aload_n hX d_Mo_lays_166 rfl ?_
                refine g_getR hX fl_Mo_25 d_Mo_lays_167 ⟨rfl, by decide⟩ rfl rfl ?_
                refine g_aload_n hX d_Mo_lays_170 rfl ?_
                refine g_getI hX fl_Mo_98 d_Mo_lays_171 10 ⟨rfl, by decide⟩ rfl rfl (fun r_171 => ?_)
                rw [mU_cell (by decide), mU_cell (by decide), mU_cell (by decide), h5] at r_171 ⊢
                refine g_iald hX d_Mo_lays_174 ⟨rfl, by decide⟩ (by omega) (fun r_174 => ?_)
                try rw [mU_self]
                refine g_iadd hX d_Mo_lays_175 ?_
                refine g_istore_n hX d_Mo_lays_176 (by decide) ?_
                refine g_aload_n hX d_Mo_lays_177 rfl ?_
                refine g_dup hX d_Mo_lays_178 rfl ?_
                refine g_getI hX fl_Mo_98 d_Mo_lays_179 10 ⟨rfl, by decide⟩ rfl rfl (fun r_179 => ?_)
                try rw [mU_cell (by decide), mU_cell (by decide), mU_cell (by decide), h5] at r_179 ⊢
                refine g_iconst hX d_Mo_lays_182 ?_
                refine g_iadd hX d_Mo_lays_183 ?_
                refine g_putI hX fl_Mo_98 d_Mo_lays_184 10 ⟨rfl, by decide⟩ rfl rfl (fun q h => by cases h; rfl) rfl (by omega) ?_
                refine g_goto 48 hX d_Mo_lays_187 (by decide) ?_
                first | (exfalso; omega) | refine ih (p + pL n x g w p) (pre ++ [p]) _ _ (by rw [← h1, ly_succ, if_pos (by omega), List.append_assoc]; rfl) (by omega) (by omega) (by simp; omega) (by rw [mU_self]; simp) (fun i b hb => ?_) (fun e q u v => ?_) ⟨fun a u v => by rw [mU_cell (by omega), mU_cell (by omega), mU_cell (by omega), mU_cell (by omega)]; exact hF.1 a u v, fun j u => by rw [mU_slot u, mU_cell (by decide), mU_cell (by decide), mU_cell (by decide)]; exact hF.2 j u⟩
                all_goals first | (obtain ⟨a1, a2⟩ := h7 e q u v; exact ⟨by rw [mU_cell (by decide), mU_cell (by decide), mU_cell (by decide), mU_cell (by decide)]; exact a1, by rw [mU_cell (by decide), mU_cell (by decide), mU_cell (by decide), mU_cell (by decide)]; exact a2⟩) | (exact lays_rows h6 hb)
          · have z1 := ite_ne h_69
            obtain ⟨zD, zL⟩ := (pP_take (n := n) (x := x) (g := g) (p := p) (show w = 0 ∨ w = 1 by omega)).1 z1
            refine g_iconst hX d_Mo_lays_72 ?_
            refine g_goto 77 hX d_Mo_lays_73 (by decide) ?_
            refine g_istore_n hX d_Mo_lays_77 (by decide) ?_
            refine g_aload_n hX d_Mo_lays_78 rfl ?_
            refine g_getR hX fl_Mo_22 d_Mo_lays_79 ⟨rfl, by decide⟩ rfl rfl ?_
            refine g_aload_n hX d_Mo_lays_82 rfl ?_
            refine g_getI hX fl_Mo_98 d_Mo_lays_83 10 ⟨rfl, by decide⟩ rfl rfl (fun r_83 => ?_)
            rw [h5] at r_83 ⊢
            refine g_iload_n hX d_Mo_lays_86 rfl ?_
            refine g_iast hX d_Mo_lays_87 ⟨rfl, by decide⟩ (by omega) (by omega) ?_
            refine g_aload_n hX d_Mo_lays_88 rfl ?_
            refine g_getR hX fl_Mo_28 d_Mo_lays_89 ⟨rfl, by decide⟩ rfl rfl ?_
            refine g_aload_n hX d_Mo_lays_92 rfl ?_
            refine g_getI hX fl_Mo_98 d_Mo_lays_93 10 ⟨rfl, by decide⟩ rfl rfl (fun r_93 => ?_)
            rw [mU_cell (by decide), h5] at r_93 ⊢
            refine g_iload_n hX d_Mo_lays_96 rfl ?_
            refine g_iconst hX d_Mo_lays_97 ?_
            refine g_icmp_ne 110 hX d_Mo_lays_98 (by decide) (by omega) (by omega) (fun h_98 => ?_) (fun h_98 => ?_)
            · refine g_iload_n hX d_Mo_lays_110 rfl ?_
              refine g_if_eq 122 hX d_Mo_lays_111 (by decide) (by first | omega | exact ite_iR) (fun h_111 => ?_) (fun h_111 => ?_)
              · refine g_iconst hX d_Mo_lays_122 ?_
                first | rw [mU_cell (by decide), zD2] | rw [vI_eq zD.symm] | skip
                refine g_iast hX d_Mo_lays_123 ⟨rfl, by decide⟩ (by omega) (by first | omega | assumption) ?_
                refine g_aload_n hX d_Mo_lays_124 rfl ?_
                refine g_getR hX fl_Mo_25 d_Mo_lays_125 ⟨rfl, by decide⟩ rfl rfl ?_
                refine g_aload_n hX d_Mo_lays_128 rfl ?_
                refine g_getI hX fl_Mo_98 d_Mo_lays_129 10 ⟨rfl, by decide⟩ rfl rfl (fun r_129 => ?_)
                rw [mU_cell (by decide), mU_cell (by decide), h5] at r_129 ⊢
                refine g_iload_n hX d_Mo_lays_132 rfl ?_
                refine g_iconst hX d_Mo_lays_133 ?_
                refine g_icmp_ne 146 hX d_Mo_lays_134 (by decide) (by omega) (by omega) (fun h_134 => ?_) (fun h_134 => ?_)
                · refine g_iload_n hX d_Mo_lays_146 rfl ?_
                  refine g_if_eq 163 hX d_Mo_lays_147 (by decide) (by first | omega | exact ite_iR) (fun h_147 => ?_) (fun h_147 => ?_)
                  · refine g_iconst hX d_Mo_lays_163 ?_
                    first | rw [mU_cell (by decide), mU_cell (by decide), zL2] | rw [vI_eq zL.symm] | skip
                    refine g_iast hX d_Mo_lays_164 ⟨rfl, by decide⟩ (by omega) (by first | omega | assumption) ?_
                    refine g_iload_n hX d_Mo_lays_165 rfl ?_
                    refine g_aload_n hX d_Mo_lays_166 rfl ?_
                    refine g_getR hX fl_Mo_25 d_Mo_lays_167 ⟨rfl, by decide⟩ rfl rfl ?_
                    refine g_aload_n hX d_Mo_lays_170 rfl ?_
                    refine g_getI hX fl_Mo_98 d_Mo_lays_171 10 ⟨rfl, by decide⟩ rfl rfl (fun r_171 => ?_)
                    rw [mU_cell (by decide), mU_cell (by decide), mU_cell (by decide), h5] at r_171 ⊢
                    refine g_iald hX d_Mo_lays_174 ⟨rfl, by decide⟩ (by omega) (fun r_174 => ?_)
                    try rw [mU_self]
                    refine g_iadd hX d_Mo_lays_175 ?_
                    refine g_istore_n hX d_Mo_lays_176 (by decide) ?_
                    refine g_aload_n hX d_Mo_lays_177 rfl ?_
                    refine g_dup hX d_Mo_lays_178 rfl ?_
                    refine g_getI hX fl_Mo_98 d_Mo_lays_179 10 ⟨rfl, by decide⟩ rfl rfl (fun r_179 => ?_)
                    try rw [mU_cell (by decide), mU_cell (by decide), mU_cell (by decide), h5] at r_179 ⊢
                    refine g_iconst hX d_Mo_lays_182 ?_
                    refine g_iadd hX d_Mo_lays_183 ?_
                    refine g_putI hX fl_Mo_98 d_Mo_lays_184 10 ⟨rfl, by decide⟩ rfl rfl (fun q h => by cases h; rfl) rfl (by omega) ?_
                    refine g_goto 48 hX d_Mo_lays_187 (by decide) ?_
                    first | (exfalso; omega) | refine ih (p + pL n x g w p) (pre ++ [p]) _ _ (by rw [← h1, ly_succ, if_pos (by omega), List.append_assoc]; rfl) (by omega) (by omega) (by simp; omega) (by rw [mU_self]; simp) (fun i b hb => ?_) (fun e q u v => ?_) ⟨fun a u v => by rw [mU_cell (by omega), mU_cell (by omega), mU_cell (by omega), mU_cell (by omega)]; exact hF.1 a u v, fun j u => by rw [mU_slot u, mU_cell (by decide), mU_cell (by decide), mU_cell (by decide)]; exact hF.2 j u⟩
                    all_goals first | (obtain ⟨a1, a2⟩ := h7 e q u v; exact ⟨by rw [mU_cell (by decide), mU_cell (by decide), mU_cell (by decide), mU_cell (by decide)]; exact a1, by rw [mU_cell (by decide), mU_cell (by decide), mU_cell (by decide), mU_cell (by decide)]; exact a2⟩) | (exact lays_rows h6 hb)
                  · refine g_aload_n hX d_Mo_lays_150 rfl ?_
                    refine g_iload_n hX d_Mo_lays_151 rfl ?_
                    refine g_aload_n hX d_Mo_lays_152 rfl ?_
                    refine g_iload_n hX d_Mo_lays_153 rfl ?_
                    refine g_callV hX yo_Mo_best q_789 d_Mo_lays_154 (c_Mo_best (hv1.to ((mU_cell (by decide)).trans (mU_cell (by decide)))) hg ⟨h3.1, by omega⟩) rfl rfl ⟨rfl, by decide⟩ rfl (by decide) (Nat.le_of_ble_eq_true rfl) ⟨Nat.zero_le _, Nat.zero_le _⟩ (k_int fun r_154 M_154 ir_154 hp_154 => ?_)
                    obtain ⟨er_154, eM_154⟩ := hp_154; replace er_154 := er_154.symm; replace eM_154 := eM_154.symm; subst er_154; subst eM_154
                    refine g_callV hX yo_Mo_reach q_777 d_Mo_lays_157 (c_Mo_reach (hv1.to ((mU_cell (by decide)).trans (mU_cell (by decide)))) ⟨h3.1, by omega⟩ ⟨by omega, by omega⟩) rfl rfl ⟨rfl, by decide⟩ rfl (by decide) (Nat.le_of_ble_eq_true rfl) ⟨Nat.zero_le _, Nat.zero_le _⟩ (k_int fun r_157 M_157 ir_157 hp_157 => ?_)
                    obtain ⟨er_157, eM_157⟩ := hp_157; replace er_157 := er_157.symm; replace eM_157 := eM_157.symm; subst er_157; subst eM_157
                    refine g_goto 164 hX d_Mo_lays_160 (by decide) ?_
                    first | rw [mU_cell (by decide), mU_cell (by decide), zL2] | rw [vI_eq zL.symm] | skip
                    refine g_iast hX d_Mo_lays_164 ⟨rfl, by decide⟩ (by omega) (by first | omega | assumption) ?_
                    refine g_iload_n hX d_Mo_lays_165 rfl ?_
                    refine g_aload_n hX d_Mo_lays_166 rfl ?_
                    refine g_getR hX fl_Mo_25 d_Mo_lays_167 ⟨rfl, by decide⟩ rfl rfl ?_
                    refine g_aload_n hX d_Mo_lays_170 rfl ?_
                    refine g_getI hX fl_Mo_98 d_Mo_lays_171 10 ⟨rfl, by decide⟩ rfl rfl (fun r_171 => ?_)
                    rw [mU_cell (by decide), mU_cell (by decide), mU_cell (by decide), h5] at r_171 ⊢
                    refine g_iald hX d_Mo_lays_174 ⟨rfl, by decide⟩ (by omega) (fun r_174 => ?_)
                    try rw [mU_self]
                    refine g_iadd hX d_Mo_lays_175 ?_
                    refine g_istore_n hX d_Mo_lays_176 (by decide) ?_
                    refine g_aload_n hX d_Mo_lays_177 rfl ?_
                    refine g_dup hX d_Mo_lays_178 rfl ?_
                    refine g_getI hX fl_Mo_98 d_Mo_lays_179 10 ⟨rfl, by decide⟩ rfl rfl (fun r_179 => ?_)
                    try rw [mU_cell (by decide), mU_cell (by decide), mU_cell (by decide), h5] at r_179 ⊢
                    refine g_iconst hX d_Mo_lays_182 ?_
                    refine g_iadd hX d_Mo_lays_183 ?_
                    refine g_putI hX fl_Mo_98 d_Mo_lays_184 10 ⟨rfl, by decide⟩ rfl rfl (fun q h => by cases h; rfl) rfl (by omega) ?_
                    refine g_goto 48 hX d_Mo_lays_187 (by decide) ?_
                    first | (exfalso; omega) | refine ih (p + pL n x g w p) (pre ++ [p]) _ _ (by rw [← h1, ly_succ, if_pos (by omega), List.append_assoc]; rfl) (by omega) (by omega) (by simp; omega) (by rw [mU_self]; simp) (fun i b hb => ?_) (fun e q u v => ?_) ⟨fun a u v => by rw [mU_cell (by omega), mU_cell (by omega), mU_cell (by omega), mU_cell (by omega)]; exact hF.1 a u v, fun j u => by rw [mU_slot u, mU_cell (by decide), mU_cell (by decide), mU_cell (by decide)]; exact hF.2 j u⟩
                    all_goals first | (obtain ⟨a1, a2⟩ := h7 e q u v; exact ⟨by rw [mU_cell (by decide), mU_cell (by decide), mU_cell (by decide), mU_cell (by decide)]; exact a1, by rw [mU_cell (by decide), mU_cell (by decide), mU_cell (by decide), mU_cell (by decide)]; exact a2⟩) | (exact lays_rows h6 hb)
                · refine g_aload_n hX d_Mo_lays_137 rfl ?_
                  refine g_getR hX fl_Mo_34 d_Mo_lays_138 ⟨rfl, by decide⟩ rfl rfl ?_
                  refine g_iload_n hX d_Mo_lays_141 rfl ?_
                  refine g_iald hX d_Mo_lays_142 ⟨rfl, by decide⟩ (by omega) (fun r_142 => ?_)
                  refine g_goto 164 hX d_Mo_lays_143 (by decide) ?_
                  first | rw [mU_cell (by decide), mU_cell (by decide), zL2] | rw [vI_eq zL.symm] | skip
                  refine g_iast hX d_Mo_lays_164 ⟨rfl, by decide⟩ (by omega) (by first | omega | assumption) ?_
                  refine g_iload_n hX d_Mo_lays_165 rfl ?_
                  refine g_aload_n hX d_Mo_lays_166 rfl ?_
                  refine g_getR hX fl_Mo_25 d_Mo_lays_167 ⟨rfl, by decide⟩ rfl rfl ?_
                  refine g_aload_n hX d_Mo_lays_170 rfl ?_
                  refine g_getI hX fl_Mo_98 d_Mo_lays_171 10 ⟨rfl, by decide⟩ rfl rfl (fun r_171 => ?_)
                  rw [mU_cell (by decide), mU_cell (by decide), mU_cell (by decide), h5] at r_171 ⊢
                  refine g_iald hX d_Mo_lays_174 ⟨rfl, by decide⟩ (by omega) (fun r_174 => ?_)
                  try rw [mU_self]
                  refine g_iadd hX d_Mo_lays_175 ?_
                  refine g_istore_n hX d_Mo_lays_176 (by decide) ?_
                  refine g_aload_n hX d_Mo_lays_177 rfl ?_
                  refine g_dup hX d_Mo_lays_178 rfl ?_
                  refine g_getI hX fl_Mo_98 d_Mo_lays_179 10 ⟨rfl, by decide⟩ rfl rfl (fun r_179 => ?_)
                  try rw [mU_cell (by decide), mU_cell (by decide), mU_cell (by decide), h5] at r_179 ⊢
                  refine g_iconst hX d_Mo_lays_182 ?_
                  refine g_iadd hX d_Mo_lays_183 ?_
                  refine g_putI hX fl_Mo_98 d_Mo_lays_184 10 ⟨rfl, by decide⟩ rfl rfl (fun q h => by cases h; rfl) rfl (by omega) ?_
                  refine g_goto 48 hX d_Mo_lays_187 (by decide) ?_
                  first | (exfalso; omega) | refine ih (p + pL n x g w p) (pre ++ [p]) _ _ (by rw [← h1, ly_succ, if_pos (by omega), List.append_assoc]; rfl) (by omega) (by omega) (by simp; omega) (by rw [mU_self]; simp) (fun i b hb => ?_) (fun e q u v => ?_) ⟨fun a u v => by rw [mU_cell (by omega), mU_cell (by omega), mU_cell (by omega), mU_cell (by omega)]; exact hF.1 a u v, fun j u => by rw [mU_slot u, mU_cell (by decide), mU_cell (by decide), mU_cell (by decide)]; exact hF.2 j u⟩
                  all_goals first | (obtain ⟨a1, a2⟩ := h7 e q u v; exact ⟨by rw [mU_cell (by decide), mU_cell (by decide), mU_cell (by decide), mU_cell (by decide)]; exact a1, by rw [mU_cell (by decide), mU_cell (by decide), mU_cell (by decide), mU_cell (by decide)]; exact a2⟩) | (exact lays_rows h6 hb)
              · refine g_aload_n hX d_Mo_lays_114 rfl ?_
                refine g_iload_n hX d_Mo_lays_115 rfl ?_
                refine g_callV hX yo_Mo_best q_789 d_Mo_lays_116 (c_Mo_best (hv1.to (mU_cell (by decide))) hg ⟨h3.1, by omega⟩) rfl rfl ⟨rfl, by decide⟩ rfl (by decide) (Nat.le_of_ble_eq_true rfl) ⟨Nat.zero_le _, Nat.zero_le _⟩ (k_int fun r_116 M_116 ir_116 hp_116 => ?_)
                obtain ⟨er_116, eM_116⟩ := hp_116; replace er_116 := er_116.symm; replace eM_116 := eM_116.symm; subst er_116; subst eM_116
                refine g_goto 123 hX d_Mo_lays_119 (by decide) ?_
                first | rw [mU_cell (by decide), zD2] | rw [vI_eq zD.symm] | skip
                refine g_iast hX d_Mo_lays_123 ⟨rfl, by decide⟩ (by omega) (by first | omega | assumption) ?_
                refine g_aload_n hX d_Mo_lays_124 rfl ?_
                refine g_getR hX fl_Mo_25 d_Mo_lays_125 ⟨rfl, by decide⟩ rfl rfl ?_
                refine g_aload_n hX d_Mo_lays_128 rfl ?_
                refine g_getI hX fl_Mo_98 d_Mo_lays_129 10 ⟨rfl, by decide⟩ rfl rfl (fun r_129 => ?_)
                rw [mU_cell (by decide), mU_cell (by decide), h5] at r_129 ⊢
                refine g_iload_n hX d_Mo_lays_132 rfl ?_
                refine g_iconst hX d_Mo_lays_133 ?_
                refine g_icmp_ne 146 hX d_Mo_lays_134 (by decide) (by omega) (by omega) (fun h_134 => ?_) (fun h_134 => ?_)
                · refine g_iload_n hX d_Mo_lays_146 rfl ?_
                  refine g_if_eq 163 hX d_Mo_lays_147 (by decide) (by first | omega | exact ite_iR) (fun h_147 => ?_) (fun h_147 => ?_)
                  · refine g_iconst hX d_Mo_lays_163 ?_
                    first | rw [mU_cell (by decide), mU_cell (by decide), zL2] | rw [vI_eq zL.symm] | skip
                    refine g_iast hX d_Mo_lays_164 ⟨rfl, by decide⟩ (by omega) (by first | omega | assumption) ?_
                    refine g_iload_n hX d_Mo_lays_165 rfl ?_
                    refine g_aload_n hX d_Mo_lays_166 rfl ?_
                    refine g_getR hX fl_Mo_25 d_Mo_lays_167 ⟨rfl, by decide⟩ rfl rfl ?_
                    refine g_aload_n hX d_Mo_lays_170 rfl ?_
                    refine g_getI hX fl_Mo_98 d_Mo_lays_171 10 ⟨rfl, by decide⟩ rfl rfl (fun r_171 => ?_)
                    rw [mU_cell (by decide), mU_cell (by decide), mU_cell (by decide), h5] at r_171 ⊢
                    refine g_iald hX d_Mo_lays_174 ⟨rfl, by decide⟩ (by omega) (fun r_174 => ?_)
                    try rw [mU_self]
                    refine g_iadd hX d_Mo_lays_175 ?_
                    refine g_istore_n hX d_Mo_lays_176 (by decide) ?_
                    refine g_aload_n hX d_Mo_lays_177 rfl ?_
                    refine g_dup hX d_Mo_lays_178 rfl ?_
                    refine g_getI hX fl_Mo_98 d_Mo_lays_179 10 ⟨rfl, by decide⟩ rfl rfl (fun r_179 => ?_)
                    try rw [mU_cell (by decide), mU_cell (by decide), mU_cell (by decide), h5] at r_179 ⊢
                    refine g_iconst hX d_Mo_lays_182 ?_
                    refine g_iadd hX d_Mo_lays_183 ?_
                    refine g_putI hX fl_Mo_98 d_Mo_lays_184 10 ⟨rfl, by decide⟩ rfl rfl (fun q h => by cases h; rfl) rfl (by omega) ?_
                    refine g_goto 48 hX d_Mo_lays_187 (by decide) ?_
                    first | (exfalso; omega) | refine ih (p + pL n x g w p) (pre ++ [p]) _ _ (by rw [← h1, ly_succ, if_pos (by omega), List.append_assoc]; rfl) (by omega) (by omega) (by simp; omega) (by rw [mU_self]; simp) (fun i b hb => ?_) (fun e q u v => ?_) ⟨fun a u v => by rw [mU_cell (by omega), mU_cell (by omega), mU_cell (by omega), mU_cell (by omega)]; exact hF.1 a u v, fun j u => by rw [mU_slot u, mU_cell (by decide), mU_cell (by decide), mU_cell (by decide)]; exact hF.2 j u⟩
                    all_goals first | (obtain ⟨a1, a2⟩ := h7 e q u v; exact ⟨by rw [mU_cell (by decide), mU_cell (by decide), mU_cell (by decide), mU_cell (by decide)]; exact a1, by rw [mU_cell (by decide), mU_cell (by decide), mU_cell (by decide), mU_cell (by decide)]; exact a2⟩) | (exact lays_rows h6 hb)
                  · refine g_aload_n hX d_Mo_lays_150 rfl ?_
                    refine g_iload_n hX d_Mo_lays_151 rfl ?_
                    refine g_aload_n hX d_Mo_lays_152 rfl ?_
                    refine g_iload_n hX d_Mo_lays_153 rfl ?_
                    refine g_callV hX yo_Mo_best q_789 d_Mo_lays_154 (c_Mo_best (hv1.to ((mU_cell (by decide)).trans (mU_cell (by decide)))) hg ⟨h3.1, by omega⟩) rfl rfl ⟨rfl, by decide⟩ rfl (by decide) (Nat.le_of_ble_eq_true rfl) ⟨Nat.zero_le _, Nat.zero_le _⟩ (k_int fun r_154 M_154 ir_154 hp_154 => ?_)
                    obtain ⟨er_154, eM_154⟩ := hp_154; replace er_154 := er_154.symm; replace eM_154 := eM_154.symm; subst er_154; subst eM_154
                    refine g_callV hX yo_Mo_reach q_777 d_Mo_lays_157 (c_Mo_reach (hv1.to ((mU_cell (by decide)).trans (mU_cell (by decide)))) ⟨h3.1, by omega⟩ ⟨by omega, by omega⟩) rfl rfl ⟨rfl, by decide⟩ rfl (by decide) (Nat.le_of_ble_eq_true rfl) ⟨Nat.zero_le _, Nat.zero_le _⟩ (k_int fun r_157 M_157 ir_157 hp_157 => ?_)
                    obtain ⟨er_157, eM_157⟩ := hp_157; replace er_157 := er_157.symm; replace eM_157 := eM_157.symm; subst er_157; subst eM_157
                    refine g_goto 164 hX d_Mo_lays_160 (by decide) ?_
                    first | rw [mU_cell (by decide), mU_cell (by decide), zL2] | rw [vI_eq zL.symm] | skip
                    refine g_iast hX d_Mo_lays_164 ⟨rfl, by decide⟩ (by omega) (by first | omega | assumption) ?_
                    refine g_iload_n hX d_Mo_lays_165 rfl ?_
                    refine g_aload_n hX d_Mo_lays_166 rfl ?_
                    refine g_getR hX fl_Mo_25 d_Mo_lays_167 ⟨rfl, by decide⟩ rfl rfl ?_
                    refine g_aload_n hX d_Mo_lays_170 rfl ?_
                    refine g_getI hX fl_Mo_98 d_Mo_lays_171 10 ⟨rfl, by decide⟩ rfl rfl (fun r_171 => ?_)
                    rw [mU_cell (by decide), mU_cell (by decide), mU_cell (by decide), h5] at r_171 ⊢
                    refine g_iald hX d_Mo_lays_174 ⟨rfl, by decide⟩ (by omega) (fun r_174 => ?_)
                    try rw [mU_self]
                    refine g_iadd hX d_Mo_lays_175 ?_
                    refine g_istore_n hX d_Mo_lays_176 (by decide) ?_
                    refine g_aload_n hX d_Mo_lays_177 rfl ?_
                    refine g_dup hX d_Mo_lays_178 rfl ?_
                    refine g_getI hX fl_Mo_98 d_Mo_lays_179 10 ⟨rfl, by decide⟩ rfl rfl (fun r_179 => ?_)
                    try rw [mU_cell (by decide), mU_cell (by decide), mU_cell (by decide), h5] at r_179 ⊢
                    refine g_iconst hX d_Mo_lays_182 ?_
                    refine g_iadd hX d_Mo_lays_183 ?_
                    refine g_putI hX fl_Mo_98 d_Mo_lays_184 10 ⟨rfl, by decide⟩ rfl rfl (fun q h => by cases h; rfl) rfl (by omega) ?_
                    refine g_goto 48 hX d_Mo_lays_187 (by decide) ?_
                    first | (exfalso; omega) | refine ih (p + pL n x g w p) (pre ++ [p]) _ _ (by rw [← h1, ly_succ, if_pos (by omega), List.append_assoc]; rfl) (by omega) (by omega) (by simp; omega) (by rw [mU_self]; simp) (fun i b hb => ?_) (fun e q u v => ?_) ⟨fun a u v => by rw [mU_cell (by omega), mU_cell (by omega), mU_cell (by omega), mU_cell (by omega)]; exact hF.1 a u v, fun j u => by rw [mU_slot u, mU_cell (by decide), mU_cell (by decide), mU_cell (by decide)]; exact hF.2 j u⟩
                    all_goals first | (obtain ⟨a1, a2⟩ := h7 e q u v; exact ⟨by rw [mU_cell (by decide), mU_cell (by decide), mU_cell (by decide), mU_cell (by decide)]; exact a1, by rw [mU_cell (by decide), mU_cell (by decide), mU_cell (by decide), mU_cell (by decide)]; exact a2⟩) | (exact lays_rows h6 hb)
                · refine g_aload_n hX d_Mo_lays_137 rfl ?_
                  refine g_getR hX fl_Mo_34 d_Mo_lays_138 ⟨rfl, by decide⟩ rfl rfl ?_
                  refine g_iload_n hX d_Mo_lays_141 rfl ?_
                  refine g_iald hX d_Mo_lays_142 ⟨rfl, by decide⟩ (by omega) (fun r_142 => ?_)
                  refine g_goto 164 hX d_Mo_lays_143 (by decide) ?_
                  first | rw [mU_cell (by decide), mU_cell (by decide), zL2] | rw [vI_eq zL.symm] | skip
                  refine g_iast hX d_Mo_lays_164 ⟨rfl, by decide⟩ (by omega) (by first | omega | assumption) ?_
                  refine g_iload_n hX d_Mo_lays_165 rfl ?_
                  refine g_aload_n hX d_Mo_lays_166 rfl ?_
                  refine g_getR hX fl_Mo_25 d_Mo_lays_167 ⟨rfl, by decide⟩ rfl rfl ?_
                  refine g_aload_n hX d_Mo_lays_170 rfl ?_
                  refine g_getI hX fl_Mo_98 d_Mo_lays_171 10 ⟨rfl, by decide⟩ rfl rfl (fun r_171 => ?_)
                  rw [mU_cell (by decide), mU_cell (by decide), mU_cell (by decide), h5] at r_171 ⊢
                  refine g_iald hX d_Mo_lays_174 ⟨rfl, by decide⟩ (by omega) (fun r_174 => ?_)
                  try rw [mU_self]
                  refine g_iadd hX d_Mo_lays_175 ?_
                  refine g_istore_n hX d_Mo_lays_176 (by decide) ?_
                  refine g_aload_n hX d_Mo_lays_177 rfl ?_
                  refine g_dup hX d_Mo_lays_178 rfl ?_
                  refine g_getI hX fl_Mo_98 d_Mo_lays_179 10 ⟨rfl, by decide⟩ rfl rfl (fun r_179 => ?_)
                  try rw [mU_cell (by decide), mU_cell (by decide), mU_cell (by decide), h5] at r_179 ⊢
                  refine g_iconst hX d_Mo_lays_182 ?_
                  refine g_iadd hX d_Mo_lays_183 ?_
                  refine g_putI hX fl_Mo_98 d_Mo_lays_184 10 ⟨rfl, by decide⟩ rfl rfl (fun q h => by cases h; rfl) rfl (by omega) ?_
                  refine g_goto 48 hX d_Mo_lays_187 (by decide) ?_
                  first | (exfalso; omega) | refine ih (p + pL n x g w p) (pre ++ [p]) _ _ (by rw [← h1, ly_succ, if_pos (by omega), List.append_assoc]; rfl) (by omega) (by omega) (by simp; omega) (by rw [mU_self]; simp) (fun i b hb => ?_) (fun e q u v => ?_) ⟨fun a u v => by rw [mU_cell (by omega), mU_cell (by omega), mU_cell (by omega), mU_cell (by omega)]; exact hF.1 a u v, fun j u => by rw [mU_slot u, mU_cell (by decide), mU_cell (by decide), mU_cell (by decide)]; exact hF.2 j u⟩
                  all_goals first | (obtain ⟨a1, a2⟩ := h7 e q u v; exact ⟨by rw [mU_cell (by decide), mU_cell (by decide), mU_cell (by decide), mU_cell (by decide)]; exact a1, by rw [mU_cell (by decide), mU_cell (by decide), mU_cell (by decide), mU_cell (by decide)]; exact a2⟩) | (exact lays_rows h6 hb)
            · refine g_aload_n hX d_Mo_lays_101 rfl ?_
              refine g_getR hX fl_Mo_37 d_Mo_lays_102 ⟨rfl, by decide⟩ rfl rfl ?_
              refine g_iload_n hX d_Mo_lays_105 rfl ?_
              refine g_iald hX d_Mo_lays_106 ⟨rfl, by decide⟩ (by omega) (fun r_106 => ?_)
              refine g_goto 123 hX d_Mo_lays_107 (by decide) ?_
              first | rw [mU_cell (by decide), zD2] | rw [vI_eq zD.symm] | skip
              refine g_iast hX d_Mo_lays_123 ⟨rfl, by decide⟩ (by omega) (by first | omega | assumption) ?_
              refine g_aload_n hX d_Mo_lays_124 rfl ?_
              refine g_getR hX fl_Mo_25 d_Mo_lays_125 ⟨rfl, by decide⟩ rfl rfl ?_
              refine g_aload_n hX d_Mo_lays_128 rfl ?_
              refine g_getI hX fl_Mo_98 d_Mo_lays_129 10 ⟨rfl, by decide⟩ rfl rfl (fun r_129 => ?_)
              rw [mU_cell (by decide), mU_cell (by decide), h5] at r_129 ⊢
              refine g_iload_n hX d_Mo_lays_132 rfl ?_
              refine g_iconst hX d_Mo_lays_133 ?_
              refine g_icmp_ne 146 hX d_Mo_lays_134 (by decide) (by omega) (by omega) (fun h_134 => ?_) (fun h_134 => ?_)
              · refine g_iload_n hX d_Mo_lays_146 rfl ?_
                refine g_if_eq 163 hX d_Mo_lays_147 (by decide) (by first | omega | exact ite_iR) (fun h_147 => ?_) (fun h_147 => ?_)
                · refine g_iconst hX d_Mo_lays_163 ?_
                  first | rw [mU_cell (by decide), mU_cell (by decide), zL2] | rw [vI_eq zL.symm] | skip
                  refine g_iast hX d_Mo_lays_164 ⟨rfl, by decide⟩ (by omega) (by first | omega | assumption) ?_
                  refine g_iload_n hX d_Mo_lays_165 rfl ?_
                  refine g_aload_n hX d_Mo_lays_166 rfl ?_
                  refine g_getR hX fl_Mo_25 d_Mo_lays_167 ⟨rfl, by decide⟩ rfl rfl ?_
                  refine g_aload_n hX d_Mo_lays_170 rfl ?_
                  refine g_getI hX fl_Mo_98 d_Mo_lays_171 10 ⟨rfl, by decide⟩ rfl rfl (fun r_171 => ?_)
                  rw [mU_cell (by decide), mU_cell (by decide), mU_cell (by decide), h5] at r_171 ⊢
                  refine g_iald hX d_Mo_lays_174 ⟨rfl, by decide⟩ (by omega) (fun r_174 => ?_)
                  try rw [mU_self]
                  refine g_iadd hX d_Mo_lays_175 ?_
                  refine g_istore_n hX d_Mo_lays_176 (by decide) ?_
                  refine g_aload_n hX d_Mo_lays_177 rfl ?_
                  refine g_dup hX d_Mo_lays_178 rfl ?_
                  refine g_getI hX fl_Mo_98 d_Mo_lays_179 10 ⟨rfl, by decide⟩ rfl rfl (fun r_179 => ?_)
                  try rw [mU_cell (by decide), mU_cell (by decide), mU_cell (by decide), h5] at r_179 ⊢
                  refine g_iconst hX d_Mo_lays_182 ?_
                  refine g_iadd hX d_Mo_lays_183 ?_
                  refine g_putI hX fl_Mo_98 d_Mo_lays_184 10 ⟨rfl, by decide⟩ rfl rfl (fun q h => by cases h; rfl) rfl (by omega) ?_
                  refine g_goto 48 hX d_Mo_lays_187 (by decide) ?_
                  first | (exfalso; omega) | refine ih (p + pL n x g w p) (pre ++ [p]) _ _ (by rw [← h1, ly_succ, if_pos (by omega), List.append_assoc]; rfl) (by omega) (by omega) (by simp; omega) (by rw [mU_self]; simp) (fun i b hb => ?_) (fun e q u v => ?_) ⟨fun a u v => by rw [mU_cell (by omega), mU_cell (by omega), mU_cell (by omega), mU_cell (by omega)]; exact hF.1 a u v, fun j u => by rw [mU_slot u, mU_cell (by decide), mU_cell (by decide), mU_cell (by decide)]; exact hF.2 j u⟩
                  all_goals first | (obtain ⟨a1, a2⟩ := h7 e q u v; exact ⟨by rw [mU_cell (by decide), mU_cell (by decide), mU_cell (by decide), mU_cell (by decide)]; exact a1, by rw [mU_cell (by decide), mU_cell (by decide), mU_cell (by decide), mU_cell (by decide)]; exact a2⟩) | (exact lays_rows h6 hb)
                · refine g_aload_n hX d_Mo_lays_150 rfl ?_
                  refine g_iload_n hX d_Mo_lays_151 rfl ?_
                  refine g_aload_n hX d_Mo_lays_152 rfl ?_
                  refine g_iload_n hX d_Mo_lays_153 rfl ?_
                  refine g_callV hX yo_Mo_best q_789 d_Mo_lays_154 (c_Mo_best (hv1.to ((mU_cell (by decide)).trans (mU_cell (by decide)))) hg ⟨h3.1, by omega⟩) rfl rfl ⟨rfl, by decide⟩ rfl (by decide) (Nat.le_of_ble_eq_true rfl) ⟨Nat.zero_le _, Nat.zero_le _⟩ (k_int fun r_154 M_154 ir_154 hp_154 => ?_)
                  obtain ⟨er_154, eM_154⟩ := hp_154; replace er_154 := er_154.symm; replace eM_154 := eM_154.symm; subst er_154; subst eM_154
                  refine g_callV hX yo_Mo_reach q_777 d_Mo_lays_157 (c_Mo_reach (hv1.to ((mU_cell (by decide)).trans (mU_cell (by decide)))) ⟨h3.1, by omega⟩ ⟨by omega, by omega⟩) rfl rfl ⟨rfl, by decide⟩ rfl (by decide) (Nat.le_of_ble_eq_true rfl) ⟨Nat.zero_le _, Nat.zero_le _⟩ (k_int fun r_157 M_157 ir_157 hp_157 => ?_)
                  obtain ⟨er_157, eM_157⟩ := hp_157; replace er_157 := er_157.symm; replace eM_157 := eM_157.symm; subst er_157; subst eM_157
                  refine g_goto 164 hX d_Mo_lays_160 (by decide) ?_
                  first | rw [mU_cell (by decide), mU_cell (by decide), zL2] | rw [vI_eq zL.symm] | skip
                  refine g_iast hX d_Mo_lays_164 ⟨rfl, by decide⟩ (by omega) (by first | omega | assumption) ?_
                  refine g_iload_n hX d_Mo_lays_165 rfl ?_
                  refine g_aload_n hX d_Mo_lays_166 rfl ?_
                  refine g_getR hX fl_Mo_25 d_Mo_lays_167 ⟨rfl, by decide⟩ rfl rfl ?_
                  refine g_aload_n hX d_Mo_lays_170 rfl ?_
                  refine g_getI hX fl_Mo_98 d_Mo_lays_171 10 ⟨rfl, by decide⟩ rfl rfl (fun r_171 => ?_)
                  rw [mU_cell (by decide), mU_cell (by decide), mU_cell (by decide), h5] at r_171 ⊢
                  refine g_iald hX d_Mo_lays_174 ⟨rfl, by decide⟩ (by omega) (fun r_174 => ?_)
                  try rw [mU_self]
                  refine g_iadd hX d_Mo_lays_175 ?_
                  refine g_istore_n hX d_Mo_lays_176 (by decide) ?_
                  refine g_aload_n hX d_Mo_lays_177 rfl ?_
                  refine g_dup hX d_Mo_lays_178 rfl ?_
                  refine g_getI hX fl_Mo_98 d_Mo_lays_179 10 ⟨rfl, by decide⟩ rfl rfl (fun r_179 => ?_)
                  try rw [mU_cell (by decide), mU_cell (by decide), mU_cell (by decide), h5] at r_179 ⊢
                  refine g_iconst hX d_Mo_lays_182 ?_
                  refine g_iadd hX d_Mo_lays_183 ?_
                  refine g_putI hX fl_Mo_98 d_Mo_lays_184 10 ⟨rfl, by decide⟩ rfl rfl (fun q h => by cases h; rfl) rfl (by omega) ?_
                  refine g_goto 48 hX d_Mo_lays_187 (by decide) ?_
                  first | (exfalso; omega) | refine ih (p + pL n x g w p) (pre ++ [p]) _ _ (by rw [← h1, ly_succ, if_pos (by omega), List.append_assoc]; rfl) (by omega) (by omega) (by simp; omega) (by rw [mU_self]; simp) (fun i b hb => ?_) (fun e q u v => ?_) ⟨fun a u v => by rw [mU_cell (by omega), mU_cell (by omega), mU_cell (by omega), mU_cell (by omega)]; exact hF.1 a u v, fun j u => by rw [mU_slot u, mU_cell (by decide), mU_cell (by decide), mU_cell (by decide)]; exact hF.2 j u⟩
                  all_goals first | (obtain ⟨a1, a2⟩ := h7 e q u v; exact ⟨by rw [mU_cell (by decide), mU_cell (by decide), mU_cell (by decide), mU_cell (by decide)]; exact a1, by rw [mU_cell (by decide), mU_cell (by decide), mU_cell (by decide), mU_cell (by decide)]; exact a2⟩) | (exact lays_rows h6 hb)
              · refine g_aload_n hX d_Mo_lays_137 rfl ?_
                refine g_getR hX fl_Mo_34 d_Mo_lays_138 ⟨rfl, by decide⟩ rfl rfl ?_
                refine g_iload_n hX d_Mo_lays_141 rfl ?_
                refine g_iald hX d_Mo_lays_142 ⟨rfl, by decide⟩ (by omega) (fun r_142 => ?_)
                refine g_goto 164 hX d_Mo_lays_143 (by decide) ?_
                first | rw [mU_cell (by decide), mU_cell (by decide), zL2] | rw [vI_eq zL.symm] | skip
                refine g_iast hX d_Mo_lays_164 ⟨rfl, by decide⟩ (by omega) (by first | omega | assumption) ?_
                refine g_iload_n hX d_Mo_lays_165 rfl ?_
                refine g_aload_n hX d_Mo_lays_166 rfl ?_
                refine g_getR hX fl_Mo_25 d_Mo_lays_167 ⟨rfl, by decide⟩ rfl rfl ?_
                refine g_aload_n hX d_Mo_lays_170 rfl ?_
                refine g_getI hX fl_Mo_98 d_Mo_lays_171 10 ⟨rfl, by decide⟩ rfl rfl (fun r_171 => ?_)
                rw [mU_cell (by decide), mU_cell (by decide), mU_cell (by decide), h5] at r_171 ⊢
                refine g_iald hX d_Mo_lays_174 ⟨rfl, by decide⟩ (by omega) (fun r_174 => ?_)
                try rw [mU_self]
                refine g_iadd hX d_Mo_lays_175 ?_
                refine g_istore_n hX d_Mo_lays_176 (by decide) ?_
                refine g_aload_n hX d_Mo_lays_177 rfl ?_
                refine g_dup hX d_Mo_lays_178 rfl ?_
                refine g_getI hX fl_Mo_98 d_Mo_lays_179 10 ⟨rfl, by decide⟩ rfl rfl (fun r_179 => ?_)
                try rw [mU_cell (by decide), mU_cell (by decide), mU_cell (by decide), h5] at r_179 ⊢
                refine g_iconst hX d_Mo_lays_182 ?_
                refine g_iadd hX d_Mo_lays_183 ?_
                refine g_putI hX fl_Mo_98 d_Mo_lays_184 10 ⟨rfl, by decide⟩ rfl rfl (fun q h => by cases h; rfl) rfl (by omega) ?_
                refine g_goto 48 hX d_Mo_lays_187 (by decide) ?_
                first | (exfalso; omega) | refine ih (p + pL n x g w p) (pre ++ [p]) _ _ (by rw [← h1, ly_succ, if_pos (by omega), List.append_assoc]; rfl) (by omega) (by omega) (by simp; omega) (by rw [mU_self]; simp) (fun i b hb => ?_) (fun e q u v => ?_) ⟨fun a u v => by rw [mU_cell (by omega), mU_cell (by omega), mU_cell (by omega), mU_cell (by omega)]; exact hF.1 a u v, fun j u => by rw [mU_slot u, mU_cell (by decide), mU_cell (by decide), mU_cell (by decide)]; exact hF.2 j u⟩
                all_goals first | (obtain ⟨a1, a2⟩ := h7 e q u v; exact ⟨by rw [mU_cell (by decide), mU_cell (by decide), mU_cell (by decide), mU_cell (by decide)]; exact a1, by rw [mU_cell (by decide), mU_cell (by decide), mU_cell (by decide), mU_cell (by decide)]; exact a2⟩) | (exact lays_rows h6 hb)
  have OTHER : ∀ (p : Int) (M1 : mI), iR p → w ≠ 2 → (∀ a, a ≠ 45 → a ≠ 46 → a ≠ 47 → M1 a = M a) → G Γ X 4 (R0, 51, 0, 0) 21 [some (.ref (gb Γ + 37)), some (vI w), some (vI p), none] [] M1 := by
    intro p M1 hp h2 hf
    refine g_iload_n hX d_Mo_lays_21 rfl ?_
    refine g_if_lt 41 hX d_Mo_lays_22 (by decide) (by first | omega | exact ite_iR) (fun h_22 => ?_) (fun h_22 => ?_)
    · refine g_aload_n hX d_Mo_lays_41 rfl ?_
      refine g_iconst hX d_Mo_lays_42 ?_
      refine g_putI hX fl_Mo_98 d_Mo_lays_43 10 ⟨rfl, by decide⟩ rfl rfl (fun q h => by cases h; rfl) rfl (by omega) ?_
      refine g_iconst hX d_Mo_lays_46 ?_
      refine g_istore_n hX d_Mo_lays_47 (by decide) ?_
      refine LOOP n.toNat 0 [] _ _ (List.nil_append _) (by omega) ⟨by omega, v2⟩ (by simp) (by rw [mU_self]; rfl) (fun i b hb => by simp at hb) (fun e => absurd e h2) ⟨fun a u v => by rw [mU_cell u]; exact hf a (by omega) (by omega) (by omega), fun j u => by rw [mU_slot u, hf 37 (by decide) (by decide) (by decide)]⟩
    · refine g_iload_n hX d_Mo_lays_25 rfl ?_
      refine g_iconst hX d_Mo_lays_26 ?_
      refine g_icmp_ne 41 hX d_Mo_lays_27 (by decide) (by omega) (by omega) (fun h_27 => ?_) (fun h_27 => ?_)
      · refine g_aload_n hX d_Mo_lays_41 rfl ?_
        refine g_iconst hX d_Mo_lays_42 ?_
        refine g_putI hX fl_Mo_98 d_Mo_lays_43 10 ⟨rfl, by decide⟩ rfl rfl (fun q h => by cases h; rfl) rfl (by omega) ?_
        refine g_iconst hX d_Mo_lays_46 ?_
        refine g_istore_n hX d_Mo_lays_47 (by decide) ?_
        refine LOOP n.toNat 0 [] _ _ (List.nil_append _) (by omega) ⟨by omega, v2⟩ (by simp) (by rw [mU_self]; rfl) (fun i b hb => by simp at hb) (fun e => absurd e h2) ⟨fun a u v => by rw [mU_cell u]; exact hf a (by omega) (by omega) (by omega), fun j u => by rw [mU_slot u, hf 37 (by decide) (by decide) (by decide)]⟩
      · exact absurd h_27 h2
  have LOOP0 : ∀ (q : Nat) (i : Int) (M1 : mI), (i + 1).toNat = q → -1 ≤ i → i < n → w = 2 → (∀ q, i < q → q ≤ n → M1 45 q = cC n x g q) → (∀ q, i < q → q < n → M1 46 q = pL n x g w q ∧ M1 47 q = pD n x g w q) → (∀ a, a ≠ 45 → a ≠ 46 → a ≠ 47 → M1 a = M a) → G Γ X 4 (R0, 51, 0, 0) 21 [some (.ref (gb Γ + 37)), some (vI w), some (vI i), none] [] M1 := by
    intro q
    induction q with
    | zero =>
      intro i M1 hq h0 h1 h2 h3 h4 hf
      refine g_iload_n hX d_Mo_lays_21 rfl ?_
      refine g_if_lt 41 hX d_Mo_lays_22 (by decide) (by first | omega | exact ite_iR) (fun h_22 => ?_) (fun h_22 => ?_)
      · refine g_aload_n hX d_Mo_lays_41 rfl ?_
        refine g_iconst hX d_Mo_lays_42 ?_
        refine g_putI hX fl_Mo_98 d_Mo_lays_43 10 ⟨rfl, by decide⟩ rfl rfl (fun q h => by cases h; rfl) rfl (by omega) ?_
        refine g_iconst hX d_Mo_lays_46 ?_
        refine g_istore_n hX d_Mo_lays_47 (by decide) ?_
        refine LOOP n.toNat 0 [] _ _ (List.nil_append _) (by omega) ⟨by omega, v2⟩ (by simp) (by rw [mU_self]; rfl) (fun i b hb => by simp at hb) (fun e q u v => by rw [mU_cell (by decide), mU_cell (by decide)]; exact h4 q (by omega) v) ⟨fun a u v => by rw [mU_cell u]; exact hf a (by omega) (by omega) (by omega), fun j u => by rw [mU_slot u, hf 37 (by decide) (by decide) (by decide)]⟩
      · exact absurd h_22 (by omega)
    | succ q ih =>
      intro i M1 hq h0 h1 h2 h3 h4 hf
      refine g_iload_n hX d_Mo_lays_21 rfl ?_
      refine g_if_lt 41 hX d_Mo_lays_22 (by decide) (by first | omega | exact ite_iR) (fun h_22 => ?_) (fun h_22 => ?_)
      · exact absurd h_22 (by omega)
      · refine g_iload_n hX d_Mo_lays_25 rfl ?_
        refine g_iconst hX d_Mo_lays_26 ?_
        refine g_icmp_ne 41 hX d_Mo_lays_27 (by decide) (by omega) (by omega) (fun h_27 => ?_) (fun h_27 => ?_)
        · exact absurd h2 h_27
        · refine g_aload_n hX d_Mo_lays_30 rfl ?_
          refine g_iload_n hX d_Mo_lays_31 rfl ?_
          refine g_callV hX yo_Mo_weighs q_809 d_Mo_lays_32 (c_Mo_weighs (hv.to (hf 38 (by decide) (by decide) (by decide))) hg ⟨by omega, h1⟩ h3) rfl rfl ⟨rfl, by decide⟩ rfl (by decide) (Nat.le_of_ble_eq_true rfl) ⟨Nat.zero_le _, Nat.zero_le _⟩ (k_void fun M_32 hp_32 => ?_)
          obtain ⟨⟨i1, i2, i3⟩, i4, i5⟩ := hp_32
          refine g_iinc hX d_Mo_lays_35 rfl (by decide) ?_
          refine g_goto 21 hX d_Mo_lays_38 (by decide) ?_
          refine ih (i + -1) _ (by omega) (by omega) (by omega) h2 (fun q u v => ?_) (fun q u v => ?_) (fun a u v z => by rw [i4 a u v z]; exact hf a u v z)
          · by_cases hqi : q = i
            · rw [hqi, i1]; exact (cC_at hg (by omega) h1).symm
            · rw [i5 45 q hqi]; exact h3 q (by omega) v
          · by_cases hqi : q = i
            · rw [hqi, h2, i2, i3]; exact ⟨(pP2 n x g i).2.symm, (pP2 n x g i).1.symm⟩
            · rw [i5 46 q hqi, i5 47 q hqi]; exact h4 q (by omega) v
  refine g_aload_n hX d_Mo_lays_0 rfl ?_
  refine g_getR hX fl_Mo_31 d_Mo_lays_1 ⟨rfl, by decide⟩ rfl rfl ?_
  refine g_aload_n hX d_Mo_lays_4 rfl ?_
  refine g_getR hX fl_Mo_7 d_Mo_lays_5 ⟨rfl, by decide⟩ rfl rfl ?_
  refine g_iconst hX d_Mo_lays_8 ?_
  refine g_iald hX d_Mo_lays_9 ⟨rfl, by decide⟩ (by omega) (fun r_9 => ?_)
  rw [v1] at r_9 ⊢
  refine g_iconst hX d_Mo_lays_10 ?_
  refine g_iast hX d_Mo_lays_11 ⟨rfl, by decide⟩ (by omega) (by omega) ?_
  refine g_aload_n hX d_Mo_lays_12 rfl ?_
  refine g_getR hX fl_Mo_7 d_Mo_lays_13 ⟨rfl, by decide⟩ rfl rfl ?_
  refine g_iconst hX d_Mo_lays_16 ?_
  refine g_iald hX d_Mo_lays_17 ⟨rfl, by decide⟩ (by omega) (fun r_17 => ?_)
  rw [mU_cell (by decide), v1] at r_17 ⊢
  refine g_iconst hX d_Mo_lays_18 ?_
  refine g_isub hX d_Mo_lays_19 ?_
  refine g_istore_n hX d_Mo_lays_20 (by decide) ?_
  by_cases hw2 : w = 2
  · exact LOOP0 _ (n - 1) _ rfl (by omega) (by omega) hw2 (fun q u v => by rw [show q = n by omega, mU_self, cC_end n x g v2]) (fun q u v => by omega) (fun a u v z => mU_cell u)
  · exact OTHER (n - 1) _ (by omega) hw2 (fun a u v z => mU_cell u)
