theorem pTx_len {σ : sG} (w p : Int) : (pTx σ w p).length ≤ 7 := by
  unfold pTx
  split
  · simp
  · have z1 := dg_len2 (dP σ w p)
    have z2 := dg_len2 (lP σ w p)
    rw [cpS_len]
    omega
theorem flat_len {f : Int → List Int} (hf : ∀ p, (f p).length ≤ 7) (l : List Int) : ((l.map f).flatten).length ≤ 7 * l.length := by
  induction l with
  | nil => simp
  | cons b l ih =>
    have zb := hf b
    simp only [List.map_cons, List.flatten_cons, List.length_append, List.length_cons]
    omega
theorem drop_at {l : List Int} {i : Nat} (h : i < l.length) : l.drop i = l.getD i 0 :: l.drop (i + 1) ∧ l[i]? = some (l.getD i 0) := by
  constructor
  · rw [List.drop_eq_getElem_cons h, List.getD_eq_getElem?_getD, List.getElem?_eq_getElem h]; rfl
  · rw [List.getD_eq_getElem?_getD, List.getElem?_eq_getElem h]; rfl
theorem c_WC_charactersOf {Γ : gX} {l : Launch} {M : mI} {σ : sG} {w : Int} (ok : OkV σ) (hw : 0 ≤ w ∧ w ≤ 2) (hP : Pp M σ.1.1 σ.1.2.1 σ.1.2.2 0) (hL : Lp M σ.1.1 σ.1.2.1 σ.1.2.2 w) : Cn Γ l i_WC_charactersOf R0 51 [.ref (gb Γ + 0), vI w] M (pI (fun r M' => r = ((wTx σ w).length : Int) ∧ M' = M)) := by
  refine cn_intro (L := [some (.ref (gb Γ + 0)), some (vI w), none, none, none, none]) yo_WC_charactersOf.1 rfl (Nat.le_of_ble_eq_true rfl) rfl (fun X hX hR => ?_)
  have v2 := ok.1.1.1
  have v3 := ok.1.1.2
  have zl : ((bg σ w).length : Int) ≤ σ.1.1 := bgs_len σ.1.1 σ.1.2.1 σ.1.2.2 w v2
  have l1 : M 24 7 = ((bg σ w).length : Int) := hL.1
  have zt := flat_len (fun p => pTx_len (σ := σ) w p) (bg σ w)
  have zt2 : ((wTx σ w).length : Int) ≤ 420 := by unfold wTx; omega
  have LOOP : ∀ (q : Nat) (i : Nat) (s : Int), i + q = (bg σ w).length → s + (((((bg σ w).drop i).map (pTx σ w)).flatten).length : Int) = ((wTx σ w).length : Int) → 0 ≤ s → G Γ X 6 (R0, 51, 0, 0) 4 [some (.ref (gb Γ + 0)), some (vI w), some (vI s), some (vI i), none, none] [] M := by
    intro q
    induction q with
    | zero =>
      intro i s hq hs h0
      rw [List.drop_eq_nil_of_le (by omega)] at hs
      simp at hs
      refine g_iload_n hX d_WC_charactersOf_4 rfl ?_
      refine g_aload_n hX d_WC_charactersOf_5 rfl ?_
      refine g_getR hX fl_WC_44 d_WC_charactersOf_6 ⟨rfl, by decide⟩ rfl rfl ?_
      refine g_callV hX yo_Plan_parts q_428 d_WC_charactersOf_9 c_Plan_parts rfl rfl ⟨rfl, by decide⟩ rfl (by decide) (Nat.le_of_ble_eq_true rfl) ⟨Nat.zero_le _, Nat.zero_le _⟩ (k_int fun r_9 M_9 ir_9 hp_9 => ?_)
      obtain ⟨er_9, eM_9⟩ := hp_9; replace er_9 := er_9.symm; replace eM_9 := eM_9.symm; subst er_9; subst eM_9
      refine g_icmp_ge 70 hX d_WC_charactersOf_12 (by decide) (by omega) (by omega) (fun h_12 => ?_) (fun h_12 => ?_)
      · refine g_iload_n hX d_WC_charactersOf_70 rfl ?_
        refine g_iret hX hR d_WC_charactersOf_71 (by omega) ?_
        exact ⟨hs, rfl⟩
      · exact absurd h_12 (by omega)
    | succ q ih =>
      intro i s hq hs h0
      obtain ⟨hd1, hd2⟩ := drop_at (l := bg σ w) (i := i) (by omega)
      rw [hd1] at hs
      simp only [List.map_cons, List.flatten_cons, List.length_append] at hs
      generalize hb : (bg σ w).getD i 0 = b at hd1 hd2 hs
      have zb := bgs_mem (x := σ.1.2.1) ok.1.2.1 (List.mem_of_getElem? hd2)
      have zm := hL.2.1 i b hd2
      have zP := hP.1 w b hw.1 hw.2 zb.1 zb.2
      have zbb := pL_b (x := σ.1.2.1) ok.1.2.1 w b zb.1 zb.2
      refine g_iload_n hX d_WC_charactersOf_4 rfl ?_
      refine g_aload_n hX d_WC_charactersOf_5 rfl ?_
      refine g_getR hX fl_WC_44 d_WC_charactersOf_6 ⟨rfl, by decide⟩ rfl rfl ?_
      refine g_callV hX yo_Plan_parts q_428 d_WC_charactersOf_9 c_Plan_parts rfl rfl ⟨rfl, by decide⟩ rfl (by decide) (Nat.le_of_ble_eq_true rfl) ⟨Nat.zero_le _, Nat.zero_le _⟩ (k_int fun r_9 M_9 ir_9 hp_9 => ?_)
      obtain ⟨er_9, eM_9⟩ := hp_9; replace er_9 := er_9.symm; replace eM_9 := eM_9.symm; subst er_9; subst eM_9
      refine g_icmp_ge 70 hX d_WC_charactersOf_12 (by decide) (by omega) (by omega) (fun h_12 => ?_) (fun h_12 => ?_)
      · exact absurd h_12 (by omega)
      · refine g_aload_n hX d_WC_charactersOf_15 rfl ?_
        refine g_getR hX fl_WC_44 d_WC_charactersOf_16 ⟨rfl, by decide⟩ rfl rfl ?_
        refine g_iload_n hX d_WC_charactersOf_19 rfl ?_
        refine g_callV hX yo_Plan_beginOf q_432 d_WC_charactersOf_20 (c_Plan_beginOf (by omega)) rfl rfl ⟨rfl, by decide⟩ rfl (by decide) (Nat.le_of_ble_eq_true rfl) ⟨Nat.zero_le _, Nat.zero_le _⟩ (k_int fun r_20 M_20 ir_20 hp_20 => ?_)
        obtain ⟨er_20, eM_20⟩ := hp_20; replace er_20 := er_20.symm; replace eM_20 := eM_20.symm; subst er_20; subst eM_20
        rw [zm] at ir_20 ⊢
        refine g_istore hX d_WC_charactersOf_23 (by decide) ?_
        refine g_aload_n hX d_WC_charactersOf_25 rfl ?_
        refine g_getR hX fl_WC_44 d_WC_charactersOf_26 ⟨rfl, by decide⟩ rfl rfl ?_
        refine g_iload_n hX d_WC_charactersOf_29 rfl ?_
        refine g_iload hX d_WC_charactersOf_30 rfl ?_
        refine g_callV hX yo_Plan_distanceAt q_437 d_WC_charactersOf_32 (c_Plan_distanceAt hw (by omega)) rfl rfl ⟨rfl, by decide⟩ rfl (by decide) (Nat.le_of_ble_eq_true rfl) ⟨Nat.zero_le _, Nat.zero_le _⟩ (k_int fun r_32 M_32 ir_32 hp_32 => ?_)
        obtain ⟨er_32, eM_32⟩ := hp_32; replace er_32 := er_32.symm; replace eM_32 := eM_32.symm; subst er_32; subst eM_32
        rw [zP.1] at ir_32 ⊢
        refine g_istore hX d_WC_charactersOf_35 (by decide) ?_
        refine g_iload_n hX d_WC_charactersOf_37 rfl ?_
        refine g_iload hX d_WC_charactersOf_38 rfl ?_
        refine g_if_ne 47 hX d_WC_charactersOf_40 (by decide) (by first | omega | exact ite_iR) (fun h_40 => ?_) (fun h_40 => ?_)
        · have zx : pTx σ w b = cpS (pD σ.1.1 σ.1.2.1 σ.1.2.2 w b) (pL σ.1.1 σ.1.2.1 σ.1.2.2 w b) := by (unfold pTx; rw [if_neg (by exact h_40)])
          rw [zx] at hs
          refine g_iload hX d_WC_charactersOf_47 rfl ?_
          refine g_aload_n hX d_WC_charactersOf_49 rfl ?_
          refine g_getR hX fl_WC_44 d_WC_charactersOf_50 ⟨rfl, by decide⟩ rfl rfl ?_
          refine g_iload_n hX d_WC_charactersOf_53 rfl ?_
          refine g_iload hX d_WC_charactersOf_54 rfl ?_
          refine g_callV hX yo_Plan_lengthAt q_436 d_WC_charactersOf_56 (c_Plan_lengthAt hw (by omega)) rfl rfl ⟨rfl, by decide⟩ rfl (by decide) (Nat.le_of_ble_eq_true rfl) ⟨Nat.zero_le _, Nat.zero_le _⟩ (k_int fun r_56 M_56 ir_56 hp_56 => ?_)
          obtain ⟨er_56, eM_56⟩ := hp_56; replace er_56 := er_56.symm; replace eM_56 := eM_56.symm; subst er_56; subst eM_56
          rw [zP.2] at ir_56 ⊢
          refine g_callS hX yo_Text_charactersOfCopy q_567 d_WC_charactersOf_59 (c_Text_charactersOfCopy (by omega) (by omega)) rfl rfl (by decide) (Nat.le_of_ble_eq_true rfl) ⟨Nat.zero_le _, Nat.zero_le _⟩ (k_int fun r_59 M_59 ir_59 hp_59 => ?_)
          obtain ⟨er_59, eM_59⟩ := hp_59; replace er_59 := er_59.symm; replace eM_59 := eM_59.symm; subst er_59; subst eM_59
          refine g_iadd hX d_WC_charactersOf_62 ?_
          refine g_istore_n hX d_WC_charactersOf_63 (by decide) ?_
          refine g_iinc hX d_WC_charactersOf_64 rfl (by decide) ?_
          refine g_goto 4 hX d_WC_charactersOf_67 (by decide) ?_
          refine g_drop 4 (g_drop 5 ?_)
          exact ih (i + 1) _ (by omega) (by omega) (by omega)
        · have zx : pTx σ w b = [97 + σ.1.2.1 b] := by (unfold pTx; rw [if_pos (by exact h_40)])
          rw [zx] at hs
          simp only [List.length_singleton] at hs
          refine g_iconst hX d_WC_charactersOf_43 ?_
          refine g_goto 62 hX d_WC_charactersOf_44 (by decide) ?_
          refine g_iadd hX d_WC_charactersOf_62 ?_
          refine g_istore_n hX d_WC_charactersOf_63 (by decide) ?_
          refine g_iinc hX d_WC_charactersOf_64 rfl (by decide) ?_
          refine g_goto 4 hX d_WC_charactersOf_67 (by decide) ?_
          refine g_drop 4 (g_drop 5 ?_)
          exact ih (i + 1) _ (by omega) (by omega) (by omega)
  refine g_iconst hX d_WC_charactersOf_0 ?_
  refine g_istore_n hX d_WC_charactersOf_1 (by decide) ?_
  refine g_iconst hX d_WC_charactersOf_2 ?_
  refine g_istore_n hX d_WC_charactersOf_3 (by decide) ?_
  exact LOOP _ 0 0 (Nat.zero_add _) (by unfold wTx; simp) (Int.le_refl _)
theorem c_WC_write {Γ : gX} {l : Launch} {M : mI} {σ : sG} {w : Int} (h : CR M σ) (ok : OkV σ) (hw : iR w) : Cn Γ l i_WC_write R0 51 [.ref (gb Γ + 0), vI w] M (pI (fun r M' => r = (q_write σ w).1 ∧ CR M' (q_write σ w).2 ∧ ∀ a, 37 ≤ a → M' a = M a)) := by
  refine cn_intro (L := [some (.ref (gb Γ + 0)), some (vI w), none, none, none]) yo_WC_write.1 rfl (Nat.le_of_ble_eq_true rfl) rfl (fun X hX hR => ?_)
  have hv := h.1
  obtain ⟨v1, v2, v3, v4, v5⟩ := id hv
  have CRT : ∀ (M1 M2 : mI) (t : List Int), CR M1 σ → Tv M2 t → (∀ a, a ≠ 31 → a ≠ 32 → M2 a = M1 a) → CR M2 (σ.1, σ.2.1, σ.2.2.1, t) := fun M1 M2 t e1 e2 e3 => ⟨e1.1.to (e3 1 (by omega) (by omega)) (e3 2 (by omega) (by omega)) (e3 3 (by omega) (by omega)), e1.2.1.to (fun a u v => e3 a (by omega) (by omega)), by rw [e3 0 (by omega) (by omega)]; exact e1.2.2.1, fun s' hs => (e1.2.2.2.1 s' hs).to (e3 4 (by omega) (by omega)) (e3 5 (by omega) (by omega)) (e3 6 (by omega) (by omega)), e2⟩
  have LOOP : ∀ (q : Nat) (i : Nat) (t : List Int) (M1 M0 : mI), (0 ≤ w ∧ w ≤ 2) → (wTx σ w).length ≤ 120 → i + q = (bg σ w).length → t ++ ((((bg σ w).drop i).map (pTx σ w)).flatten) = wTx σ w → Tv M1 t → CR M0 σ → Pp M0 σ.1.1 σ.1.2.1 σ.1.2.2 0 → Lp M0 σ.1.1 σ.1.2.1 σ.1.2.2 w → (∀ a, 37 ≤ a → M0 a = M a) → (∀ a, a ≠ 31 → a ≠ 32 → M1 a = M0 a) → G Γ X 5 (R0, 51, 0, 0) 49 [some (.ref (gb Γ + 0)), some (vI w), some (vI i), none, none] [] M1 := by
    intro q
    induction q with
    | zero =>
      intro i t M1 M0 hw2 hlen hq hs ht e1 e2 e3 e4 e5
      have l1 : M1 24 7 = ((bg σ w).length : Int) := by rw [e5 24 (by decide) (by decide)]; exact e3.1
      have zl : ((bg σ w).length : Int) ≤ σ.1.1 := bgs_len σ.1.1 σ.1.2.1 σ.1.2.2 w v2
      rw [List.drop_eq_nil_of_le (by omega)] at hs
      simp at hs
      subst hs
      refine g_iload_n hX d_WC_write_49 rfl ?_
      refine g_aload_n hX d_WC_write_50 rfl ?_
      refine g_getR hX fl_WC_44 d_WC_write_51 ⟨rfl, by decide⟩ rfl rfl ?_
      refine g_callV hX yo_Plan_parts q_428 d_WC_write_54 c_Plan_parts rfl rfl ⟨rfl, by decide⟩ rfl (by decide) (Nat.le_of_ble_eq_true rfl) ⟨Nat.zero_le _, Nat.zero_le _⟩ (k_int fun r_54 M_54 ir_54 hp_54 => ?_)
      obtain ⟨er_54, eM_54⟩ := hp_54; replace er_54 := er_54.symm; replace eM_54 := eM_54.symm; subst er_54; subst eM_54
      refine g_icmp_ge 130 hX d_WC_write_57 (by decide) (by omega) (by omega) (fun h_57 => ?_) (fun h_57 => ?_)
      · refine g_aload_n hX d_WC_write_130 rfl ?_
        refine g_getR hX fl_WC_58 d_WC_write_131 ⟨rfl, by decide⟩ rfl rfl ?_
        refine g_callV hX yo_Text_size q_517 d_WC_write_134 c_Text_size rfl rfl ⟨rfl, by decide⟩ rfl (by decide) (Nat.le_of_ble_eq_true rfl) ⟨Nat.zero_le _, Nat.zero_le _⟩ (k_int fun r_134 M_134 ir_134 hp_134 => ?_)
        obtain ⟨er_134, eM_134⟩ := hp_134; replace er_134 := er_134.symm; replace eM_134 := eM_134.symm; subst er_134; subst eM_134
        refine g_iret hX hR d_WC_write_137 (by omega) ?_
        unfold q_write; rw [if_neg (fun z => z hw2), if_neg (by omega)]; exact ⟨ht.1, CRT M0 M1 _ e1 ht e5, fun a u => by rw [e5 a (by omega) (by omega)]; exact e4 a u⟩
      · exact absurd h_57 (by omega)
    | succ q ih =>
      intro i t M1 M0 hw2 hlen hq hs ht e1 e2 e3 e4 e5
      have l1 : M1 24 7 = ((bg σ w).length : Int) := by rw [e5 24 (by decide) (by decide)]; exact e3.1
      have zl : ((bg σ w).length : Int) ≤ σ.1.1 := bgs_len σ.1.1 σ.1.2.1 σ.1.2.2 w v2
      obtain ⟨hd1, hd2⟩ := drop_at (l := bg σ w) (i := i) (by omega)
      rw [hd1] at hs
      simp only [List.map_cons, List.flatten_cons] at hs
      generalize hb : (bg σ w).getD i 0 = b at hd1 hd2 hs
      have zb := bgs_mem (x := σ.1.2.1) ok.1.2.1 (List.mem_of_getElem? hd2)
      have zm : M1 29 i = b := by rw [e5 29 (by decide) (by decide)]; exact e3.2.1 i b hd2
      have zP := e2.1 w b hw2.1 hw2.2 zb.1 zb.2
      rw [← e5 25 (by decide) (by decide), ← e5 26 (by decide) (by decide)] at zP
      have zbb := pL_b (x := σ.1.2.1) ok.1.2.1 w b zb.1 zb.2
      have hv1 : Sv M1 1 σ.1.1 σ.1.2.1 σ.1.2.2 := e1.1.to (e5 1 (by decide) (by decide)) (e5 2 (by decide) (by decide)) (e5 3 (by decide) (by decide))
      have zx := ok.1.2.2 b zb.1 zb.2
      have zlen : t.length + (pTx σ w b).length ≤ 120 := by
        have zz := congrArg List.length hs
        simp only [List.length_append] at zz
        omega
      refine g_iload_n hX d_WC_write_49 rfl ?_
      refine g_aload_n hX d_WC_write_50 rfl ?_
      refine g_getR hX fl_WC_44 d_WC_write_51 ⟨rfl, by decide⟩ rfl rfl ?_
      refine g_callV hX yo_Plan_parts q_428 d_WC_write_54 c_Plan_parts rfl rfl ⟨rfl, by decide⟩ rfl (by decide) (Nat.le_of_ble_eq_true rfl) ⟨Nat.zero_le _, Nat.zero_le _⟩ (k_int fun r_54 M_54 ir_54 hp_54 => ?_)
      obtain ⟨er_54, eM_54⟩ := hp_54; replace er_54 := er_54.symm; replace eM_54 := eM_54.symm; subst er_54; subst eM_54
      refine g_icmp_ge 130 hX d_WC_write_57 (by decide) (by omega) (by omega) (fun h_57 => ?_) (fun h_57 => ?_)
      · exact absurd h_57 (by omega)
      · refine g_aload_n hX d_WC_write_60 rfl ?_
        refine g_getR hX fl_WC_44 d_WC_write_61 ⟨rfl, by decide⟩ rfl rfl ?_
        refine g_iload_n hX d_WC_write_64 rfl ?_
        refine g_callV hX yo_Plan_beginOf q_432 d_WC_write_65 (c_Plan_beginOf (by omega)) rfl rfl ⟨rfl, by decide⟩ rfl (by decide) (Nat.le_of_ble_eq_true rfl) ⟨Nat.zero_le _, Nat.zero_le _⟩ (k_int fun r_65 M_65 ir_65 hp_65 => ?_)
        obtain ⟨er_65, eM_65⟩ := hp_65; replace er_65 := er_65.symm; replace eM_65 := eM_65.symm; subst er_65; subst eM_65
        rw [zm] at ir_65 ⊢
        refine g_istore_n hX d_WC_write_68 (by decide) ?_
        refine g_aload_n hX d_WC_write_69 rfl ?_
        refine g_getR hX fl_WC_44 d_WC_write_70 ⟨rfl, by decide⟩ rfl rfl ?_
        refine g_iload_n hX d_WC_write_73 rfl ?_
        refine g_iload_n hX d_WC_write_74 rfl ?_
        refine g_callV hX yo_Plan_distanceAt q_437 d_WC_write_75 (c_Plan_distanceAt hw2 (by omega)) rfl rfl ⟨rfl, by decide⟩ rfl (by decide) (Nat.le_of_ble_eq_true rfl) ⟨Nat.zero_le _, Nat.zero_le _⟩ (k_int fun r_75 M_75 ir_75 hp_75 => ?_)
        obtain ⟨er_75, eM_75⟩ := hp_75; replace er_75 := er_75.symm; replace eM_75 := eM_75.symm; subst er_75; subst eM_75
        rw [zP.1] at ir_75 ⊢
        refine g_istore hX d_WC_write_78 (by decide) ?_
        refine g_iload hX d_WC_write_80 rfl ?_
        refine g_if_ne 106 hX d_WC_write_82 (by decide) (by first | omega | exact ite_iR) (fun h_82 => ?_) (fun h_82 => ?_)
        · have zp : pTx σ w b = cpS (pD σ.1.1 σ.1.2.1 σ.1.2.2 w b) (pL σ.1.1 σ.1.2.1 σ.1.2.2 w b) := by (unfold pTx; rw [if_neg (by exact h_82)])
          rw [zp] at hs zlen
          refine g_aload_n hX d_WC_write_106 rfl ?_
          refine g_getR hX fl_WC_58 d_WC_write_107 ⟨rfl, by decide⟩ rfl rfl ?_
          refine g_iload hX d_WC_write_110 rfl ?_
          refine g_aload_n hX d_WC_write_112 rfl ?_
          refine g_getR hX fl_WC_44 d_WC_write_113 ⟨rfl, by decide⟩ rfl rfl ?_
          refine g_iload_n hX d_WC_write_116 rfl ?_
          refine g_iload_n hX d_WC_write_117 rfl ?_
          refine g_callV hX yo_Plan_lengthAt q_436 d_WC_write_118 (c_Plan_lengthAt hw2 (by omega)) rfl rfl ⟨rfl, by decide⟩ rfl (by decide) (Nat.le_of_ble_eq_true rfl) ⟨Nat.zero_le _, Nat.zero_le _⟩ (k_int fun r_118 M_118 ir_118 hp_118 => ?_)
          obtain ⟨er_118, eM_118⟩ := hp_118; replace er_118 := er_118.symm; replace eM_118 := eM_118.symm; subst er_118; subst eM_118
          rw [zP.2] at ir_118 ⊢
          refine g_callV hX yo_Text_appendCopy q_573 d_WC_write_121 (c_Text_appendCopy ht (by omega) (by omega) zlen) rfl rfl ⟨rfl, by decide⟩ rfl (by decide) (Nat.le_of_ble_eq_true rfl) ⟨Nat.zero_le _, Nat.zero_le _⟩ (k_void fun M_121 hp_121 => ?_)
          obtain ⟨p1, p2⟩ := hp_121
          refine g_iinc hX d_WC_write_124 rfl (by decide) ?_
          refine g_goto 49 hX d_WC_write_127 (by decide) ?_
          refine g_drop 3 (g_drop 4 ?_)
          exact ih (i + 1) _ _ M0 hw2 hlen (by omega) (by rw [List.append_assoc]; exact hs) p1 e1 e2 e3 e4 (fun a u v => by rw [p2 a u v]; exact e5 a u v)
        · have zp : pTx σ w b = [97 + σ.1.2.1 b] := by (unfold pTx; rw [if_pos (by exact h_82)])
          rw [zp] at hs zlen
          simp only [List.length_singleton] at zlen
          refine g_aload_n hX d_WC_write_85 rfl ?_
          refine g_getR hX fl_WC_58 d_WC_write_86 ⟨rfl, by decide⟩ rfl rfl ?_
          refine g_bipush hX d_WC_write_89 rfl ?_
          refine g_aload_n hX d_WC_write_91 rfl ?_
          refine g_getR hX fl_WC_10 d_WC_write_92 ⟨rfl, by decide⟩ rfl rfl ?_
          refine g_iload_n hX d_WC_write_95 rfl ?_
          refine g_callV hX yo_State_letterAt q_286 d_WC_write_96 (c_State_letterAt (p := b) st_1 (by omega)) rfl rfl ⟨rfl, by decide⟩ rfl (by decide) (Nat.le_of_ble_eq_true rfl) ⟨Nat.zero_le _, Nat.zero_le _⟩ (k_int fun r_96 M_96 ir_96 hp_96 => ?_)
          obtain ⟨er_96, eM_96⟩ := hp_96; replace er_96 := er_96.symm; replace eM_96 := eM_96.symm; subst er_96; subst eM_96
          rw [hv1.2.2.2.1 b zb.1 zb.2] at ir_96 ⊢
          refine g_iadd hX d_WC_write_99 ?_
          refine g_callV hX yo_Text_append q_546 d_WC_write_100 (c_Text_appendT ht (by omega) (by omega)) rfl rfl ⟨rfl, by decide⟩ rfl (by decide) (Nat.le_of_ble_eq_true rfl) ⟨Nat.zero_le _, Nat.zero_le _⟩ (k_void fun M_100 hp_100 => ?_)
          obtain ⟨p1, p2⟩ := hp_100
          refine g_goto 124 hX d_WC_write_103 (by decide) ?_
          refine g_iinc hX d_WC_write_124 rfl (by decide) ?_
          refine g_goto 49 hX d_WC_write_127 (by decide) ?_
          refine g_drop 3 (g_drop 4 ?_)
          exact ih (i + 1) _ _ M0 hw2 hlen (by omega) (by rw [List.append_assoc]; exact hs) p1 e1 e2 e3 e4 (fun a u v => by rw [p2 a u v]; exact e5 a u v)
  refine g_iload_n hX d_WC_write_0 rfl ?_
  refine g_callS hX yo_WC_isWay q_373 d_WC_write_1 (c_WC_isWay hw) rfl rfl (by decide) (Nat.le_of_ble_eq_true rfl) ⟨Nat.zero_le _, Nat.zero_le _⟩ (k_int fun r_1 M_1 ir_1 hp_1 => ?_)
  obtain ⟨er_1, eM_1⟩ := hp_1; replace er_1 := er_1.symm; replace eM_1 := eM_1.symm; subst er_1; subst eM_1
  refine g_if_ne 11 hX d_WC_write_4 (by decide) (by first | omega | exact ite_iR) (fun h_4 => ?_) (fun h_4 => ?_)
  · have z1 := ite_ne h_4
    refine g_aload_n hX d_WC_write_11 rfl ?_
    refine g_getR hX fl_WC_44 d_WC_write_12 ⟨rfl, by decide⟩ rfl rfl ?_
    refine g_callV hX yo_Plan_make q_376 d_WC_write_15 (c_Plan_make hv ok.1.2.1) rfl rfl ⟨rfl, by decide⟩ rfl (by decide) (Nat.le_of_ble_eq_true rfl) ⟨Nat.zero_le _, Nat.zero_le _⟩ (k_void fun M_15 hp_15 => ?_)
    obtain ⟨p1, p2⟩ := hp_15
    have hv2 : Sv M_15 1 σ.1.1 σ.1.2.1 σ.1.2.2 := hv.to (p2 1 (by decide) (by decide) (by decide) (by decide) (by decide) (by decide) (by decide)) (p2 2 (by decide) (by decide) (by decide) (by decide) (by decide) (by decide) (by decide)) (p2 3 (by decide) (by decide) (by decide) (by decide) (by decide) (by decide) (by decide))
    refine g_aload_n hX d_WC_write_18 rfl ?_
    refine g_getR hX fl_WC_44 d_WC_write_19 ⟨rfl, by decide⟩ rfl rfl ?_
    refine g_iload_n hX d_WC_write_22 rfl ?_
    refine g_callV hX yo_Plan_layOut q_420 d_WC_write_23 (c_Plan_layOut hv2 ok.1.2.1 z1 p1) rfl rfl ⟨rfl, by decide⟩ rfl (by decide) (Nat.le_of_ble_eq_true rfl) ⟨Nat.zero_le _, Nat.zero_le _⟩ (k_void fun M_23 hp_23 => ?_)
    obtain ⟨q1, q2⟩ := hp_23
    obtain ⟨e1, e2⟩ := CR_scr2 h p2 q2
    have p3 := Pp_scr p1 q2
    refine g_aload_n hX d_WC_write_26 rfl ?_
    refine g_iload_n hX d_WC_write_27 rfl ?_
    refine g_callV hX yo_WC_charactersOf q_563 d_WC_write_28 (c_WC_charactersOf ok z1 p3 q1) rfl rfl ⟨rfl, by decide⟩ rfl (by decide) (Nat.le_of_ble_eq_true rfl) ⟨Nat.zero_le _, Nat.zero_le _⟩ (k_int fun r_28 M_28 ir_28 hp_28 => ?_)
    obtain ⟨er_28, eM_28⟩ := hp_28; replace er_28 := er_28.symm; replace eM_28 := eM_28.symm; subst er_28; subst eM_28
    refine g_bipush hX d_WC_write_31 rfl ?_
    refine g_icmp_le 40 hX d_WC_write_33 (by decide) (by omega) (by omega) (fun h_33 => ?_) (fun h_33 => ?_)
    · refine g_aload_n hX d_WC_write_40 rfl ?_
      refine g_getR hX fl_WC_58 d_WC_write_41 ⟨rfl, by decide⟩ rfl rfl ?_
      refine g_callV hX yo_Text_empty q_555 d_WC_write_44 c_Text_empty rfl rfl ⟨rfl, by decide⟩ rfl (by decide) (Nat.le_of_ble_eq_true rfl) ⟨Nat.zero_le _, Nat.zero_le _⟩ (k_void fun M_44 hp_44 => ?_)
      replace hp_44 := hp_44.symm; subst hp_44
      refine g_iconst hX d_WC_write_47 ?_
      refine g_istore_n hX d_WC_write_48 (by decide) ?_
      exact LOOP _ 0 [] _ M_23 z1 (by omega) (Nat.zero_add _) (by unfold wTx; simp) Tv.nil e1 p3 q1 e2 (fun a u v => by rw [mU_cell u])
    · refine g_sipush hX d_WC_write_36 rfl ?_
      refine g_iret hX hR d_WC_write_39 (by omega) ?_
      unfold q_write; rw [if_neg (fun z => z z1), if_pos (by omega)]; exact ⟨rfl, e1, e2⟩
  · have z1 := ite_eq h_4
    refine g_sipush hX d_WC_write_7 rfl ?_
    refine g_iret hX hR d_WC_write_10 (by omega) ?_
    unfold q_write; rw [if_pos z1]; exact ⟨rfl, h, fun _ _ => rfl⟩
