/-! the reference: writing -/
def TF (M' M : mI) : Prop := (∀ a, a ≠ 37 → a ≠ 41 → M' a = M a) ∧ ∀ j, j ≠ 6 → M' 37 j = M 37 j
theorem TF.trans {M M' M'' : mI} (h : TF M'' M') (h2 : TF M' M) : TF M'' M := ⟨fun a u v => (h.1 a u v).trans (h2.1 a u v), fun j u => (h.2 j u).trans (h2.2 j u)⟩
theorem TF.put {M : mI} {j v y : Int} : TF (mU (mU M 41 j v) 37 6 y) M := ⟨fun a u w => by rw [mU_cell u, mU_cell w], fun j u => by rw [mU_slot u, mU_cell (by decide)]⟩
theorem Nt.snoc {M : mI} {t : List Int} {c : Int} (h : Nt M t) (hl : t.length < 120) : Nt (mU (mU M 41 t.length c) 37 6 (t.length + 1)) (t ++ [c]) :=
  ⟨by rw [mU_self]; simp, by simp; omega, fun i b hb => by rw [mU_cell (by decide)]; exact row_snoc h.2.2 rfl i b hb⟩
theorem MR_text {M M' : mI} {σ : sG} {t : List Int} (h : MR M σ) (hf : TF M' M) (ht : Nt M' t) : MR M' (σ.1, σ.2.1, σ.2.2.1, t) :=
  ⟨h.1.to (hf.1 38 (by decide) (by decide)), h.2.1.to (hf.2 4 (by decide)) (hf.1 39 (by decide) (by decide)), by rw [hf.2 3 (by decide)]; exact h.2.2.1, fun s hs => (h.2.2.2.1 s hs).to (hf.1 40 (by decide) (by decide)), ht⟩
theorem c_Mo_digits {Γ : gX} {l : Launch} {M : mI} {v : Int} (hv : 0 ≤ v ∧ v ≤ 99) : Cn Γ l i_Mo_digits R0 51 [vI v] M (pI (fun r M' => r = ((dg v).length : Int) ∧ M' = M)) := by
  refine cn_intro (L := [some (vI v)]) yo_Mo_digits.1 rfl (Nat.le_of_ble_eq_true rfl) rfl (fun X hX hR => ?_)
  refine g_iload_n hX d_Mo_digits_0 rfl ?_
  refine g_bipush hX d_Mo_digits_1 rfl ?_
  refine g_icmp_le 10 hX d_Mo_digits_3 (by decide) (by omega) (by omega) (fun h_3 => ?_) (fun h_3 => ?_)
  · refine g_iconst hX d_Mo_digits_10 ?_
    refine g_iret hX hR d_Mo_digits_11 (by omega) ?_
    refine ⟨?_, rfl⟩; rw [dg_len]; first | (rw [if_pos (by omega)]; rfl) | (rw [if_neg (by omega)]; rfl)
  · refine g_iconst hX d_Mo_digits_6 ?_
    refine g_goto 11 hX d_Mo_digits_7 (by decide) ?_
    refine g_iret hX hR d_Mo_digits_11 (by omega) ?_
    refine ⟨?_, rfl⟩; rw [dg_len]; first | (rw [if_pos (by omega)]; rfl) | (rw [if_neg (by omega)]; rfl)
theorem c_Mo_writesSign {Γ : gX} {l : Launch} {M : mI} {t : List Int} {c : Int} (ht : Nt M t) (hl : t.length < 120) (hc : iR c) : Cn Γ l i_Mo_writesSign R0 51 [.ref (gb Γ + 37), vI c] M (pV (fun M' => Nt M' (t ++ [c]) ∧ TF M' M)) := by
  refine cn_intro (L := [some (.ref (gb Γ + 37)), some (vI c)]) yo_Mo_writesSign.1 rfl (Nat.le_of_ble_eq_true rfl) rfl (fun X hX hR => ?_)
  refine g_aload_n hX d_Mo_writesSign_0 rfl ?_
  refine g_getR hX fl_Mo_19 d_Mo_writesSign_1 ⟨rfl, by decide⟩ rfl rfl ?_
  refine g_aload_n hX d_Mo_writesSign_4 rfl ?_
  refine g_getI hX fl_Mo_123 d_Mo_writesSign_5 6 ⟨rfl, by decide⟩ rfl rfl (fun r_5 => ?_)
  rw [ht.1] at r_5 ⊢
  refine g_iload_n hX d_Mo_writesSign_8 rfl ?_
  refine g_iast hX d_Mo_writesSign_9 ⟨rfl, by decide⟩ (by omega) (by omega) ?_
  refine g_aload_n hX d_Mo_writesSign_10 rfl ?_
  refine g_dup hX d_Mo_writesSign_11 rfl ?_
  refine g_getI hX fl_Mo_123 d_Mo_writesSign_12 6 ⟨rfl, by decide⟩ rfl rfl (fun r_12 => ?_)
  rw [mU_cell (by decide), ht.1] at r_12 ⊢
  refine g_iconst hX d_Mo_writesSign_15 ?_
  refine g_iadd hX d_Mo_writesSign_16 ?_
  refine g_putI hX fl_Mo_123 d_Mo_writesSign_17 6 ⟨rfl, by decide⟩ rfl rfl (fun q h => by cases h; rfl) rfl (by omega) ?_
  refine g_vret hX hR d_Mo_writesSign_20 ?_
  exact ⟨ht.snoc hl, TF.put⟩
theorem c_Mo_writesNumber {Γ : gX} {l : Launch} {M : mI} {t : List Int} {v : Int} (ht : Nt M t) (hl : t.length + (dg v).length ≤ 120) (hv : 0 ≤ v ∧ v ≤ 99) : Cn Γ l i_Mo_writesNumber R0 51 [.ref (gb Γ + 37), vI v] M (pV (fun M' => Nt M' (t ++ dg v) ∧ TF M' M)) := by
  refine cn_intro (L := [some (.ref (gb Γ + 37)), some (vI v)]) yo_Mo_writesNumber.1 rfl (Nat.le_of_ble_eq_true rfl) rfl (fun X hX hR => ?_)
  have zd := dg_len v
  have TAIL : ∀ (M1 : mI) (t1 : List Int), Nt M1 t1 → t1.length < 120 → TF M1 M → t1 ++ [48 + v % 10] = t ++ dg v → G Γ X 2 (R0, 51, 0, 0) 32 [some (.ref (gb Γ + 37)), some (vI v)] [] M1 := by
    intro M1 t1 h1 h2 h3 h4
    refine g_aload_n hX d_Mo_writesNumber_32 rfl ?_
    refine g_getR hX fl_Mo_19 d_Mo_writesNumber_33 ⟨rfl, by decide⟩ rfl rfl ?_
    refine g_aload_n hX d_Mo_writesNumber_36 rfl ?_
    refine g_getI hX fl_Mo_123 d_Mo_writesNumber_37 6 ⟨rfl, by decide⟩ rfl rfl (fun r_37 => ?_)
    rw [h1.1] at r_37 ⊢
    refine g_bipush hX d_Mo_writesNumber_40 rfl ?_
    refine g_iload_n hX d_Mo_writesNumber_42 rfl ?_
    refine g_bipush hX d_Mo_writesNumber_43 rfl ?_
    refine g_irem hX (by omega) (by decide) d_Mo_writesNumber_45 ?_
    refine g_iadd hX d_Mo_writesNumber_46 ?_
    refine g_iast hX d_Mo_writesNumber_47 ⟨rfl, by decide⟩ (by omega) (by omega) ?_
    refine g_aload_n hX d_Mo_writesNumber_48 rfl ?_
    refine g_dup hX d_Mo_writesNumber_49 rfl ?_
    refine g_getI hX fl_Mo_123 d_Mo_writesNumber_50 6 ⟨rfl, by decide⟩ rfl rfl (fun r_50 => ?_)
    rw [mU_cell (by decide), h1.1] at r_50 ⊢
    refine g_iconst hX d_Mo_writesNumber_53 ?_
    refine g_iadd hX d_Mo_writesNumber_54 ?_
    refine g_putI hX fl_Mo_123 d_Mo_writesNumber_55 6 ⟨rfl, by decide⟩ rfl rfl (fun q h => by cases h; rfl) rfl (by omega) ?_
    refine g_vret hX hR d_Mo_writesNumber_58 ?_
    exact ⟨by rw [← h4]; exact h1.snoc h2, TF.put.trans h3⟩
  refine g_iload_n hX d_Mo_writesNumber_0 rfl ?_
  refine g_bipush hX d_Mo_writesNumber_1 rfl ?_
  refine g_icmp_le 32 hX d_Mo_writesNumber_3 (by decide) (by omega) (by omega) (fun h_3 => ?_) (fun h_3 => ?_)
  · rw [if_neg (by omega)] at zd
    exact TAIL M t ht (by omega) ⟨fun _ _ _ => rfl, fun _ _ => rfl⟩ (by unfold dg; rw [if_neg (by omega)])
  · rw [if_pos (by omega)] at zd
    refine g_aload_n hX d_Mo_writesNumber_6 rfl ?_
    refine g_getR hX fl_Mo_19 d_Mo_writesNumber_7 ⟨rfl, by decide⟩ rfl rfl ?_
    refine g_aload_n hX d_Mo_writesNumber_10 rfl ?_
    refine g_getI hX fl_Mo_123 d_Mo_writesNumber_11 6 ⟨rfl, by decide⟩ rfl rfl (fun r_11 => ?_)
    rw [ht.1] at r_11 ⊢
    refine g_bipush hX d_Mo_writesNumber_14 rfl ?_
    refine g_iload_n hX d_Mo_writesNumber_16 rfl ?_
    refine g_bipush hX d_Mo_writesNumber_17 rfl ?_
    refine g_idiv hX (by omega) (by decide) d_Mo_writesNumber_19 ?_
    refine g_iadd hX d_Mo_writesNumber_20 ?_
    refine g_iast hX d_Mo_writesNumber_21 ⟨rfl, by decide⟩ (by omega) (by omega) ?_
    refine g_aload_n hX d_Mo_writesNumber_22 rfl ?_
    refine g_dup hX d_Mo_writesNumber_23 rfl ?_
    refine g_getI hX fl_Mo_123 d_Mo_writesNumber_24 6 ⟨rfl, by decide⟩ rfl rfl (fun r_24 => ?_)
    rw [mU_cell (by decide), ht.1] at r_24 ⊢
    refine g_iconst hX d_Mo_writesNumber_27 ?_
    refine g_iadd hX d_Mo_writesNumber_28 ?_
    refine g_putI hX fl_Mo_123 d_Mo_writesNumber_29 6 ⟨rfl, by decide⟩ rfl rfl (fun q h => by cases h; rfl) rfl (by omega) ?_
    exact TAIL _ (t ++ [48 + v / 10]) (ht.snoc (by omega)) (by simp; omega) TF.put (by unfold dg; rw [if_pos (by omega), List.append_assoc]; rfl)
theorem c_Mo_write {Γ : gX} {l : Launch} {M : mI} {σ : sG} {w : Int} (h : MR M σ) (ok : OkV σ) (hw : iR w) : Cn Γ l i_Mo_write R0 51 [.ref (gb Γ + 37), vI w] M (pI (fun r M' => r = (q_write σ w).1 ∧ MR M' (q_write σ w).2 ∧ ∀ a, a < 37 → M' a = M a)) := by
  refine cn_intro (L := [some (.ref (gb Γ + 37)), some (vI w), none, none]) yo_Mo_write.1 rfl (Nat.le_of_ble_eq_true rfl) rfl (fun X hX hR => ?_)
  obtain ⟨v1, v2, v3, v4, v5⟩ := id h.1
  have zl : ((bgs σ.1.1 σ.1.2.1 σ.1.2.2 w).length : Int) ≤ σ.1.1 := bgs_len σ.1.1 σ.1.2.1 σ.1.2.2 w v2
  have zt := flat_len (fun p => pTx_len (σ := σ) w p) (bgs σ.1.1 σ.1.2.1 σ.1.2.2 w)
  have zt2 : ((wTx σ w).length : Int) ≤ 420 := by rw [show wTx σ w = ((bgs σ.1.1 σ.1.2.1 σ.1.2.2 w).map (pTx σ w)).flatten from rfl]; omega
  have LOOP2 : ∀ (q i : Nat) (t : List Int) (s : Int) (M1 M0 : mI), (0 ≤ w ∧ w ≤ 2) → (wTx σ w).length ≤ 120 → i + q = (bgs σ.1.1 σ.1.2.1 σ.1.2.2 w).length → t ++ ((((bgs σ.1.1 σ.1.2.1 σ.1.2.2 w).drop i).map (pTx σ w)).flatten) = wTx σ w → Nt M1 t → MR M0 σ → LM M0 σ.1.1 σ.1.2.1 σ.1.2.2 w → (∀ a, a < 37 → M0 a = M a) → TF M1 M0 → G Γ X 4 (R0, 51, 0, 0) 90 [some (.ref (gb Γ + 37)), some (vI w), some (vI s), some (vI i)] [] M1 := by
    intro q
    induction q with
    | zero =>
      intro i t s M1 M0 hw2 hlen hq hs ht e1 e3 e4 e5
      have e10 : M1 37 10 = ((bgs σ.1.1 σ.1.2.1 σ.1.2.2 w).length : Int) := by rw [e5.2 10 (by decide)]; exact e3.1
      rw [List.drop_eq_nil_of_le (by omega)] at hs
      simp at hs
      subst hs
      refine g_iload_n hX d_Mo_write_90 rfl ?_
      refine g_aload_n hX d_Mo_write_91 rfl ?_
      refine g_getI hX fl_Mo_98 d_Mo_write_92 10 ⟨rfl, by decide⟩ rfl rfl (fun r_92 => ?_)
      refine g_icmp_ge 175 hX d_Mo_write_95 (by decide) (by omega) (by omega) (fun h_95 => ?_) (fun h_95 => ?_)
      · refine g_aload_n hX d_Mo_write_175 rfl ?_
        refine g_getI hX fl_Mo_123 d_Mo_write_176 6 ⟨rfl, by decide⟩ rfl rfl (fun r_176 => ?_)
        refine g_iret hX hR d_Mo_write_179 (by omega) ?_
        unfold q_write; rw [if_neg (fun z => z hw2), if_neg (by omega)]; exact ⟨ht.1, MR_text e1 e5 ht, fun a u => by rw [e5.1 a (by omega) (by omega)]; exact e4 a u⟩
      · exact absurd h_95 (by omega)
    | succ q ih =>
      intro i t s M1 M0 hw2 hlen hq hs ht e1 e3 e4 e5
      have e10 : M1 37 10 = ((bgs σ.1.1 σ.1.2.1 σ.1.2.2 w).length : Int) := by rw [e5.2 10 (by decide)]; exact e3.1
      have zA := e3.at ok.1.2.1 (k := i) (by omega)
      obtain ⟨hd1, hd2⟩ := drop_at (l := bgs σ.1.1 σ.1.2.1 σ.1.2.2 w) (i := i) (by omega)
      rw [hd1] at hs
      simp only [List.map_cons, List.flatten_cons] at hs
      generalize hb : (bgs σ.1.1 σ.1.2.1 σ.1.2.2 w).getD i 0 = b at hd1 hd2 hs zA
      have zb := zA.2.2.2
      have m42 : M1 42 i = b := by rw [e5.1 42 (by decide) (by decide)]; exact zA.1
      have m43 : M1 43 i = pL σ.1.1 σ.1.2.1 σ.1.2.2 w b := by rw [e5.1 43 (by decide) (by decide)]; exact zA.2.1
      have m44 : M1 44 i = pD σ.1.1 σ.1.2.1 σ.1.2.2 w b := by rw [e5.1 44 (by decide) (by decide)]; exact zA.2.2.1
      have zbb := pL_b (x := σ.1.2.1) ok.1.2.1 w b zb.1 zb.2
      have zx := ok.1.2.2 b zb.1 zb.2
      have y4 := (e1.1.to (e5.1 38 (by decide) (by decide))).2.2.2.1 b zb.1 zb.2
      have zlen : t.length + (pTx σ w b).length ≤ 120 := by
        have zz := congrArg List.length hs
        simp only [List.length_append] at zz
        omega
      refine g_iload_n hX d_Mo_write_90 rfl ?_
      refine g_aload_n hX d_Mo_write_91 rfl ?_
      refine g_getI hX fl_Mo_98 d_Mo_write_92 10 ⟨rfl, by decide⟩ rfl rfl (fun r_92 => ?_)
      refine g_icmp_ge 175 hX d_Mo_write_95 (by decide) (by omega) (by omega) (fun h_95 => ?_) (fun h_95 => ?_)
      · exact absurd h_95 (by omega)
      · refine g_aload_n hX d_Mo_write_98 rfl ?_
        refine g_getR hX fl_Mo_28 d_Mo_write_99 ⟨rfl, by decide⟩ rfl rfl ?_
        refine g_iload_n hX d_Mo_write_102 rfl ?_
        refine g_iald hX d_Mo_write_103 ⟨rfl, by decide⟩ (by omega) (fun r_103 => ?_)
        rw [m44] at r_103 ⊢
        refine g_if_ne 131 hX d_Mo_write_104 (by decide) (by first | omega | exact ite_iR) (fun h_104 => ?_) (fun h_104 => ?_)
        · have zp : pTx σ w b = cpS (pD σ.1.1 σ.1.2.1 σ.1.2.2 w b) (pL σ.1.1 σ.1.2.1 σ.1.2.2 w b) := by (unfold pTx; rw [if_neg (by exact h_104)])
          rw [zp] at hs zlen
          rw [cpS_len] at zlen
          refine g_aload_n hX d_Mo_write_131 rfl ?_
          refine g_bipush hX d_Mo_write_132 rfl ?_
          refine g_callV hX yo_Mo_writesSign q_891 d_Mo_write_134 (c_Mo_writesSign ht (by omega) (by omega)) rfl rfl ⟨rfl, by decide⟩ rfl (by decide) (Nat.le_of_ble_eq_true rfl) ⟨Nat.zero_le _, Nat.zero_le _⟩ (k_void fun M_134 hp_134 => ?_)
          obtain ⟨a1, b1⟩ := hp_134
          refine g_aload_n hX d_Mo_write_137 rfl ?_
          refine g_aload_n hX d_Mo_write_138 rfl ?_
          refine g_getR hX fl_Mo_28 d_Mo_write_139 ⟨rfl, by decide⟩ rfl rfl ?_
          refine g_iload_n hX d_Mo_write_142 rfl ?_
          refine g_iald hX d_Mo_write_143 ⟨rfl, by decide⟩ (by omega) (fun r_143 => ?_)
          rw [b1.1 44 (by decide) (by decide), m44] at r_143 ⊢
          refine g_callV hX yo_Mo_writesNumber q_895 d_Mo_write_144 (c_Mo_writesNumber a1 (by simp; omega) (by omega)) rfl rfl ⟨rfl, by decide⟩ rfl (by decide) (Nat.le_of_ble_eq_true rfl) ⟨Nat.zero_le _, Nat.zero_le _⟩ (k_void fun M_144 hp_144 => ?_)
          obtain ⟨a2, b2⟩ := hp_144
          refine g_aload_n hX d_Mo_write_147 rfl ?_
          refine g_bipush hX d_Mo_write_148 rfl ?_
          refine g_callV hX yo_Mo_writesSign q_891 d_Mo_write_150 (c_Mo_writesSign a2 (by simp; omega) (by omega)) rfl rfl ⟨rfl, by decide⟩ rfl (by decide) (Nat.le_of_ble_eq_true rfl) ⟨Nat.zero_le _, Nat.zero_le _⟩ (k_void fun M_150 hp_150 => ?_)
          obtain ⟨a3, b3⟩ := hp_150
          refine g_aload_n hX d_Mo_write_153 rfl ?_
          refine g_aload_n hX d_Mo_write_154 rfl ?_
          refine g_getR hX fl_Mo_25 d_Mo_write_155 ⟨rfl, by decide⟩ rfl rfl ?_
          refine g_iload_n hX d_Mo_write_158 rfl ?_
          refine g_iald hX d_Mo_write_159 ⟨rfl, by decide⟩ (by omega) (fun r_159 => ?_)
          rw [b3.1 43 (by decide) (by decide), b2.1 43 (by decide) (by decide), b1.1 43 (by decide) (by decide), m43] at r_159 ⊢
          refine g_callV hX yo_Mo_writesNumber q_895 d_Mo_write_160 (c_Mo_writesNumber a3 (by simp; omega) (by omega)) rfl rfl ⟨rfl, by decide⟩ rfl (by decide) (Nat.le_of_ble_eq_true rfl) ⟨Nat.zero_le _, Nat.zero_le _⟩ (k_void fun M_160 hp_160 => ?_)
          obtain ⟨a4, b4⟩ := hp_160
          refine g_aload_n hX d_Mo_write_163 rfl ?_
          refine g_bipush hX d_Mo_write_164 rfl ?_
          refine g_callV hX yo_Mo_writesSign q_891 d_Mo_write_166 (c_Mo_writesSign a4 (by simp; omega) (by omega)) rfl rfl ⟨rfl, by decide⟩ rfl (by decide) (Nat.le_of_ble_eq_true rfl) ⟨Nat.zero_le _, Nat.zero_le _⟩ (k_void fun M_166 hp_166 => ?_)
          obtain ⟨p1, b5⟩ := hp_166
          have p2 := b5.trans (b4.trans (b3.trans (b2.trans b1)))
          refine g_iinc hX d_Mo_write_169 rfl (by decide) ?_
          refine g_goto 90 hX d_Mo_write_172 (by decide) ?_
          rw [show (i : Int) + 1 = ((i + 1 : Nat) : Int) by omega]
          exact ih (i + 1) _ _ _ M0 hw2 hlen (by omega) (by rw [← hs]; simp [cpS, List.append_assoc]) p1 e1 e3 e4 (p2.trans e5)
        · have zp : pTx σ w b = [97 + σ.1.2.1 b] := by (unfold pTx; rw [if_pos (by exact h_104)])
          rw [zp] at hs zlen
          simp only [List.length_singleton] at zlen
          refine g_aload_n hX d_Mo_write_107 rfl ?_
          refine g_bipush hX d_Mo_write_108 rfl ?_
          refine g_aload_n hX d_Mo_write_110 rfl ?_
          refine g_getR hX fl_Mo_7 d_Mo_write_111 ⟨rfl, by decide⟩ rfl rfl ?_
          refine g_bipush hX d_Mo_write_114 rfl ?_
          refine g_aload_n hX d_Mo_write_116 rfl ?_
          refine g_getR hX fl_Mo_22 d_Mo_write_117 ⟨rfl, by decide⟩ rfl rfl ?_
          refine g_iload_n hX d_Mo_write_120 rfl ?_
          refine g_iald hX d_Mo_write_121 ⟨rfl, by decide⟩ (by omega) (fun r_121 => ?_)
          rw [m42] at r_121 ⊢
          refine g_iadd hX d_Mo_write_122 ?_
          refine g_iald hX d_Mo_write_123 ⟨rfl, by decide⟩ (by omega) (fun r_123 => ?_)
          rw [y4] at r_123 ⊢
          refine g_iadd hX d_Mo_write_124 ?_
          refine g_callV hX yo_Mo_writesSign q_891 d_Mo_write_125 (c_Mo_writesSign ht (by omega) (by omega)) rfl rfl ⟨rfl, by decide⟩ rfl (by decide) (Nat.le_of_ble_eq_true rfl) ⟨Nat.zero_le _, Nat.zero_le _⟩ (k_void fun M_125 hp_125 => ?_)
          obtain ⟨p1, p2⟩ := hp_125
          refine g_goto 169 hX d_Mo_write_128 (by decide) ?_
          refine g_iinc hX d_Mo_write_169 rfl (by decide) ?_
          refine g_goto 90 hX d_Mo_write_172 (by decide) ?_
          rw [show (i : Int) + 1 = ((i + 1 : Nat) : Int) by omega]
          exact ih (i + 1) _ _ _ M0 hw2 hlen (by omega) (by rw [← hs]; simp [cpS, List.append_assoc]) p1 e1 e3 e4 (p2.trans e5)
  have LOOP : ∀ (q i : Nat) (s : Int) (M1 : mI), (0 ≤ w ∧ w ≤ 2) → LM M1 σ.1.1 σ.1.2.1 σ.1.2.2 w → FrL M1 M → i + q = (bgs σ.1.1 σ.1.2.1 σ.1.2.2 w).length → s + (((((bgs σ.1.1 σ.1.2.1 σ.1.2.2 w).drop i).map (pTx σ w)).flatten).length : Int) = ((wTx σ w).length : Int) → 0 ≤ s → G Γ X 4 (R0, 51, 0, 0) 22 [some (.ref (gb Γ + 37)), some (vI w), some (vI s), some (vI i)] [] M1 := by
    intro q
    induction q with
    | zero =>
      intro i s M1 hw2 hL hF hq hs h0
      have e10 := hL.1
      rw [List.drop_eq_nil_of_le (by omega)] at hs
      simp at hs
      refine g_iload_n hX d_Mo_write_22 rfl ?_
      refine g_aload_n hX d_Mo_write_23 rfl ?_
      refine g_getI hX fl_Mo_98 d_Mo_write_24 10 ⟨rfl, by decide⟩ rfl rfl (fun r_24 => ?_)
      refine g_icmp_ge 73 hX d_Mo_write_27 (by decide) (by omega) (by omega) (fun h_27 => ?_) (fun h_27 => ?_)
      · refine g_iload_n hX d_Mo_write_73 rfl ?_
        refine g_bipush hX d_Mo_write_74 rfl ?_
        refine g_icmp_le 83 hX d_Mo_write_76 (by decide) (by omega) (by omega) (fun h_76 => ?_) (fun h_76 => ?_)
        · refine g_aload_n hX d_Mo_write_83 rfl ?_
          refine g_iconst hX d_Mo_write_84 ?_
          refine g_putI hX fl_Mo_123 d_Mo_write_85 6 ⟨rfl, by decide⟩ rfl rfl (fun q h => by cases h; rfl) rfl (by omega) ?_
          refine g_iconst hX d_Mo_write_88 ?_
          refine g_istore_n hX d_Mo_write_89 (by decide) ?_
          exact LOOP2 _ 0 [] _ _ M1 hw2 (by omega) (Nat.zero_add _) (by unfold wTx; simp) ⟨by rw [mU_self]; rfl, Nat.zero_le _, fun i b hb => by simp at hb⟩ (hF.mr h) hL hF.lo ⟨fun a u v => mU_cell u, fun j u => mU_slot u⟩
        · refine g_sipush hX d_Mo_write_79 rfl ?_
          refine g_iret hX hR d_Mo_write_82 (by omega) ?_
          unfold q_write; rw [if_neg (fun z => z hw2), if_pos (by omega)]; exact ⟨rfl, hF.mr h, hF.lo⟩
      · exact absurd h_27 (by omega)
    | succ q ih =>
      intro i s M1 hw2 hL hF hq hs h0
      have e10 := hL.1
      have zA := hL.at ok.1.2.1 (k := i) (by omega)
      obtain ⟨hd1, hd2⟩ := drop_at (l := bgs σ.1.1 σ.1.2.1 σ.1.2.2 w) (i := i) (by omega)
      rw [hd1] at hs
      simp only [List.map_cons, List.flatten_cons, List.length_append] at hs
      generalize hb : (bgs σ.1.1 σ.1.2.1 σ.1.2.2 w).getD i 0 = b at hd1 hd2 hs zA
      obtain ⟨-, m43, m44, zb⟩ := zA
      have zbb := pL_b (x := σ.1.2.1) ok.1.2.1 w b zb.1 zb.2
      refine g_iload_n hX d_Mo_write_22 rfl ?_
      refine g_aload_n hX d_Mo_write_23 rfl ?_
      refine g_getI hX fl_Mo_98 d_Mo_write_24 10 ⟨rfl, by decide⟩ rfl rfl (fun r_24 => ?_)
      refine g_icmp_ge 73 hX d_Mo_write_27 (by decide) (by omega) (by omega) (fun h_27 => ?_) (fun h_27 => ?_)
      · exact absurd h_27 (by omega)
      · refine g_iload_n hX d_Mo_write_30 rfl ?_
        refine g_aload_n hX d_Mo_write_31 rfl ?_
        refine g_getR hX fl_Mo_28 d_Mo_write_32 ⟨rfl, by decide⟩ rfl rfl ?_
        refine g_iload_n hX d_Mo_write_35 rfl ?_
        refine g_iald hX d_Mo_write_36 ⟨rfl, by decide⟩ (by omega) (fun r_36 => ?_)
        rw [m44] at r_36 ⊢
        refine g_if_ne 44 hX d_Mo_write_37 (by decide) (by first | omega | exact ite_iR) (fun h_37 => ?_) (fun h_37 => ?_)
        · have zx : pTx σ w b = cpS (pD σ.1.1 σ.1.2.1 σ.1.2.2 w b) (pL σ.1.1 σ.1.2.1 σ.1.2.2 w b) := by (unfold pTx; rw [if_neg (by exact h_37)])
          rw [zx, cpS_len] at hs
          refine g_iconst hX d_Mo_write_44 ?_
          refine g_aload_n hX d_Mo_write_45 rfl ?_
          refine g_getR hX fl_Mo_28 d_Mo_write_46 ⟨rfl, by decide⟩ rfl rfl ?_
          refine g_iload_n hX d_Mo_write_49 rfl ?_
          refine g_iald hX d_Mo_write_50 ⟨rfl, by decide⟩ (by omega) (fun r_50 => ?_)
          rw [m44] at r_50 ⊢
          refine g_callS hX yo_Mo_digits q_888 d_Mo_write_51 (c_Mo_digits (by omega)) rfl rfl (by decide) (Nat.le_of_ble_eq_true rfl) ⟨Nat.zero_le _, Nat.zero_le _⟩ (k_int fun r_51 M_51 ir_51 hp_51 => ?_)
          obtain ⟨er_51, eM_51⟩ := hp_51; replace er_51 := er_51.symm; replace eM_51 := eM_51.symm; subst er_51; subst eM_51
          refine g_iadd hX d_Mo_write_54 ?_
          refine g_aload_n hX d_Mo_write_55 rfl ?_
          refine g_getR hX fl_Mo_25 d_Mo_write_56 ⟨rfl, by decide⟩ rfl rfl ?_
          refine g_iload_n hX d_Mo_write_59 rfl ?_
          refine g_iald hX d_Mo_write_60 ⟨rfl, by decide⟩ (by omega) (fun r_60 => ?_)
          rw [m43] at r_60 ⊢
          refine g_callS hX yo_Mo_digits q_888 d_Mo_write_61 (c_Mo_digits (by omega)) rfl rfl (by decide) (Nat.le_of_ble_eq_true rfl) ⟨Nat.zero_le _, Nat.zero_le _⟩ (k_int fun r_61 M_61 ir_61 hp_61 => ?_)
          obtain ⟨er_61, eM_61⟩ := hp_61; replace er_61 := er_61.symm; replace eM_61 := eM_61.symm; subst er_61; subst eM_61
          refine g_iadd hX d_Mo_write_64 ?_
          refine g_iadd hX d_Mo_write_65 ?_
          refine g_istore_n hX d_Mo_write_66 (by decide) ?_
          refine g_iinc hX d_Mo_write_67 rfl (by decide) ?_
          refine g_goto 22 hX d_Mo_write_70 (by decide) ?_
          rw [show (i : Int) + 1 = ((i + 1 : Nat) : Int) by omega]
          exact ih (i + 1) _ _ hw2 hL hF (by omega) (by omega) (by omega)
        · have zx : pTx σ w b = [97 + σ.1.2.1 b] := by (unfold pTx; rw [if_pos (by exact h_37)])
          rw [zx] at hs
          simp only [List.length_singleton] at hs
          refine g_iconst hX d_Mo_write_40 ?_
          refine g_goto 65 hX d_Mo_write_41 (by decide) ?_
          refine g_iadd hX d_Mo_write_65 ?_
          refine g_istore_n hX d_Mo_write_66 (by decide) ?_
          refine g_iinc hX d_Mo_write_67 rfl (by decide) ?_
          refine g_goto 22 hX d_Mo_write_70 (by decide) ?_
          rw [show (i : Int) + 1 = ((i + 1 : Nat) : Int) by omega]
          exact ih (i + 1) _ _ hw2 hL hF (by omega) (by omega) (by omega)
  refine g_iload_n hX d_Mo_write_0 rfl ?_
  refine g_iconst hX d_Mo_write_1 ?_
  refine g_iconst hX d_Mo_write_2 ?_
  refine g_callS hX yo_Mo_in q_732 d_Mo_write_3 (c_Mo_in hw (by omega) (by omega)) rfl rfl (by decide) (Nat.le_of_ble_eq_true rfl) ⟨Nat.zero_le _, Nat.zero_le _⟩ (k_int fun r_3 M_3 ir_3 hp_3 => ?_)
  obtain ⟨er_3, eM_3⟩ := hp_3; replace er_3 := er_3.symm; replace eM_3 := eM_3.symm; subst er_3; subst eM_3
  refine g_if_ne 13 hX d_Mo_write_6 (by decide) (by first | omega | exact ite_iR) (fun h_6 => ?_) (fun h_6 => ?_)
  · have z1 := ite_ne h_6
    refine g_aload_n hX d_Mo_write_13 rfl ?_
    refine g_iload_n hX d_Mo_write_14 rfl ?_
    refine g_callV hX yo_Mo_lays q_805 d_Mo_write_15 (c_Mo_lays h.1 ok.1.2.1 z1) rfl rfl ⟨rfl, by decide⟩ rfl (by decide) (Nat.le_of_ble_eq_true rfl) ⟨Nat.zero_le _, Nat.zero_le _⟩ (k_void fun M_15 hp_15 => ?_)
    obtain ⟨hL, hF⟩ := hp_15
    refine g_iconst hX d_Mo_write_18 ?_
    refine g_istore_n hX d_Mo_write_19 (by decide) ?_
    refine g_iconst hX d_Mo_write_20 ?_
    refine g_istore_n hX d_Mo_write_21 (by decide) ?_
    exact LOOP _ 0 0 _ z1 hL hF (Nat.zero_add _) (by unfold wTx; simp) (Int.le_refl _)
  · have z1 := ite_eq h_6
    refine g_sipush hX d_Mo_write_9 rfl ?_
    refine g_iret hX hR d_Mo_write_12 (by omega) ?_
    unfold q_write; rw [if_pos z1]; exact ⟨rfl, h, fun _ _ => rfl⟩
