/-! the reference: counts, the state kept, the text typed -/
section GBW
variable {Γ : gX} {X : XT} {nL h : Nat} {Z : ZT} {pc : Nat} {L : List (Option Value)} {st : List Value} {M : mI} {cc : ByteArray} {own : String}
theorem g_iand {x y : Int32} {z : Int} (hX : Cx Γ X nL h cc own) (hdg : decode cc pc = .ok (.iand, 1)) (he : x &&& y = Int32.ofInt z) (k : G Γ X nL Z (pc + 1) L (vI z :: st) M) : G Γ X nL Z pc L (.int y :: .int x :: st) M := by
  intro H locs ls h1 h2 h3 h4
  have k' := k H locs ls h1 h2 h3 h4
  unfold vI at k'
  rw [← he] at k'
  exact lv_iand hX.1 hX.2.1 hdg k'
theorem g_ior {x y : Int32} {z : Int} (hX : Cx Γ X nL h cc own) (hdg : decode cc pc = .ok (.ior, 1)) (he : x ||| y = Int32.ofInt z) (k : G Γ X nL Z (pc + 1) L (vI z :: st) M) : G Γ X nL Z pc L (.int y :: .int x :: st) M := by
  intro H locs ls h1 h2 h3 h4
  have k' := k H locs ls h1 h2 h3 h4
  unfold vI at k'
  rw [← he] at k'
  exact lv_ior hX.1 hX.2.1 hdg k'
theorem g_ishl {x y : Int32} {z : Int} (hX : Cx Γ X nL h cc own) (hdg : decode cc pc = .ok (.ishl, 1)) (he : x <<< (y &&& 31) = Int32.ofInt z) (k : G Γ X nL Z (pc + 1) L (vI z :: st) M) : G Γ X nL Z pc L (.int y :: .int x :: st) M := by
  intro H locs ls h1 h2 h3 h4
  have k' := k H locs ls h1 h2 h3 h4
  unfold vI at k'
  rw [← he] at k'
  exact lv_ishl hX.1 hX.2.1 hdg k'
theorem g_ishr {x y : Int32} {z : Int} (hX : Cx Γ X nL h cc own) (hdg : decode cc pc = .ok (.ishr, 1)) (he : x >>> (y &&& 31) = Int32.ofInt z) (k : G Γ X nL Z (pc + 1) L (vI z :: st) M) : G Γ X nL Z pc L (.int y :: .int x :: st) M := by
  intro H locs ls h1 h2 h3 h4
  have k' := k H locs ls h1 h2 h3 h4
  unfold vI at k'
  rw [← he] at k'
  exact lv_ishr hX.1 hX.2.1 hdg k'
end GBW
def orN (m v : Nat) : Nat := if m / 2 ^ v % 2 = 1 then m else m + 2 ^ v
theorem bm_shr : ∀ (v : Fin 8) (m : Fin 256), Int32.ofInt ((m.val : Nat) : Int) >>> (Int32.ofInt ((v.val : Nat) : Int) &&& 31) = Int32.ofInt ((m.val / 2 ^ v.val : Nat) : Int) := by decide +kernel
theorem bm_and : ∀ (m : Fin 256), Int32.ofInt ((m.val : Nat) : Int) &&& Int32.ofInt 1 = Int32.ofInt ((m.val % 2 : Nat) : Int) := by decide +kernel
theorem bm_shl : ∀ (v : Fin 8), Int32.ofInt 1 <<< (Int32.ofInt ((v.val : Nat) : Int) &&& 31) = Int32.ofInt ((2 ^ v.val : Nat) : Int) := by decide +kernel
theorem bm_or : ∀ (v : Fin 8) (m : Fin 256), Int32.ofInt ((m.val : Nat) : Int) ||| Int32.ofInt ((2 ^ v.val : Nat) : Int) = Int32.ofInt ((orN m.val v.val : Nat) : Int) := by decide +kernel
theorem bm_bit : ∀ (v w : Fin 8) (m : Fin 256), orN m.val v.val < 256 ∧ orN m.val v.val / 2 ^ w.val % 2 = if w.val = v.val then 1 else m.val / 2 ^ w.val % 2 := by decide +kernel
theorem unlV_step (x : Int → Int) (k : Nat) (V : Nat) (h0 : 0 ≤ x k) : unlV x (k + 1) V = unlV x k V + (if x k < V ∧ hasF x (x k) k = false then 1 else 0) := by
  induction V with
  | zero => rw [if_neg (by omega)]; rfl
  | succ V ih =>
    show unlV x (k + 1) V + b2i (hasF x V k || decide (x k = V)) = unlV x k V + b2i (hasF x V k) + _
    rw [ih]
    by_cases he : x k = V
    · rw [decide_eq_true he, Bool.or_true, if_neg (by omega), he]
      cases hh : hasF x V k
      · rw [if_pos ⟨by omega, rfl⟩]; rfl
      · rw [if_neg (fun z => absurd z.2 (by decide))]; omega
    · rw [decide_eq_false he, Bool.or_false]
      by_cases hl : x k < V ∧ hasF x (x k) k = false
      · rw [if_pos hl, if_pos ⟨by omega, hl.2⟩]; omega
      · rw [if_neg hl, if_neg (fun z => hl ⟨by omega, z.2⟩)]; omega
def BM (x : Int → Int) (k m : Nat) : Prop := m < 256 ∧ ∀ v : Nat, v < 8 → m / 2 ^ v % 2 = if hasF x v k = true then 1 else 0
theorem BM.step {x : Int → Int} {k m v : Nat} (h : BM x k m) (hx : x k = v) (hv : v < 8) : BM x (k + 1) (orN m v) := by
  refine ⟨(bm_bit ⟨v, hv⟩ ⟨0, by omega⟩ ⟨m, h.1⟩).1, fun w hw => ?_⟩
  rw [(bm_bit ⟨v, hv⟩ ⟨w, hw⟩ ⟨m, h.1⟩).2, h.2 w hw]
  show _ = if (hasF x w k || decide (x k = w)) = true then 1 else 0
  by_cases e : w = v
  · subst e
    rw [decide_eq_true hx, Bool.or_true]
    exact (if_pos rfl).trans (if_pos rfl).symm
  · rw [decide_eq_false (show ¬ x k = w by omega), Bool.or_false]
    show (if w = v then 1 else _) = _
    rw [if_neg e]
theorem c_Mo_unlike {Γ : gX} {l : Launch} {M : mI} {n : Int} {x g : Int → Int} (hv : Ns M n x g) (hx : ∀ j, 0 ≤ j → j < n → 0 ≤ x j ∧ x j ≤ 7) : Cn Γ l i_Mo_unlike R0 51 [.ref (gb Γ + 37)] M (pI (fun r M' => r = unl n x ∧ M' = M)) := by
  refine cn_intro (L := [some (.ref (gb Γ + 37)), none, none, none]) yo_Mo_unlike.1 rfl (Nat.le_of_ble_eq_true rfl) rfl (fun X hX hR => ?_)
  obtain ⟨v1, v2, v3, v4, v5⟩ := id hv
  have LOOP : ∀ (q k m : Nat) (c : Int), (n - k).toNat = q → (k : Int) ≤ n → BM x k m → c = unlV x k 8 → G Γ X 4 (R0, 51, 0, 0) 6 [some (.ref (gb Γ + 37)), some (vI m), some (vI c), some (vI k)] [] M := by
    intro q
    induction q with
    | zero =>
      intro k m c hq hk hB hc
      have zb := unlV_bound x k 8
      refine g_iload_n hX d_Mo_unlike_6 rfl ?_
      refine g_aload_n hX d_Mo_unlike_7 rfl ?_
      refine g_getR hX fl_Mo_7 d_Mo_unlike_8 ⟨rfl, by decide⟩ rfl rfl ?_
      refine g_iconst hX d_Mo_unlike_11 ?_
      refine g_iald hX d_Mo_unlike_12 ⟨rfl, by decide⟩ (by omega) (fun r_12 => ?_)
      refine g_icmp_ge 60 hX d_Mo_unlike_13 (by decide) (by omega) (by omega) (fun h_13 => ?_) (fun h_13 => ?_)
      · refine g_iload_n hX d_Mo_unlike_60 rfl ?_
        refine g_iret hX hR d_Mo_unlike_61 (by omega) ?_
        refine ⟨?_, rfl⟩; unfold unl; rw [show n.toNat = k by omega]; exact hc
      · exact absurd h_13 (by omega)
    | succ q ih =>
      intro k m c hq hk hB hc
      have zb := unlV_bound x k 8
      have zx := hx k (by omega) (by omega)
      have hm := hB.1
      obtain ⟨v, hv1⟩ : ∃ v : Nat, x k = v := ⟨(x k).toNat, by omega⟩
      have e6 : M 38 (6 + k) = v := (v4 k (by omega) (by omega)).trans hv1
      have zs := unlV_step x k 8 zx.1
      have zbit := hB.2 v (by omega)
      refine g_iload_n hX d_Mo_unlike_6 rfl ?_
      refine g_aload_n hX d_Mo_unlike_7 rfl ?_
      refine g_getR hX fl_Mo_7 d_Mo_unlike_8 ⟨rfl, by decide⟩ rfl rfl ?_
      refine g_iconst hX d_Mo_unlike_11 ?_
      refine g_iald hX d_Mo_unlike_12 ⟨rfl, by decide⟩ (by omega) (fun r_12 => ?_)
      refine g_icmp_ge 60 hX d_Mo_unlike_13 (by decide) (by omega) (by omega) (fun h_13 => ?_) (fun h_13 => ?_)
      · exact absurd h_13 (by omega)
      · refine g_iload_n hX d_Mo_unlike_16 rfl ?_
        refine g_iload_n hX d_Mo_unlike_17 rfl ?_
        refine g_aload_n hX d_Mo_unlike_18 rfl ?_
        refine g_getR hX fl_Mo_7 d_Mo_unlike_19 ⟨rfl, by decide⟩ rfl rfl ?_
        refine g_bipush hX d_Mo_unlike_22 rfl ?_
        refine g_iload_n hX d_Mo_unlike_24 rfl ?_
        refine g_iadd hX d_Mo_unlike_25 ?_
        refine g_iald hX d_Mo_unlike_26 ⟨rfl, by decide⟩ (by omega) (fun r_26 => ?_)
        rw [e6] at r_26 ⊢
        refine g_ishr hX d_Mo_unlike_27 (z := ((m / 2 ^ v : Nat) : Int)) (bm_shr ⟨v, by omega⟩ ⟨m, hm⟩) ?_
        refine g_iconst hX d_Mo_unlike_28 ?_
        refine g_iand hX d_Mo_unlike_29 (z := ((m / 2 ^ v % 2 : Nat) : Int)) (bm_and ⟨m / 2 ^ v, Nat.lt_of_le_of_lt (Nat.div_le_self _ _) hm⟩) ?_
        refine g_if_ne 37 hX d_Mo_unlike_30 (by decide) (by first | omega | exact ite_iR) (fun h_30 => ?_) (fun h_30 => ?_)
        · have zh : hasF x (x k) k = true := by (rcases Bool.eq_false_or_eq_true (hasF x v k) with zz | zz; (rw [hv1]; exact zz); (rw [zz, if_neg (by decide)] at zbit; omega))
          rw [zh, if_neg (fun z => absurd z.2 (by decide))] at zs
          refine g_iconst hX d_Mo_unlike_37 ?_
          refine g_iadd hX d_Mo_unlike_38 ?_
          refine g_istore_n hX d_Mo_unlike_39 (by decide) ?_
          refine g_iload_n hX d_Mo_unlike_40 rfl ?_
          refine g_iconst hX d_Mo_unlike_41 ?_
          refine g_aload_n hX d_Mo_unlike_42 rfl ?_
          refine g_getR hX fl_Mo_7 d_Mo_unlike_43 ⟨rfl, by decide⟩ rfl rfl ?_
          refine g_bipush hX d_Mo_unlike_46 rfl ?_
          refine g_iload_n hX d_Mo_unlike_48 rfl ?_
          refine g_iadd hX d_Mo_unlike_49 ?_
          refine g_iald hX d_Mo_unlike_50 ⟨rfl, by decide⟩ (by omega) (fun r_50 => ?_)
          rw [e6] at r_50 ⊢
          refine g_ishl hX d_Mo_unlike_51 (z := ((2 ^ v : Nat) : Int)) (bm_shl ⟨v, by omega⟩) ?_
          refine g_ior hX d_Mo_unlike_52 (z := ((orN m v : Nat) : Int)) (bm_or ⟨v, by omega⟩ ⟨m, hm⟩) ?_
          refine g_istore_n hX d_Mo_unlike_53 (by decide) ?_
          refine g_iinc hX d_Mo_unlike_54 rfl (by decide) ?_
          refine g_goto 6 hX d_Mo_unlike_57 (by decide) ?_
          rw [show (k : Int) + 1 = ((k + 1 : Nat) : Int) by omega]
          exact ih (k + 1) _ _ (by omega) (by omega) (hB.step hv1 (by omega)) (by omega)
        · have zh : hasF x (x k) k = false := by (rcases Bool.eq_false_or_eq_true (hasF x v k) with zz | zz; (rw [zz, if_pos rfl] at zbit; omega); (rw [hv1]; exact zz))
          rw [zh, if_pos ⟨by omega, rfl⟩] at zs
          refine g_iconst hX d_Mo_unlike_33 ?_
          refine g_goto 38 hX d_Mo_unlike_34 (by decide) ?_
          refine g_iadd hX d_Mo_unlike_38 ?_
          refine g_istore_n hX d_Mo_unlike_39 (by decide) ?_
          refine g_iload_n hX d_Mo_unlike_40 rfl ?_
          refine g_iconst hX d_Mo_unlike_41 ?_
          refine g_aload_n hX d_Mo_unlike_42 rfl ?_
          refine g_getR hX fl_Mo_7 d_Mo_unlike_43 ⟨rfl, by decide⟩ rfl rfl ?_
          refine g_bipush hX d_Mo_unlike_46 rfl ?_
          refine g_iload_n hX d_Mo_unlike_48 rfl ?_
          refine g_iadd hX d_Mo_unlike_49 ?_
          refine g_iald hX d_Mo_unlike_50 ⟨rfl, by decide⟩ (by omega) (fun r_50 => ?_)
          rw [e6] at r_50 ⊢
          refine g_ishl hX d_Mo_unlike_51 (z := ((2 ^ v : Nat) : Int)) (bm_shl ⟨v, by omega⟩) ?_
          refine g_ior hX d_Mo_unlike_52 (z := ((orN m v : Nat) : Int)) (bm_or ⟨v, by omega⟩ ⟨m, hm⟩) ?_
          refine g_istore_n hX d_Mo_unlike_53 (by decide) ?_
          refine g_iinc hX d_Mo_unlike_54 rfl (by decide) ?_
          refine g_goto 6 hX d_Mo_unlike_57 (by decide) ?_
          rw [show (k : Int) + 1 = ((k + 1 : Nat) : Int) by omega]
          exact ih (k + 1) _ _ (by omega) (by omega) (hB.step hv1 (by omega)) (by omega)
  refine g_iconst hX d_Mo_unlike_0 ?_
  refine g_istore_n hX d_Mo_unlike_1 (by decide) ?_
  refine g_iconst hX d_Mo_unlike_2 ?_
  refine g_istore_n hX d_Mo_unlike_3 (by decide) ?_
  refine g_iconst hX d_Mo_unlike_4 ?_
  refine g_istore_n hX d_Mo_unlike_5 (by decide) ?_
  exact LOOP _ 0 0 0 rfl (by omega) ⟨by omega, fun v hv => by rw [Nat.zero_div]; rfl⟩ rfl
theorem c_Mo_count {Γ : gX} {l : Launch} {M : mI} {σ : sG} {k : Int} (h : MR M σ) (ok : OkV σ) (hk : iR k) : Cn Γ l i_Mo_count R0 51 [.ref (gb Γ + 37), vI k] M (pI (fun r M' => r = q_count σ k ∧ MR M' σ ∧ ∀ a, a < 37 → M' a = M a)) := by
  refine cn_intro (L := [some (.ref (gb Γ + 37)), some (vI k)]) yo_Mo_count.1 rfl (Nat.le_of_ble_eq_true rfl) rfl (fun X hX hR => ?_)
  obtain ⟨v1, v2, v3, v4, v5⟩ := id h.1
  refine g_iload_n hX d_Mo_count_0 rfl ?_
  by_cases z_1_0 : k = 0
  · refine g_tswI 0 40 hX d_Mo_count_1 (by omega) (by omega) (by omega) rfl (by decide) ?_
    refine g_aload_n hX d_Mo_count_40 rfl ?_
    refine g_getR hX fl_Mo_7 d_Mo_count_41 ⟨rfl, by decide⟩ rfl rfl ?_
    refine g_iconst hX d_Mo_count_44 ?_
    refine g_iald hX d_Mo_count_45 ⟨rfl, by decide⟩ (by omega) (fun r_45 => ?_)
    refine g_iret hX hR d_Mo_count_46 (by omega) ?_
    refine ⟨?_, h, fun _ _ => rfl⟩; unfold q_count; rw [if_pos (by omega)]; exact v1
  by_cases z_1_1 : k = 1
  · refine g_tswI 1 47 hX d_Mo_count_1 (by omega) (by omega) (by omega) rfl (by decide) ?_
    refine g_aload_n hX d_Mo_count_47 rfl ?_
    refine g_callV hX yo_Mo_unlike q_853 d_Mo_count_48 (c_Mo_unlike h.1 ok.1.2.2) rfl rfl ⟨rfl, by decide⟩ rfl (by decide) (Nat.le_of_ble_eq_true rfl) ⟨Nat.zero_le _, Nat.zero_le _⟩ (k_int fun r_48 M_48 ir_48 hp_48 => ?_)
    obtain ⟨er_48, eM_48⟩ := hp_48; replace er_48 := er_48.symm; replace eM_48 := eM_48.symm; subst er_48; subst eM_48
    refine g_iret hX hR d_Mo_count_51 (by omega) ?_
    refine ⟨?_, h, fun _ _ => rfl⟩; unfold q_count; rw [if_neg (by omega), if_pos (by omega)]
  by_cases z_1_2 : k = 2
  · refine g_tswI 2 52 hX d_Mo_count_1 (by omega) (by omega) (by omega) rfl (by decide) ?_
    refine g_aload_n hX d_Mo_count_52 rfl ?_
    refine g_callV hX yo_Mo_cheapest q_857 d_Mo_count_53 (c_Mo_cheapest h ok) rfl rfl ⟨rfl, by decide⟩ rfl (by decide) (Nat.le_of_ble_eq_true rfl) ⟨Nat.zero_le _, Nat.zero_le _⟩ (k_int fun r_53 M_53 ir_53 hp_53 => ?_)
    obtain ⟨er, hm, hlo⟩ := hp_53
    refine g_iret hX hR d_Mo_count_56 (by omega) ?_
    refine ⟨?_, hm, hlo⟩; unfold q_count; rw [if_neg (by omega), if_neg (by omega), if_pos (by omega)]; exact er
  by_cases z_1_3 : k = 3
  · refine g_tswI 3 57 hX d_Mo_count_1 (by omega) (by omega) (by omega) rfl (by decide) ?_
    refine g_aload_n hX d_Mo_count_57 rfl ?_
    refine g_getI hX fl_Mo_49 d_Mo_count_58 4 ⟨rfl, by decide⟩ rfl rfl (fun r_58 => ?_)
    refine g_iret hX hR d_Mo_count_61 (by omega) ?_
    refine ⟨?_, h, fun _ _ => rfl⟩; unfold q_count; rw [if_neg (by omega), if_neg (by omega), if_neg (by omega), if_pos (by omega)]; exact h.2.1.1
  by_cases z_1_4 : k = 4
  · refine g_tswI 4 62 hX d_Mo_count_1 (by omega) (by omega) (by omega) rfl (by decide) ?_
    refine g_aload_n hX d_Mo_count_62 rfl ?_
    refine g_getI hX fl_Mo_123 d_Mo_count_63 6 ⟨rfl, by decide⟩ rfl rfl (fun r_63 => ?_)
    refine g_iret hX hR d_Mo_count_66 (by omega) ?_
    refine ⟨?_, h, fun _ _ => rfl⟩; unfold q_count; rw [if_neg (by omega), if_neg (by omega), if_neg (by omega), if_neg (by omega), if_pos (by omega)]; exact h.2.2.2.2.1
  by_cases z_1_5 : k = 5
  · refine g_tswI 5 67 hX d_Mo_count_1 (by omega) (by omega) (by omega) rfl (by decide) ?_
    refine g_aload_n hX d_Mo_count_67 rfl ?_
    refine g_getI hX fl_Mo_126 d_Mo_count_68 3 ⟨rfl, by decide⟩ rfl rfl (fun r_68 => ?_)
    refine g_if_eq 78 hX d_Mo_count_71 (by decide) (by first | omega | exact ite_iR) (fun h_71 => ?_) (fun h_71 => ?_)
    · refine g_iconst hX d_Mo_count_78 ?_
      refine g_iret hX hR d_Mo_count_79 (by omega) ?_
      refine ⟨?_, h, fun _ _ => rfl⟩; unfold q_count; rw [if_neg (by omega), if_neg (by omega), if_neg (by omega), if_neg (by omega), if_neg (by omega), if_pos (by omega)]; have zk := h.2.2.1; by_cases zi : σ.2.2.1.isSome = true
      · rw [if_pos zi] at zk ⊢; first | done | omega
      · rw [if_neg zi] at zk ⊢; first | done | omega
    · refine g_iconst hX d_Mo_count_74 ?_
      refine g_goto 79 hX d_Mo_count_75 (by decide) ?_
      refine g_iret hX hR d_Mo_count_79 (by omega) ?_
      refine ⟨?_, h, fun _ _ => rfl⟩; unfold q_count; rw [if_neg (by omega), if_neg (by omega), if_neg (by omega), if_neg (by omega), if_neg (by omega), if_pos (by omega)]; have zk := h.2.2.1; by_cases zi : σ.2.2.1.isSome = true
      · rw [if_pos zi] at zk ⊢; first | done | omega
      · rw [if_neg zi] at zk ⊢; first | done | omega
  refine g_tswO 80 hX d_Mo_count_1 (by omega) (by omega) (by decide) ?_
  refine g_iload_n hX d_Mo_count_80 rfl ?_
  refine g_bipush hX d_Mo_count_81 rfl ?_
  refine g_bipush hX d_Mo_count_83 rfl ?_
  refine g_callS hX yo_Mo_in q_732 d_Mo_count_85 (c_Mo_in hk (by omega) (by omega)) rfl rfl (by decide) (Nat.le_of_ble_eq_true rfl) ⟨Nat.zero_le _, Nat.zero_le _⟩ (k_int fun r_85 M_85 ir_85 hp_85 => ?_)
  obtain ⟨er_85, eM_85⟩ := hp_85; replace er_85 := er_85.symm; replace eM_85 := eM_85.symm; subst er_85; subst eM_85
  refine g_if_eq 105 hX d_Mo_count_88 (by decide) (by first | omega | exact ite_iR) (fun h_88 => ?_) (fun h_88 => ?_)
  · have z1 := ite_eq h_88
    refine g_sipush hX d_Mo_count_105 rfl ?_
    refine g_iret hX hR d_Mo_count_108 (by omega) ?_
    refine ⟨?_, h, fun _ _ => rfl⟩; unfold q_count; rw [if_neg (by omega), if_neg (by omega), if_neg (by omega), if_neg (by omega), if_neg (by omega), if_neg (by omega)]; first | (rw [if_pos z1]; done) | (rw [if_neg z1]; done)
  · have z1 := ite_ne h_88
    refine g_aload_n hX d_Mo_count_91 rfl ?_
    refine g_getR hX fl_Mo_7 d_Mo_count_92 ⟨rfl, by decide⟩ rfl rfl ?_
    refine g_iconst hX d_Mo_count_95 ?_
    refine g_iload_n hX d_Mo_count_96 rfl ?_
    refine g_iadd hX d_Mo_count_97 ?_
    refine g_bipush hX d_Mo_count_98 rfl ?_
    refine g_isub hX d_Mo_count_100 ?_
    refine g_iald hX d_Mo_count_101 ⟨rfl, by decide⟩ (by omega) (fun r_101 => ?_)
    rw [show 1 + k - 10 = 1 + (k - 10) by omega, v5 (k - 10) (by omega) (by omega)] at r_101 ⊢
    refine g_goto 108 hX d_Mo_count_102 (by decide) ?_
    refine g_iret hX hR d_Mo_count_108 (by omega) ?_
    refine ⟨?_, h, fun _ _ => rfl⟩; unfold q_count; rw [if_neg (by omega), if_neg (by omega), if_neg (by omega), if_neg (by omega), if_neg (by omega), if_neg (by omega)]; first | (rw [if_pos z1]; done) | (rw [if_neg z1]; done)
theorem c_Mo_keep {Γ : gX} {l : Launch} {M : mI} {σ : sG} (h : MR M σ) : Cn Γ l i_Mo_keep R0 51 [.ref (gb Γ + 37)] M (pI (fun r M' => r = (q_keep σ).1 ∧ MR M' (q_keep σ).2 ∧ ∀ a, a < 37 → M' a = M a)) := by
  refine cn_intro (L := [some (.ref (gb Γ + 37))]) yo_Mo_keep.1 rfl (Nat.le_of_ble_eq_true rfl) rfl (fun X hX hR => ?_)
  obtain ⟨v1, v2, v3, v4, v5⟩ := id h.1
  refine g_aload_n hX d_Mo_keep_0 rfl ?_
  refine g_getR hX fl_Mo_7 d_Mo_keep_1 ⟨rfl, by decide⟩ rfl rfl ?_
  refine g_aload_n hX d_Mo_keep_4 rfl ?_
  refine g_getR hX fl_Mo_16 d_Mo_keep_5 ⟨rfl, by decide⟩ rfl rfl ?_
  refine g_callS hX yo_Mo_copies q_865 d_Mo_keep_8 (c_Mo_copies (f := 38) (t := 40) rfl rfl ⟨by decide, by decide⟩ (by decide)) rfl rfl (by decide) (Nat.le_of_ble_eq_true rfl) ⟨Nat.zero_le _, Nat.zero_le _⟩ (k_void fun M_8 hp_8 => ?_)
  obtain ⟨p1, p2⟩ := hp_8
  refine g_aload_n hX d_Mo_keep_11 rfl ?_
  refine g_iconst hX d_Mo_keep_12 ?_
  refine g_putZ hX fl_Mo_126 d_Mo_keep_13 3 ⟨rfl, by decide⟩ rfl rfl (fun q h => by cases h; rfl) rfl (by decide) ?_
  refine g_aload_n hX d_Mo_keep_16 rfl ?_
  refine g_getR hX fl_Mo_7 d_Mo_keep_17 ⟨rfl, by decide⟩ rfl rfl ?_
  refine g_iconst hX d_Mo_keep_20 ?_
  refine g_iald hX d_Mo_keep_21 ⟨rfl, by decide⟩ (by omega) (fun r_21 => ?_)
  rw [mU_cell (by decide), p2 38 (by decide), v1] at r_21 ⊢
  refine g_iret hX hR d_Mo_keep_22 (by omega) ?_
  refine ⟨rfl, ⟨h.1.to (by rw [mU_cell (by decide)]; exact p2 38 (by decide)), h.2.1.to (by rw [mU_slot (by decide), p2 37 (by decide)]) (by rw [mU_cell (by decide)]; exact p2 39 (by decide)), by rw [mU_self]; rfl, fun s hs => ?_, h.2.2.2.2.to (by rw [mU_slot (by decide), p2 37 (by decide)]) (by rw [mU_cell (by decide)]; exact p2 41 (by decide))⟩, fun a u => by rw [mU_cell (by omega)]; exact p2 a (by omega)⟩; have es : σ.1 = s := (by injection hs); subst es; exact ⟨by rw [mU_cell (by decide), p1 0 (by decide) (by decide)]; exact v1, v2, v3, fun j u v => by rw [mU_cell (by decide), p1 _ (by omega) (by omega), Int.zero_add]; exact v4 j u v, fun j u v => by rw [mU_cell (by decide), p1 _ (by omega) (by omega), Int.zero_add]; exact v5 j u v⟩
theorem c_Mo_restore {Γ : gX} {l : Launch} {M : mI} {σ : sG} (h : MR M σ) : Cn Γ l i_Mo_restore R0 51 [.ref (gb Γ + 37)] M (pI (fun r M' => r = (q_restore σ).1 ∧ MR M' (q_restore σ).2 ∧ ∀ a, a < 37 → M' a = M a)) := by
  refine cn_intro (L := [some (.ref (gb Γ + 37))]) yo_Mo_restore.1 rfl (Nat.le_of_ble_eq_true rfl) rfl (fun X hX hR => ?_)
  obtain ⟨v1, v2, v3, v4, v5⟩ := id h.1
  have zk := h.2.2.1
  refine g_aload_n hX d_Mo_restore_0 rfl ?_
  refine g_getI hX fl_Mo_126 d_Mo_restore_1 3 ⟨rfl, by decide⟩ rfl rfl (fun r_1 => ?_)
  refine g_if_ne 11 hX d_Mo_restore_4 (by decide) (by first | omega | exact ite_iR) (fun h_4 => ?_) (fun h_4 => ?_)
  · obtain ⟨s, hs⟩ : ∃ s, σ.2.2.1 = some s := by (cases he : σ.2.2.1 with | none => (rw [he] at zk; exact absurd zk h_4) | some s => exact ⟨s, rfl⟩)
    refine g_aload_n hX d_Mo_restore_11 rfl ?_
    refine g_callV hX yo_Mo_changes q_735 d_Mo_restore_12 (c_Mo_changes h.2.1 h.1) rfl rfl ⟨rfl, by decide⟩ rfl (by decide) (Nat.le_of_ble_eq_true rfl) ⟨Nat.zero_le _, Nat.zero_le _⟩ (k_void fun M_12 hp_12 => ?_)
    obtain ⟨p1, p2, p3⟩ := hp_12
    have hK : Nr M_12 40 0 s.1 s.2.1 s.2.2 := (h.2.2.2.1 s hs).to (p2 40 (by decide) (by decide))
    obtain ⟨k1, k2, k3, k4, k5⟩ := id hK
    refine g_aload_n hX d_Mo_restore_15 rfl ?_
    refine g_getR hX fl_Mo_16 d_Mo_restore_16 ⟨rfl, by decide⟩ rfl rfl ?_
    refine g_aload_n hX d_Mo_restore_19 rfl ?_
    refine g_getR hX fl_Mo_7 d_Mo_restore_20 ⟨rfl, by decide⟩ rfl rfl ?_
    refine g_callS hX yo_Mo_copies q_865 d_Mo_restore_23 (c_Mo_copies (f := 40) (t := 38) rfl rfl ⟨by decide, by decide⟩ (by decide)) rfl rfl (by decide) (Nat.le_of_ble_eq_true rfl) ⟨Nat.zero_le _, Nat.zero_le _⟩ (k_void fun M_23 hp_23 => ?_)
    obtain ⟨w1, w2⟩ := hp_23
    refine g_aload_n hX d_Mo_restore_26 rfl ?_
    refine g_getR hX fl_Mo_7 d_Mo_restore_27 ⟨rfl, by decide⟩ rfl rfl ?_
    refine g_iconst hX d_Mo_restore_30 ?_
    refine g_iald hX d_Mo_restore_31 ⟨rfl, by decide⟩ (by omega) (fun r_31 => ?_)
    rw [w1 0 (by decide) (by decide), k1] at r_31 ⊢
    refine g_iret hX hR d_Mo_restore_32 (by omega) ?_
    rw [q_restore_some hs]; exact ⟨rfl, MR_rec h ⟨by rw [w1 0 (by decide) (by decide)]; exact k1, k2, k3, fun j u v => by rw [w1 _ (by omega) (by omega), ← Int.zero_add (6 + j)]; exact k4 j u v, fun j u v => by rw [w1 _ (by omega) (by omega), ← Int.zero_add (1 + j)]; exact k5 j u v⟩ (p1.to (by rw [w2 37 (by decide)]) (w2 39 (by decide))) (fun a u v => by rw [w2 a (by omega)]; exact p2 a (by omega) (by omega)) (by rw [w2 37 (by decide)]; exact p3 3 (by decide)) (by rw [w2 37 (by decide)]; exact p3 6 (by decide)), fun a u => by rw [w2 a (by omega)]; exact p2 a (by omega) (by omega)⟩
  · have hs : σ.2.2.1 = none := by (cases he : σ.2.2.1 with | none => rfl | some s => (rw [he] at zk; have zk2 : M 37 3 = 1 := zk; omega))
    refine g_sipush hX d_Mo_restore_7 rfl ?_
    refine g_iret hX hR d_Mo_restore_10 (by omega) ?_
    rw [q_restore_none hs]; exact ⟨rfl, h, fun _ _ => rfl⟩
theorem c_Mo_undo {Γ : gX} {l : Launch} {M : mI} {σ : sG} (h : MR M σ) : Cn Γ l i_Mo_undo R0 51 [.ref (gb Γ + 37)] M (pI (fun r M' => r = (q_undo σ).1 ∧ MR M' (q_undo σ).2 ∧ ∀ a, a < 37 → M' a = M a)) := by
  refine cn_intro (L := [some (.ref (gb Γ + 37)), none]) yo_Mo_undo.1 rfl (Nat.le_of_ble_eq_true rfl) rfl (fun X hX hR => ?_)
  obtain ⟨z1, z2, z3⟩ := id h.2.1
  have LOOP : ∀ (q : Nat) (i : Int) (M1 : mI) (t : List sS) (s : sS), σ.2.1 = t ++ [s] → (66 - i).toNat = q → 0 ≤ i → i ≤ 66 → (∀ j, 0 ≤ j → j < i → M1 38 j = M 39 (66 * t.length + j)) → (∀ a, a ≠ 37 → a ≠ 38 → M1 a = M a) → M1 37 4 = t.length → (∀ j, j ≠ 4 → M1 37 j = M 37 j) → G Γ X 2 (R0, 51, 0, 0) 23 [some (.ref (gb Γ + 37)), some (vI i)] [] M1 := by
    intro q
    induction q with
    | zero =>
      intro i M1 t s ht hq h0 h1 h2 h3 h4 h5
      have hlt : σ.2.1.length = t.length + 1 := by rw [ht]; simp
      obtain ⟨k1, k2, k3, k4, k5⟩ := z3 t.length s (by rw [ht]; simp)
      refine g_iload_n hX d_Mo_undo_23 rfl ?_
      refine g_bipush hX d_Mo_undo_24 rfl ?_
      refine g_icmp_ge 55 hX d_Mo_undo_26 (by decide) (by omega) (by omega) (fun h_26 => ?_) (fun h_26 => ?_)
      · refine g_aload_n hX d_Mo_undo_55 rfl ?_
        refine g_getI hX fl_Mo_49 d_Mo_undo_56 4 ⟨rfl, by decide⟩ rfl rfl (fun r_56 => ?_)
        rw [h4] at r_56 ⊢
        refine g_iret hX hR d_Mo_undo_59 (by omega) ?_
        rw [q_undo_snoc ht]; refine ⟨rfl, ⟨⟨by rw [h2 0 (by omega) (by omega), Int.add_zero]; exact k1, k2, k3, fun j u v => by rw [h2 _ (by omega) (by have v2 : j < s.1 := v; omega)]; exact k4 j u v, fun j u v => by rw [h2 _ (by omega) (by omega)]; exact k5 j u v⟩, ⟨h4, by show t.length ≤ 4; omega, fun i s' hs' => (z3 i s' (by rw [ht]; rw [List.getElem?_append_left (List.getElem?_eq_some_iff.mp hs').1]; exact hs')).to (h3 39 (by decide) (by decide))⟩, by rw [h5 3 (by decide)]; exact h.2.2.1, fun s' hs' => (h.2.2.2.1 s' hs').to (h3 40 (by decide) (by decide)), h.2.2.2.2.to (h5 6 (by decide)) (h3 41 (by decide) (by decide))⟩, fun a u => h3 a (by omega) (by omega)⟩
      · exact absurd h_26 (by omega)
    | succ q ih =>
      intro i M1 t s ht hq h0 h1 h2 h3 h4 h5
      have hlt : σ.2.1.length = t.length + 1 := by rw [ht]; simp
      refine g_iload_n hX d_Mo_undo_23 rfl ?_
      refine g_bipush hX d_Mo_undo_24 rfl ?_
      refine g_icmp_ge 55 hX d_Mo_undo_26 (by decide) (by omega) (by omega) (fun h_26 => ?_) (fun h_26 => ?_)
      · exact absurd h_26 (by omega)
      · refine g_aload_n hX d_Mo_undo_29 rfl ?_
        refine g_getR hX fl_Mo_7 d_Mo_undo_30 ⟨rfl, by decide⟩ rfl rfl ?_
        refine g_iload_n hX d_Mo_undo_33 rfl ?_
        refine g_aload_n hX d_Mo_undo_34 rfl ?_
        refine g_getR hX fl_Mo_13 d_Mo_undo_35 ⟨rfl, by decide⟩ rfl rfl ?_
        refine g_bipush hX d_Mo_undo_38 rfl ?_
        refine g_aload_n hX d_Mo_undo_40 rfl ?_
        refine g_getI hX fl_Mo_49 d_Mo_undo_41 4 ⟨rfl, by decide⟩ rfl rfl (fun r_41 => ?_)
        rw [h4] at r_41 ⊢
        refine g_imul hX d_Mo_undo_44 ?_
        refine g_iload_n hX d_Mo_undo_45 rfl ?_
        refine g_iadd hX d_Mo_undo_46 ?_
        refine g_iald hX d_Mo_undo_47 ⟨rfl, by decide⟩ (by omega) (fun r_47 => ?_)
        refine g_iast hX d_Mo_undo_48 ⟨rfl, by decide⟩ (by omega) (by omega) ?_
        refine g_iinc hX d_Mo_undo_49 rfl (by decide) ?_
        refine g_goto 23 hX d_Mo_undo_52 (by decide) ?_
        refine ih (i + 1) _ t s ht (by omega) (by omega) (by omega) (fun j u v => ?_) (fun a u v => by rw [mU_cell v]; exact h3 a u v) (by rw [mU_cell (by decide)]; exact h4) (fun j u => by rw [mU_cell (by decide)]; exact h5 j u)
        by_cases hj : j = i
        · subst hj; rw [mU_self, h3 39 (by decide) (by decide)]
        · rw [mU_slot hj]; exact h2 j u (by omega)
  refine g_aload_n hX d_Mo_undo_0 rfl ?_
  refine g_getI hX fl_Mo_49 d_Mo_undo_1 4 ⟨rfl, by decide⟩ rfl rfl (fun r_1 => ?_)
  refine g_if_ne 11 hX d_Mo_undo_4 (by decide) (by first | omega | exact ite_iR) (fun h_4 => ?_) (fun h_4 => ?_)
  · obtain ⟨t, s, ht⟩ : ∃ t s, σ.2.1 = t ++ [s] := ⟨σ.2.1.dropLast, σ.2.1.getLast (fun z => h_4 (by rw [z1, z]; rfl)), (List.dropLast_concat_getLast _).symm⟩
    have hlt : σ.2.1.length = t.length + 1 := by rw [ht]; simp
    refine g_aload_n hX d_Mo_undo_11 rfl ?_
    refine g_dup hX d_Mo_undo_12 rfl ?_
    refine g_getI hX fl_Mo_49 d_Mo_undo_13 4 ⟨rfl, by decide⟩ rfl rfl (fun r_13 => ?_)
    refine g_iconst hX d_Mo_undo_16 ?_
    refine g_isub hX d_Mo_undo_17 ?_
    refine g_putI hX fl_Mo_49 d_Mo_undo_18 4 ⟨rfl, by decide⟩ rfl rfl (fun q h => by cases h; rfl) rfl (by omega) ?_
    refine g_iconst hX d_Mo_undo_21 ?_
    refine g_istore_n hX d_Mo_undo_22 (by decide) ?_
    exact LOOP _ 0 _ t s ht rfl (by omega) (by omega) (fun j u v => by omega) (fun a u v => mU_cell u) (by rw [mU_self]; omega) (fun j u => mU_slot u)
  · have hs : σ.2.1 = [] := List.eq_nil_of_length_eq_zero (by omega)
    refine g_sipush hX d_Mo_undo_7 rfl ?_
    refine g_iret hX hR d_Mo_undo_10 (by omega) ?_
    rw [q_undo_nil hs]; exact ⟨rfl, h, fun _ _ => rfl⟩
theorem c_Mo_type {Γ : gX} {l : Launch} {M : mI} {σ : sG} {c : Int} (h : MR M σ) (hc : iR c) : Cn Γ l i_Mo_type R0 51 [.ref (gb Γ + 37), vI c] M (pI (fun r M' => r = (q_type σ c).1 ∧ MR M' (q_type σ c).2 ∧ ∀ a, a < 37 → M' a = M a)) := by
  refine cn_intro (L := [some (.ref (gb Γ + 37)), some (vI c)]) yo_Mo_type.1 rfl (Nat.le_of_ble_eq_true rfl) rfl (fun X hX hR => ?_)
  obtain ⟨t1, t2, t3⟩ := id h.2.2.2.2
  refine g_iload_n hX d_Mo_type_0 rfl ?_
  refine g_bipush hX d_Mo_type_1 rfl ?_
  refine g_bipush hX d_Mo_type_3 rfl ?_
  refine g_callS hX yo_Mo_in q_732 d_Mo_type_5 (c_Mo_in hc (by omega) (by omega)) rfl rfl (by decide) (Nat.le_of_ble_eq_true rfl) ⟨Nat.zero_le _, Nat.zero_le _⟩ (k_int fun r_5 M_5 ir_5 hp_5 => ?_)
  obtain ⟨er_5, eM_5⟩ := hp_5; replace er_5 := er_5.symm; replace eM_5 := eM_5.symm; subst er_5; subst eM_5
  refine g_if_ne 15 hX d_Mo_type_8 (by decide) (by first | omega | exact ite_iR) (fun h_8 => ?_) (fun h_8 => ?_)
  · have z1 := ite_ne h_8
    refine g_aload_n hX d_Mo_type_15 rfl ?_
    refine g_getI hX fl_Mo_123 d_Mo_type_16 6 ⟨rfl, by decide⟩ rfl rfl (fun r_16 => ?_)
    refine g_bipush hX d_Mo_type_19 rfl ?_
    refine g_icmp_ne 28 hX d_Mo_type_21 (by decide) (by omega) (by omega) (fun h_21 => ?_) (fun h_21 => ?_)
    · refine g_aload_n hX d_Mo_type_28 rfl ?_
      refine g_getR hX fl_Mo_19 d_Mo_type_29 ⟨rfl, by decide⟩ rfl rfl ?_
      refine g_aload_n hX d_Mo_type_32 rfl ?_
      refine g_getI hX fl_Mo_123 d_Mo_type_33 6 ⟨rfl, by decide⟩ rfl rfl (fun r_33 => ?_)
      rw [t1] at r_33 ⊢
      refine g_iload_n hX d_Mo_type_36 rfl ?_
      refine g_iast hX d_Mo_type_37 ⟨rfl, by decide⟩ (by omega) (by omega) ?_
      refine g_aload_n hX d_Mo_type_38 rfl ?_
      refine g_dup hX d_Mo_type_39 rfl ?_
      refine g_getI hX fl_Mo_123 d_Mo_type_40 6 ⟨rfl, by decide⟩ rfl rfl (fun r_40 => ?_)
      rw [mU_cell (by decide), t1] at r_40 ⊢
      refine g_iconst hX d_Mo_type_43 ?_
      refine g_iadd hX d_Mo_type_44 ?_
      refine g_putI hX fl_Mo_123 d_Mo_type_45 6 ⟨rfl, by decide⟩ rfl rfl (fun q h => by cases h; rfl) rfl (by omega) ?_
      refine g_aload_n hX d_Mo_type_48 rfl ?_
      refine g_getI hX fl_Mo_123 d_Mo_type_49 6 ⟨rfl, by decide⟩ rfl rfl (fun r_49 => ?_)
      rw [mU_self] at r_49 ⊢
      refine g_iret hX hR d_Mo_type_52 (by omega) ?_
      unfold q_type; rw [if_neg (fun z => z z1), if_neg (by omega)]; refine ⟨rfl, ⟨h.1.to (by rw [mU_cell (by decide), mU_cell (by decide)]), h.2.1.to (by rw [mU_slot (by decide), mU_cell (by decide)]) (by rw [mU_cell (by decide), mU_cell (by decide)]), by rw [mU_slot (by decide), mU_cell (by decide)]; exact h.2.2.1, fun s' hs' => (h.2.2.2.1 s' hs').to (by rw [mU_cell (by decide), mU_cell (by decide)]), ⟨by rw [mU_self]; simp, by simp; omega, fun i b hb => ?_⟩⟩, fun a u => by rw [mU_cell (by omega), mU_cell (by omega)]⟩; rw [mU_cell (by decide)]; exact row_snoc t3 rfl i b hb
    · refine g_sipush hX d_Mo_type_24 rfl ?_
      refine g_iret hX hR d_Mo_type_27 (by omega) ?_
      unfold q_type; rw [if_neg (fun z => z z1), if_pos (by omega)]; exact ⟨rfl, h, fun _ _ => rfl⟩
  · have z1 := ite_eq h_8
    refine g_sipush hX d_Mo_type_11 rfl ?_
    refine g_iret hX hR d_Mo_type_14 (by omega) ?_
    unfold q_type; rw [if_pos z1]; exact ⟨rfl, h, fun _ _ => rfl⟩
theorem c_Mo_clearText {Γ : gX} {l : Launch} {M : mI} {σ : sG} (h : MR M σ) : Cn Γ l i_Mo_clearText R0 51 [.ref (gb Γ + 37)] M (pI (fun r M' => r = (q_clearText σ).1 ∧ MR M' (q_clearText σ).2 ∧ ∀ a, a < 37 → M' a = M a)) := by
  refine cn_intro (L := [some (.ref (gb Γ + 37)), none]) yo_Mo_clearText.1 rfl (Nat.le_of_ble_eq_true rfl) rfl (fun X hX hR => ?_)
  obtain ⟨t1, t2, t3⟩ := id h.2.2.2.2
  refine g_aload_n hX d_Mo_clearText_0 rfl ?_
  refine g_getI hX fl_Mo_123 d_Mo_clearText_1 6 ⟨rfl, by decide⟩ rfl rfl (fun r_1 => ?_)
  refine g_istore_n hX d_Mo_clearText_4 (by decide) ?_
  refine g_aload_n hX d_Mo_clearText_5 rfl ?_
  refine g_iconst hX d_Mo_clearText_6 ?_
  refine g_putI hX fl_Mo_123 d_Mo_clearText_7 6 ⟨rfl, by decide⟩ rfl rfl (fun q h => by cases h; rfl) rfl (by omega) ?_
  refine g_iload_n hX d_Mo_clearText_10 rfl ?_
  refine g_iret hX hR d_Mo_clearText_11 (by omega) ?_
  exact ⟨t1, ⟨h.1.to (mU_cell (by decide)), h.2.1.to (mU_slot (by decide)) (mU_cell (by decide)), by rw [mU_slot (by decide)]; exact h.2.2.1, fun s' hs' => (h.2.2.2.1 s' hs').to (mU_cell (by decide)), ⟨by rw [mU_self]; rfl, Nat.zero_le _, fun i b hb => by (have hb2 : ([] : List Int)[i]? = some b := hb; simp at hb2)⟩⟩, fun a u => mU_cell (by omega)⟩
