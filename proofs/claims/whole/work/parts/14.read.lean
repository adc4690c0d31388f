/-! texts: letters and copies; the state of a reading: place, place and reason of the fault, letters -/
def ch (t : List Int) (i : Int) : Int := if i < t.length then t.getD i.toNat 0 else -1
theorem Tv.ch {M : mI} {t : List Int} (h : Tv M t) {i : Int} (hi : 0 ≤ i) : (if i < M 31 1 then M 32 i else -1) = ch t i := by
  obtain ⟨h1, h2, h3⟩ := h
  show _ = (if i < t.length then t.getD i.toNat 0 else -1)
  rw [h1]
  split
  · have zl : t[i.toNat]? = some (t.getD i.toNat 0) := by
      rw [List.getD_eq_getElem?_getD, List.getElem?_eq_getElem (by omega)]; rfl
    have zm := h3 i.toNat _ zl
    rw [show ((i.toNat : Nat) : Int) = i by omega] at zm
    exact zm
  · rfl
def dgt (t : List Int) (i : Int) : Int := if 48 ≤ ch t i ∧ ch t i ≤ 57 then ch t i - 48 else -1
theorem dgt_b (t : List Int) (i : Int) : -1 ≤ dgt t i ∧ dgt t i ≤ 9 := by unfold dgt; split <;> omega
/-- a number -/
def pN (t : List Int) (s : Int × Int × Int) : Int × Int × Int × Int :=
  if s.2.2 ≠ 0 then (-1, s)
  else if dgt t s.1 = -1 then (-1, s.1, s.1, 1)
  else if dgt t s.1 = 0 ∨ dgt t (s.1 + 1) = -1 then (dgt t s.1, s.1 + 1, s.2.1, 0)
  else (dgt t s.1 * 10 + dgt t (s.1 + 1), s.1 + 2, s.2.1, 0)
/-- a sign -/
def pS (t : List Int) (c : Int) (s : Int × Int × Int) : Int × Int × Int :=
  if s.2.2 ≠ 0 then s else if ch t s.1 = c then (s.1 + 1, s.2.1, 0) else (s.1, s.1, 1)
theorem pN_b (t : List Int) (s : Int × Int × Int) : s.1 ≤ (pN t s).2.1 ∧ (pN t s).2.1 ≤ s.1 + 2 ∧ -1 ≤ (pN t s).1 ∧ (pN t s).1 ≤ 99 := by
  have z1 := dgt_b t s.1
  have z2 := dgt_b t (s.1 + 1)
  unfold pN
  split
  · exact ⟨Int.le_refl _, by show s.1 ≤ s.1 + 2; omega, by show (-1 : Int) ≤ -1; omega, by show (-1 : Int) ≤ 99; omega⟩
  · split
    · exact ⟨Int.le_refl _, by show s.1 ≤ s.1 + 2; omega, by show (-1 : Int) ≤ -1; omega, by show (-1 : Int) ≤ 99; omega⟩
    · split
      · exact ⟨by show s.1 ≤ s.1 + 1; omega, by show s.1 + 1 ≤ s.1 + 2; omega, z1.1, by show dgt t s.1 ≤ 99; omega⟩
      · exact ⟨by show s.1 ≤ s.1 + 2; omega, Int.le_refl _, by show -1 ≤ dgt t s.1 * 10 + dgt t (s.1 + 1); omega, by show dgt t s.1 * 10 + dgt t (s.1 + 1) ≤ 99; omega⟩
theorem pS_b (t : List Int) (c : Int) (s : Int × Int × Int) : s.1 ≤ (pS t c s).1 ∧ (pS t c s).1 ≤ s.1 + 1 := by
  unfold pS
  split
  · omega
  · split
    · exact ⟨by show s.1 ≤ s.1 + 1; omega, Int.le_refl _⟩
    · exact ⟨Int.le_refl _, by show s.1 ≤ s.1 + 1; omega⟩
def wrg (g : Int → Int) (d c n : Int) : Int := if ¬ (1 ≤ d ∧ d ≤ min (g 0) n) then 2 else if ¬ (g 1 ≤ c ∧ c ≤ 20) then 3 else if 60 < n + c then 4 else 0
/-- c letters more, each that of d places ahead -/
def cpF (x : Int → Int) (n d : Int) : Nat → Int → Int
  | 0 => x
  | c + 1 => fun j => if j = n + c then cpF x n d c (n + c - d) else cpF x n d c j
abbrev pT : Type := Int × Int × Int × Int × (Int → Int)
def s4C (t : List Int) (i pl : Int) : Int × Int × Int := pS t 41 (pN t (pS t 44 (pN t (i + 1, pl, 0)).2)).2
def dC (t : List Int) (i pl : Int) : Int := (pN t (i + 1, pl, 0)).1
def lC (t : List Int) (i pl : Int) : Int := (pN t (pS t 44 (pN t (i + 1, pl, 0)).2)).1
def pC (t : List Int) (g : Int → Int) (s : pT) : pT :=
  if (s4C t s.1 s.2.1).2.2 ≠ 0 then ((s4C t s.1 s.2.1).1, (s4C t s.1 s.2.1).2.1, (s4C t s.1 s.2.1).2.2, s.2.2.2.1, s.2.2.2.2)
  else if wrg g (dC t s.1 s.2.1) (lC t s.1 s.2.1) s.2.2.2.1 ≠ 0 then ((s4C t s.1 s.2.1).1, s.1, wrg g (dC t s.1 s.2.1) (lC t s.1 s.2.1) s.2.2.2.1, s.2.2.2.1, s.2.2.2.2)
  else ((s4C t s.1 s.2.1).1, (s4C t s.1 s.2.1).2.1, 0, s.2.2.2.1 + lC t s.1 s.2.1, cpF s.2.2.2.2 s.2.2.2.1 (dC t s.1 s.2.1) (lC t s.1 s.2.1).toNat)
def pA (c : Int) (s : pT) : pT :=
  if ¬ (0 ≤ c ∧ c ≤ 7) then (s.1, s.1, 1, s.2.2.2.1, s.2.2.2.2)
  else if 60 ≤ s.2.2.2.1 then (s.1, s.1, 4, s.2.2.2.1, s.2.2.2.2)
  else (s.1 + 1, s.2.1, 0, s.2.2.2.1 + 1, fun j => if j = s.2.2.2.1 then c else s.2.2.2.2 j)
def prs (t : List Int) (g : Int → Int) : Nat → pT → pT
  | 0, s => s
  | k + 1, s => if s.1 < t.length ∧ s.2.2.1 = 0 then prs t g k (if ch t s.1 = 40 then pC t g s else pA (ch t s.1 - 97) s) else s
/-- the whole text, read -/
def prT (t : List Int) (g : Int → Int) : pT := prs t g 120 (0, 0, 0, 0, fun _ => 0)
theorem prs_succ (t : List Int) (g : Int → Int) (k : Nat) (s : pT) : prs t g (k + 1) s = if s.1 < t.length ∧ s.2.2.1 = 0 then prs t g k (if ch t s.1 = 40 then pC t g s else pA (ch t s.1 - 97) s) else s := rfl
theorem prs_stop (t : List Int) (g : Int → Int) (k : Nat) (s : pT) (h : ¬ (s.1 < t.length ∧ s.2.2.1 = 0)) : prs t g k s = s := by
  cases k with
  | zero => rfl
  | succ k => rw [prs_succ, if_neg h]
theorem cpF_succ (x : Int → Int) (n d : Int) (c : Nat) (j : Int) : cpF x n d (c + 1) j = if j = n + c then cpF x n d c (n + c - d) else cpF x n d c j := rfl
theorem cpF_low (x : Int → Int) (n d : Int) (c : Nat) : ∀ j, j < n → cpF x n d c j = x j := by
  induction c with
  | zero => intro j _; rfl
  | succ c ih => intro j hj; rw [cpF_succ, if_neg (by omega)]; exact ih j hj
theorem cpF_back {x : Int → Int} {n d : Int} (hd : 1 ≤ d) (c : Nat) : ∀ j, n ≤ j → j < n + c → cpF x n d c j = cpF x n d c (j - d) := by
  induction c with
  | zero => intro j h1 h2; omega
  | succ c ih =>
    intro j h1 h2
    rw [cpF_succ, cpF_succ x n d c (j - d), if_neg (show ¬ j - d = n + c by omega)]
    by_cases hj : j = n + c
    · rw [if_pos hj, hj]
    · rw [if_neg hj]
      exact ih j h1 (by omega)
theorem cpF_only {x y : Int → Int} {n d : Int} (hd : 1 ≤ d ∧ d ≤ n) (c : Nat) (h1 : ∀ j, 0 ≤ j → j < n → y j = x j) (h2 : ∀ j, n ≤ j → j < n + c → y j = y (j - d)) : ∀ j, 0 ≤ j → j < n + c → y j = cpF x n d c j := by
  intro j h0 hj
  have key : ∀ m : Nat, ∀ j : Int, 0 ≤ j → j < n + c → j.toNat = m → y j = cpF x n d c j := by
    intro m
    induction m using Nat.strongRecOn with
    | ind m ih =>
      intro j h0 hj hm
      by_cases hl : j < n
      · rw [h1 j h0 hl, cpF_low x n d c j hl]
      · rw [h2 j (by omega) hj, cpF_back hd.1 c j (by omega) hj]
        exact ih (j - d).toNat (by omega) (j - d) (by omega) (by omega) rfl
  exact key j.toNat j h0 hj rfl
def Ms (M : mI) (s : Int × Int × Int) : Prop := M 33 3 = s.1 ∧ M 33 5 = s.2.2 ∧ (s.2.2 ≠ 0 → M 33 4 = s.2.1)
theorem c_Reader_hasFault {Γ : gX} {l : Launch} {M : mI} : Cn Γ l i_Reader_hasFault R0 51 [.ref (gb Γ + 33)] M (pI (fun r M' => r = (if M 33 5 = 0 then 0 else 1) ∧ M' = M)) := by
  refine cn_intro (L := [some (.ref (gb Γ + 33))]) yo_Reader_hasFault.1 rfl (Nat.le_of_ble_eq_true rfl) rfl (fun X hX hR => ?_)
  refine g_aload_n hX d_Reader_hasFault_0 rfl ?_
  refine g_getI hX fl_Reader_25 d_Reader_hasFault_1 5 ⟨rfl, by decide⟩ rfl rfl (fun r_1 => ?_)
  refine g_if_eq 11 hX d_Reader_hasFault_4 (by decide) (by omega) (fun h_4 => ?_) (fun h_4 => ?_)
  · refine g_iconst hX d_Reader_hasFault_11 ?_
    refine g_zret hX hR d_Reader_hasFault_12 (by omega) ?_
    exact ⟨by first | rw [if_pos (by omega)] | rw [if_neg (by omega)], rfl⟩
  · refine g_iconst hX d_Reader_hasFault_7 ?_
    refine g_goto 12 hX d_Reader_hasFault_8 (by decide) ?_
    refine g_zret hX hR d_Reader_hasFault_12 (by omega) ?_
    exact ⟨by first | rw [if_pos (by omega)] | rw [if_neg (by omega)], rfl⟩
theorem c_Reader_faultPlace {Γ : gX} {l : Launch} {M : mI} : Cn Γ l i_Reader_faultPlace R0 51 [.ref (gb Γ + 33)] M (pI (fun r M' => r = M 33 4 ∧ M' = M)) := by
  refine cn_intro (L := [some (.ref (gb Γ + 33))]) yo_Reader_faultPlace.1 rfl (Nat.le_of_ble_eq_true rfl) rfl (fun X hX hR => ?_)
  refine g_aload_n hX d_Reader_faultPlace_0 rfl ?_
  refine g_getI hX fl_Reader_22 d_Reader_faultPlace_1 4 ⟨rfl, by decide⟩ rfl rfl (fun r_1 => ?_)
  refine g_iret hX hR d_Reader_faultPlace_4 (by omega) ?_
  exact ⟨rfl, rfl⟩
theorem c_Reader_faultReason {Γ : gX} {l : Launch} {M : mI} : Cn Γ l i_Reader_faultReason R0 51 [.ref (gb Γ + 33)] M (pI (fun r M' => r = M 33 5 ∧ M' = M)) := by
  refine cn_intro (L := [some (.ref (gb Γ + 33))]) yo_Reader_faultReason.1 rfl (Nat.le_of_ble_eq_true rfl) rfl (fun X hX hR => ?_)
  refine g_aload_n hX d_Reader_faultReason_0 rfl ?_
  refine g_getI hX fl_Reader_25 d_Reader_faultReason_1 5 ⟨rfl, by decide⟩ rfl rfl (fun r_1 => ?_)
  refine g_iret hX hR d_Reader_faultReason_4 (by omega) ?_
  exact ⟨rfl, rfl⟩
theorem c_Reader_blame {Γ : gX} {l : Launch} {M : mI} {i w : Int} (hi : iR i) (hw : iR w) : Cn Γ l i_Reader_blame R0 51 [.ref (gb Γ + 33), vI i, vI w] M (pV (fun M' => M' = mU (mU M 33 4 i) 33 5 w)) := by
  refine cn_intro (L := [some (.ref (gb Γ + 33)), some (vI i), some (vI w)]) yo_Reader_blame.1 rfl (Nat.le_of_ble_eq_true rfl) rfl (fun X hX hR => ?_)
  refine g_aload_n hX d_Reader_blame_0 rfl ?_
  refine g_iload_n hX d_Reader_blame_1 rfl ?_
  refine g_putI hX fl_Reader_22 d_Reader_blame_2 4 ⟨rfl, by decide⟩ rfl rfl (fun q h => by cases h; rfl) rfl (by omega) ?_
  refine g_aload_n hX d_Reader_blame_5 rfl ?_
  refine g_iload_n hX d_Reader_blame_6 rfl ?_
  refine g_putI hX fl_Reader_25 d_Reader_blame_7 5 ⟨rfl, by decide⟩ rfl rfl (fun q h => by cases h; rfl) rfl (by omega) ?_
  refine g_vret hX hR d_Reader_blame_10 ?_
  rfl
theorem c_Reader_told {Γ : gX} {l : Launch} {M : mI} : Cn Γ l i_Reader_told R0 51 [.ref (gb Γ + 33)] M (pR Γ (fun o M' => o = 34 ∧ M' = M)) := by
  refine cn_intro (L := [some (.ref (gb Γ + 33))]) yo_Reader_told.1 rfl (Nat.le_of_ble_eq_true rfl) rfl (fun X hX hR => ?_)
  refine g_aload_n hX d_Reader_told_0 rfl ?_
  refine g_getR hX fl_Reader_12 d_Reader_told_1 ⟨rfl, by decide⟩ rfl rfl ?_
  refine g_aret hX hR d_Reader_told_4 ?_
  exact ⟨rfl, rfl⟩
theorem c_Reader_digitAt {Γ : gX} {l : Launch} {M : mI} {t : List Int} {i : Int} (ht : Tv M t) (hi : 0 ≤ i ∧ i < 2147483648) : Cn Γ l i_Reader_digitAt R0 51 [.ref (gb Γ + 33), vI i] M (pI (fun r M' => r = dgt t i ∧ M' = M)) := by
  refine cn_intro (L := [some (.ref (gb Γ + 33)), some (vI i), none]) yo_Reader_digitAt.1 rfl (Nat.le_of_ble_eq_true rfl) rfl (fun X hX hR => ?_)
  refine g_aload_n hX d_Reader_digitAt_0 rfl ?_
  refine g_getR hX fl_Reader_28 d_Reader_digitAt_1 ⟨rfl, by decide⟩ rfl rfl ?_
  refine g_iload_n hX d_Reader_digitAt_4 rfl ?_
  refine g_callV hX yo_Text_characterAt q_597 d_Reader_digitAt_5 (c_Text_characterAt (by have := ht.1; have := ht.2.1; omega) hi) rfl rfl ⟨rfl, by decide⟩ rfl (by decide) (Nat.le_of_ble_eq_true rfl) ⟨Nat.zero_le _, Nat.zero_le _⟩ (k_int fun r_5 M_5 ir_5 hp_5 => ?_)
  obtain ⟨er_5, eM_5⟩ := hp_5; replace er_5 := er_5.symm; replace eM_5 := eM_5.symm; subst er_5; subst eM_5
  rw [ht.ch hi.1] at ir_5 ⊢
  refine g_istore_n hX d_Reader_digitAt_8 (by decide) ?_
  refine g_iload_n hX d_Reader_digitAt_9 rfl ?_
  refine g_bipush hX d_Reader_digitAt_10 rfl ?_
  refine g_bipush hX d_Reader_digitAt_12 rfl ?_
  refine g_callSN (host := "WindowCopies") hX yo_WC_isIn (by unfold nestWs; simp) d_Reader_digitAt_14 (c_WC_isIn (by omega) (by omega) (by omega)) rfl rfl (by decide) (Nat.le_of_ble_eq_true rfl) ⟨Nat.zero_le _, Nat.zero_le _⟩ (k_int fun r_14 M_14 ir_14 hp_14 => ?_)
  obtain ⟨er_14, eM_14⟩ := hp_14; replace er_14 := er_14.symm; replace eM_14 := eM_14.symm; subst er_14; subst eM_14
  refine g_if_eq 27 hX d_Reader_digitAt_17 (by decide) (by split <;> omega) (fun h_17 => ?_) (fun h_17 => ?_)
  · split at h_17; exact absurd h_17 (by decide)
    refine g_iconst hX d_Reader_digitAt_27 ?_
    refine g_iret hX hR d_Reader_digitAt_28 (by omega) ?_
    refine ⟨?_, rfl⟩
    unfold dgt; first | rw [if_pos (by omega)] | rw [if_neg (by omega)]
  · split at h_17; rotate_left; exact absurd rfl h_17
    refine g_iload_n hX d_Reader_digitAt_20 rfl ?_
    refine g_bipush hX d_Reader_digitAt_21 rfl ?_
    refine g_isub hX d_Reader_digitAt_23 ?_
    refine g_goto 28 hX d_Reader_digitAt_24 (by decide) ?_
    refine g_iret hX hR d_Reader_digitAt_28 (by omega) ?_
    refine ⟨?_, rfl⟩
    unfold dgt; first | rw [if_pos (by omega)] | rw [if_neg (by omega)]
theorem c_Reader_takeNumber {Γ : gX} {l : Launch} {M : mI} {t : List Int} {s : Int × Int × Int} (ht : Tv M t) (hs : Ms M s) (hi : 0 ≤ s.1 ∧ s.1 ≤ 200) : Cn Γ l i_Reader_takeNumber R0 51 [.ref (gb Γ + 33)] M (pI (fun r M' => r = (pN t s).1 ∧ Ms M' (pN t s).2 ∧ ∀ a, a ≠ 33 → M' a = M a)) := by
  refine cn_intro (L := [some (.ref (gb Γ + 33)), none, none]) yo_Reader_takeNumber.1 rfl (Nat.le_of_ble_eq_true rfl) rfl (fun X hX hR => ?_)
  obtain ⟨s1, s2, s3⟩ := id hs
  have z1 := dgt_b t s.1
  have z2 := dgt_b t (s.1 + 1)
  refine g_aload_n hX d_Reader_takeNumber_0 rfl ?_
  refine g_callV hX yo_Reader_hasFault q_593 d_Reader_takeNumber_1 c_Reader_hasFault rfl rfl ⟨rfl, by decide⟩ rfl (by decide) (Nat.le_of_ble_eq_true rfl) ⟨Nat.zero_le _, Nat.zero_le _⟩ (k_int fun r_1 M_1 ir_1 hp_1 => ?_)
  obtain ⟨er_1, eM_1⟩ := hp_1; replace er_1 := er_1.symm; replace eM_1 := eM_1.symm; subst er_1; subst eM_1
  refine g_if_eq 9 hX d_Reader_takeNumber_4 (by decide) (by split <;> omega) (fun h_4 => ?_) (fun h_4 => ?_)
  · have z5 : M 33 5 = 0 := by (split at h_4; assumption; exact absurd h_4 (by decide))
    refine g_aload_n hX d_Reader_takeNumber_9 rfl ?_
    refine g_aload_n hX d_Reader_takeNumber_10 rfl ?_
    refine g_getI hX fl_Reader_18 d_Reader_takeNumber_11 3 ⟨rfl, by decide⟩ rfl rfl (fun r_11 => ?_)
    rw [s1] at r_11 ⊢
    refine g_callV hX yo_Reader_digitAt q_610 d_Reader_takeNumber_14 (c_Reader_digitAt ht (by omega)) rfl rfl ⟨rfl, by decide⟩ rfl (by decide) (Nat.le_of_ble_eq_true rfl) ⟨Nat.zero_le _, Nat.zero_le _⟩ (k_int fun r_14 M_14 ir_14 hp_14 => ?_)
    obtain ⟨er_14, eM_14⟩ := hp_14; replace er_14 := er_14.symm; replace eM_14 := eM_14.symm; subst er_14; subst eM_14
    refine g_istore_n hX d_Reader_takeNumber_17 (by decide) ?_
    refine g_iload_n hX d_Reader_takeNumber_18 rfl ?_
    refine g_iconst hX d_Reader_takeNumber_19 ?_
    refine g_icmp_ne 34 hX d_Reader_takeNumber_20 (by decide) (by omega) (by omega) (fun h_20 => ?_) (fun h_20 => ?_)
    · refine g_aload_n hX d_Reader_takeNumber_34 rfl ?_
      refine g_dup hX d_Reader_takeNumber_35 rfl ?_
      refine g_getI hX fl_Reader_18 d_Reader_takeNumber_36 3 ⟨rfl, by decide⟩ rfl rfl (fun r_36 => ?_)
      rw [s1] at r_36 ⊢
      refine g_iconst hX d_Reader_takeNumber_39 ?_
      refine g_iadd hX d_Reader_takeNumber_40 ?_
      refine g_putI hX fl_Reader_18 d_Reader_takeNumber_41 3 ⟨rfl, by decide⟩ rfl rfl (fun q h => by cases h; rfl) rfl (by omega) ?_
      refine g_aload_n hX d_Reader_takeNumber_44 rfl ?_
      refine g_aload_n hX d_Reader_takeNumber_45 rfl ?_
      refine g_getI hX fl_Reader_18 d_Reader_takeNumber_46 3 ⟨rfl, by decide⟩ rfl rfl (fun r_46 => ?_)
      rw [mU_self] at r_46 ⊢
      refine g_callV hX yo_Reader_digitAt q_610 d_Reader_takeNumber_49 (c_Reader_digitAt (t := t) (i := s.1 + 1) (ht.to (by rw [mU_cell (by omega)]) (by rw [mU_cell (by omega)])) (by omega)) rfl rfl ⟨rfl, by decide⟩ rfl (by decide) (Nat.le_of_ble_eq_true rfl) ⟨Nat.zero_le _, Nat.zero_le _⟩ (k_int fun r_49 M_49 ir_49 hp_49 => ?_)
      obtain ⟨er_49, eM_49⟩ := hp_49; replace er_49 := er_49.symm; replace eM_49 := eM_49.symm; subst er_49; subst eM_49
      refine g_istore_n hX d_Reader_takeNumber_52 (by decide) ?_
      refine g_iload_n hX d_Reader_takeNumber_53 rfl ?_
      refine g_if_eq 62 hX d_Reader_takeNumber_54 (by decide) (by omega) (fun h_54 => ?_) (fun h_54 => ?_)
      · refine g_iload_n hX d_Reader_takeNumber_62 rfl ?_
        refine g_iret hX hR d_Reader_takeNumber_63 (by omega) ?_
        unfold pN; rw [if_neg (by omega), if_neg (by omega), if_pos (by omega)]; exact ⟨rfl, ⟨by rw [mU_self], by rw [mU_slot (by omega)]; exact z5, fun z => absurd rfl z⟩, fun a u => by rw [mU_cell u]⟩
      · refine g_iload_n hX d_Reader_takeNumber_57 rfl ?_
        refine g_iconst hX d_Reader_takeNumber_58 ?_
        refine g_icmp_ne 64 hX d_Reader_takeNumber_59 (by decide) (by omega) (by omega) (fun h_59 => ?_) (fun h_59 => ?_)
        · refine g_aload_n hX d_Reader_takeNumber_64 rfl ?_
          refine g_dup hX d_Reader_takeNumber_65 rfl ?_
          refine g_getI hX fl_Reader_18 d_Reader_takeNumber_66 3 ⟨rfl, by decide⟩ rfl rfl (fun r_66 => ?_)
          rw [mU_self] at r_66 ⊢
          refine g_iconst hX d_Reader_takeNumber_69 ?_
          refine g_iadd hX d_Reader_takeNumber_70 ?_
          refine g_putI hX fl_Reader_18 d_Reader_takeNumber_71 3 ⟨rfl, by decide⟩ rfl rfl (fun q h => by cases h; rfl) rfl (by omega) ?_
          refine g_iload_n hX d_Reader_takeNumber_74 rfl ?_
          refine g_bipush hX d_Reader_takeNumber_75 rfl ?_
          refine g_imul hX d_Reader_takeNumber_77 ?_
          refine g_iload_n hX d_Reader_takeNumber_78 rfl ?_
          refine g_iadd hX d_Reader_takeNumber_79 ?_
          refine g_iret hX hR d_Reader_takeNumber_80 (by omega) ?_
          unfold pN; rw [if_neg (by omega), if_neg (by omega), if_neg (by omega)]; exact ⟨rfl, ⟨by rw [mU_self]; show s.1 + 1 + 1 = s.1 + 2; omega, by rw [mU_slot (by omega), mU_slot (by omega)]; exact z5, fun z => absurd rfl z⟩, fun a u => by rw [mU_cell u, mU_cell u]⟩
        · refine g_iload_n hX d_Reader_takeNumber_62 rfl ?_
          refine g_iret hX hR d_Reader_takeNumber_63 (by omega) ?_
          unfold pN; rw [if_neg (by omega), if_neg (by omega), if_pos (by omega)]; exact ⟨rfl, ⟨by rw [mU_self], by rw [mU_slot (by omega)]; exact z5, fun z => absurd rfl z⟩, fun a u => by rw [mU_cell u]⟩
    · refine g_aload_n hX d_Reader_takeNumber_23 rfl ?_
      refine g_aload_n hX d_Reader_takeNumber_24 rfl ?_
      refine g_getI hX fl_Reader_18 d_Reader_takeNumber_25 3 ⟨rfl, by decide⟩ rfl rfl (fun r_25 => ?_)
      rw [s1] at r_25 ⊢
      refine g_iconst hX d_Reader_takeNumber_28 ?_
      refine g_callV hX yo_Reader_blame q_615 d_Reader_takeNumber_29 (c_Reader_blame (by omega) (by omega)) rfl rfl ⟨rfl, by decide⟩ rfl (by decide) (Nat.le_of_ble_eq_true rfl) ⟨Nat.zero_le _, Nat.zero_le _⟩ (k_void fun M_29 hp_29 => ?_)
      replace hp_29 := hp_29.symm; subst hp_29
      refine g_iconst hX d_Reader_takeNumber_32 ?_
      refine g_iret hX hR d_Reader_takeNumber_33 (by omega) ?_
      unfold pN; rw [if_neg (by omega), if_pos (by omega)]; exact ⟨rfl, ⟨by rw [mU_slot (by omega), mU_slot (by omega)]; exact s1, by rw [mU_self], fun _ => by rw [mU_slot (by omega), mU_self]⟩, fun a u => by rw [mU_cell u, mU_cell u]⟩
  · have z5 : M 33 5 ≠ 0 := by (split at h_4; exact absurd rfl h_4; assumption)
    refine g_iconst hX d_Reader_takeNumber_7 ?_
    refine g_iret hX hR d_Reader_takeNumber_8 (by omega) ?_
    unfold pN; rw [if_pos (by omega)]; exact ⟨rfl, ⟨s1, s2, s3⟩, fun _ _ => rfl⟩
theorem c_Reader_takeSign {Γ : gX} {l : Launch} {M : mI} {t : List Int} {s : Int × Int × Int} {c : Int} (ht : Tv M t) (hs : Ms M s) (hi : 0 ≤ s.1 ∧ s.1 ≤ 200) (hc : iR c) : Cn Γ l i_Reader_takeSign R0 51 [.ref (gb Γ + 33), vI c] M (pV (fun M' => Ms M' (pS t c s) ∧ ∀ a, a ≠ 33 → M' a = M a)) := by
  refine cn_intro (L := [some (.ref (gb Γ + 33)), some (vI c)]) yo_Reader_takeSign.1 rfl (Nat.le_of_ble_eq_true rfl) rfl (fun X hX hR => ?_)
  obtain ⟨s1, s2, s3⟩ := id hs
  refine g_aload_n hX d_Reader_takeSign_0 rfl ?_
  refine g_callV hX yo_Reader_hasFault q_593 d_Reader_takeSign_1 c_Reader_hasFault rfl rfl ⟨rfl, by decide⟩ rfl (by decide) (Nat.le_of_ble_eq_true rfl) ⟨Nat.zero_le _, Nat.zero_le _⟩ (k_int fun r_1 M_1 ir_1 hp_1 => ?_)
  obtain ⟨er_1, eM_1⟩ := hp_1; replace er_1 := er_1.symm; replace eM_1 := eM_1.symm; subst er_1; subst eM_1
  refine g_if_eq 8 hX d_Reader_takeSign_4 (by decide) (by split <;> omega) (fun h_4 => ?_) (fun h_4 => ?_)
  · have z5 : M 33 5 = 0 := by (split at h_4; assumption; exact absurd h_4 (by decide))
    refine g_aload_n hX d_Reader_takeSign_8 rfl ?_
    refine g_getR hX fl_Reader_28 d_Reader_takeSign_9 ⟨rfl, by decide⟩ rfl rfl ?_
    refine g_aload_n hX d_Reader_takeSign_12 rfl ?_
    refine g_getI hX fl_Reader_18 d_Reader_takeSign_13 3 ⟨rfl, by decide⟩ rfl rfl (fun r_13 => ?_)
    rw [s1] at r_13 ⊢
    refine g_callV hX yo_Text_characterAt q_597 d_Reader_takeSign_16 (c_Text_characterAt (by have := ht.1; have := ht.2.1; omega) (by omega)) rfl rfl ⟨rfl, by decide⟩ rfl (by decide) (Nat.le_of_ble_eq_true rfl) ⟨Nat.zero_le _, Nat.zero_le _⟩ (k_int fun r_16 M_16 ir_16 hp_16 => ?_)
    obtain ⟨er_16, eM_16⟩ := hp_16; replace er_16 := er_16.symm; replace eM_16 := eM_16.symm; subst er_16; subst eM_16
    rw [ht.ch hi.1] at ir_16 ⊢
    refine g_iload_n hX d_Reader_takeSign_19 rfl ?_
    refine g_icmp_ne 36 hX d_Reader_takeSign_20 (by decide) (by omega) (by omega) (fun h_20 => ?_) (fun h_20 => ?_)
    · have zc : ch t s.1 ≠ c := h_20
      refine g_aload_n hX d_Reader_takeSign_36 rfl ?_
      refine g_aload_n hX d_Reader_takeSign_37 rfl ?_
      refine g_getI hX fl_Reader_18 d_Reader_takeSign_38 3 ⟨rfl, by decide⟩ rfl rfl (fun r_38 => ?_)
      rw [s1] at r_38 ⊢
      refine g_iconst hX d_Reader_takeSign_41 ?_
      refine g_callV hX yo_Reader_blame q_615 d_Reader_takeSign_42 (c_Reader_blame (by omega) (by omega)) rfl rfl ⟨rfl, by decide⟩ rfl (by decide) (Nat.le_of_ble_eq_true rfl) ⟨Nat.zero_le _, Nat.zero_le _⟩ (k_void fun M_42 hp_42 => ?_)
      replace hp_42 := hp_42.symm; subst hp_42
      refine g_vret hX hR d_Reader_takeSign_45 ?_
      unfold pS; rw [if_neg (by omega)]; first | (rw [if_pos zc]; exact ⟨⟨by rw [mU_self], by rw [mU_slot (by omega)]; exact z5, fun z => absurd rfl z⟩, fun a u => by rw [mU_cell u]⟩) | (rw [if_neg zc]; exact ⟨⟨by rw [mU_slot (by omega), mU_slot (by omega)]; exact s1, by rw [mU_self], fun _ => by rw [mU_slot (by omega), mU_self]⟩, fun a u => by rw [mU_cell u, mU_cell u]⟩)
    · have zc : ch t s.1 = c := h_20
      refine g_aload_n hX d_Reader_takeSign_23 rfl ?_
      refine g_dup hX d_Reader_takeSign_24 rfl ?_
      refine g_getI hX fl_Reader_18 d_Reader_takeSign_25 3 ⟨rfl, by decide⟩ rfl rfl (fun r_25 => ?_)
      rw [s1] at r_25 ⊢
      refine g_iconst hX d_Reader_takeSign_28 ?_
      refine g_iadd hX d_Reader_takeSign_29 ?_
      refine g_putI hX fl_Reader_18 d_Reader_takeSign_30 3 ⟨rfl, by decide⟩ rfl rfl (fun q h => by cases h; rfl) rfl (by omega) ?_
      refine g_goto 45 hX d_Reader_takeSign_33 (by decide) ?_
      refine g_vret hX hR d_Reader_takeSign_45 ?_
      unfold pS; rw [if_neg (by omega)]; first | (rw [if_pos zc]; exact ⟨⟨by rw [mU_self], by rw [mU_slot (by omega)]; exact z5, fun z => absurd rfl z⟩, fun a u => by rw [mU_cell u]⟩) | (rw [if_neg zc]; exact ⟨⟨by rw [mU_slot (by omega), mU_slot (by omega)]; exact s1, by rw [mU_self], fun _ => by rw [mU_slot (by omega), mU_self]⟩, fun a u => by rw [mU_cell u, mU_cell u]⟩)
  · have z5 : M 33 5 ≠ 0 := by (split at h_4; exact absurd rfl h_4; assumption)
    refine g_vret hX hR d_Reader_takeSign_7 ?_
    unfold pS; rw [if_pos (by omega)]; exact ⟨⟨s1, s2, s3⟩, fun _ _ => rfl⟩
/-- the reader's cells hold the state s of a reading -/
def Rm (M : mI) (s : pT) : Prop := Ms M (s.1, s.2.1, s.2.2.1) ∧ M 34 2 = s.2.2.2.1 ∧ 0 ≤ s.2.2.2.1 ∧ s.2.2.2.1 ≤ 60 ∧ ∀ j, 0 ≤ j → j < s.2.2.2.1 → M 35 j = s.2.2.2.2 j
theorem Rm.sv {M : mI} {s : pT} (h : Rm M s) : Sv M 34 s.2.2.2.1 s.2.2.2.2 (M 36) := ⟨h.2.1, h.2.2.1, h.2.2.2.1, h.2.2.2.2, fun _ _ _ => rfl⟩
theorem wrg_b (g : Int → Int) (d c n : Int) : 0 ≤ wrg g d c n ∧ wrg g d c n ≤ 4 := by
  unfold wrg
  split
  · omega
  · split
    · omega
    · split <;> omega
theorem c_Reader_reasonAgainst {Γ : gX} {l : Launch} {M : mI} {n d c m : Int} {x g : Int → Int} (hv : Sv M 1 m x g) (hg : Og g) (hn : M 34 2 = n ∧ 0 ≤ n ∧ n ≤ 60) (hd : iR d) (hc : iR c) : Cn Γ l i_Reader_reasonAgainst R0 51 [.ref (gb Γ + 33), vI d, vI c] M (pI (fun r M' => r = wrg g d c n ∧ M' = M)) := by
  refine cn_intro (L := [some (.ref (gb Γ + 33)), some (vI d), some (vI c)]) yo_Reader_reasonAgainst.1 rfl (Nat.le_of_ble_eq_true rfl) rfl (fun X hX hR => ?_)
  obtain ⟨v1, v2, v3, v4, v5⟩ := id hv
  obtain ⟨⟨g0, g0'⟩, ⟨g1, g1'⟩, ⟨g2, g2'⟩, ⟨g3, g3'⟩, ⟨g4, g4'⟩⟩ := id hg
  refine g_iload_n hX d_Reader_reasonAgainst_0 rfl ?_
  refine g_iconst hX d_Reader_reasonAgainst_1 ?_
  refine g_aload_n hX d_Reader_reasonAgainst_2 rfl ?_
  refine g_getR hX fl_Reader_32 d_Reader_reasonAgainst_3 ⟨rfl, by decide⟩ rfl rfl ?_
  refine g_iconst hX d_Reader_reasonAgainst_6 ?_
  refine g_callV hX yo_State_setting q_627 d_Reader_reasonAgainst_7 (c_State_setting st_1 (p := 0) (by omega)) rfl rfl ⟨rfl, by decide⟩ rfl (by decide) (Nat.le_of_ble_eq_true rfl) ⟨Nat.zero_le _, Nat.zero_le _⟩ (k_int fun r_7 M_7 ir_7 hp_7 => ?_)
  obtain ⟨er_7, eM_7⟩ := hp_7; replace er_7 := er_7.symm; replace eM_7 := eM_7.symm; subst er_7; subst eM_7
  rw [v5 0 (by omega) (by omega)] at ir_7 ⊢
  refine g_aload_n hX d_Reader_reasonAgainst_10 rfl ?_
  refine g_getR hX fl_Reader_12 d_Reader_reasonAgainst_11 ⟨rfl, by decide⟩ rfl rfl ?_
  refine g_callV hX yo_State_size q_590 d_Reader_reasonAgainst_14 (c_State_size st_34) rfl rfl ⟨rfl, by decide⟩ rfl (by decide) (Nat.le_of_ble_eq_true rfl) ⟨Nat.zero_le _, Nat.zero_le _⟩ (k_int fun r_14 M_14 ir_14 hp_14 => ?_)
  obtain ⟨er_14, eM_14⟩ := hp_14; replace er_14 := er_14.symm; replace eM_14 := eM_14.symm; subst er_14; subst eM_14
  rw [hn.1] at ir_14 ⊢
  refine g_min hX d_Reader_reasonAgainst_17 q_628 (by omega) (by omega) (by decide) (Nat.le_of_ble_eq_true rfl) ⟨Nat.zero_le _, Nat.zero_le _⟩ ?_
  refine g_callSN (host := "WindowCopies") hX yo_WC_isIn (by unfold nestWs; simp) d_Reader_reasonAgainst_20 (c_WC_isIn hd (by omega) (by omega)) rfl rfl (by decide) (Nat.le_of_ble_eq_true rfl) ⟨Nat.zero_le _, Nat.zero_le _⟩ (k_int fun r_20 M_20 ir_20 hp_20 => ?_)
  obtain ⟨er_20, eM_20⟩ := hp_20; replace er_20 := er_20.symm; replace eM_20 := eM_20.symm; subst er_20; subst eM_20
  refine g_if_ne 28 hX d_Reader_reasonAgainst_23 (by decide) (by split <;> omega) (fun h_23 => ?_) (fun h_23 => ?_)
  · have z1 : 1 ≤ d ∧ d ≤ min (g 0) n := by (split at h_23; assumption; exact absurd rfl h_23)
    refine g_iload_n hX d_Reader_reasonAgainst_28 rfl ?_
    refine g_aload_n hX d_Reader_reasonAgainst_29 rfl ?_
    refine g_getR hX fl_Reader_32 d_Reader_reasonAgainst_30 ⟨rfl, by decide⟩ rfl rfl ?_
    refine g_iconst hX d_Reader_reasonAgainst_33 ?_
    refine g_callV hX yo_State_setting q_627 d_Reader_reasonAgainst_34 (c_State_setting st_1 (p := 1) (by omega)) rfl rfl ⟨rfl, by decide⟩ rfl (by decide) (Nat.le_of_ble_eq_true rfl) ⟨Nat.zero_le _, Nat.zero_le _⟩ (k_int fun r_34 M_34 ir_34 hp_34 => ?_)
    obtain ⟨er_34, eM_34⟩ := hp_34; replace er_34 := er_34.symm; replace eM_34 := eM_34.symm; subst er_34; subst eM_34
    rw [v5 1 (by omega) (by omega)] at ir_34 ⊢
    refine g_bipush hX d_Reader_reasonAgainst_37 rfl ?_
    refine g_callSN (host := "WindowCopies") hX yo_WC_isIn (by unfold nestWs; simp) d_Reader_reasonAgainst_39 (c_WC_isIn hc (by omega) (by omega)) rfl rfl (by decide) (Nat.le_of_ble_eq_true rfl) ⟨Nat.zero_le _, Nat.zero_le _⟩ (k_int fun r_39 M_39 ir_39 hp_39 => ?_)
    obtain ⟨er_39, eM_39⟩ := hp_39; replace er_39 := er_39.symm; replace eM_39 := eM_39.symm; subst er_39; subst eM_39
    refine g_if_ne 47 hX d_Reader_reasonAgainst_42 (by decide) (by split <;> omega) (fun h_42 => ?_) (fun h_42 => ?_)
    · have z2 : g 1 ≤ c ∧ c ≤ 20 := by (split at h_42; assumption; exact absurd rfl h_42)
      refine g_aload_n hX d_Reader_reasonAgainst_47 rfl ?_
      refine g_getR hX fl_Reader_12 d_Reader_reasonAgainst_48 ⟨rfl, by decide⟩ rfl rfl ?_
      refine g_callV hX yo_State_size q_590 d_Reader_reasonAgainst_51 (c_State_size st_34) rfl rfl ⟨rfl, by decide⟩ rfl (by decide) (Nat.le_of_ble_eq_true rfl) ⟨Nat.zero_le _, Nat.zero_le _⟩ (k_int fun r_51 M_51 ir_51 hp_51 => ?_)
      obtain ⟨er_51, eM_51⟩ := hp_51; replace er_51 := er_51.symm; replace eM_51 := eM_51.symm; subst er_51; subst eM_51
      rw [hn.1] at ir_51 ⊢
      refine g_iload_n hX d_Reader_reasonAgainst_54 rfl ?_
      refine g_iadd hX d_Reader_reasonAgainst_55 ?_
      refine g_bipush hX d_Reader_reasonAgainst_56 rfl ?_
      refine g_icmp_le 65 hX d_Reader_reasonAgainst_58 (by decide) (by omega) (by omega) (fun h_58 => ?_) (fun h_58 => ?_)
      · refine g_iconst hX d_Reader_reasonAgainst_65 ?_
        refine g_iret hX hR d_Reader_reasonAgainst_66 (by omega) ?_
        unfold wrg; rw [if_neg (fun z => z z1), if_neg (fun z => z z2)]; first | (rw [if_pos (by omega)]; exact ⟨rfl, rfl⟩) | (rw [if_neg (by omega)]; exact ⟨rfl, rfl⟩)
      · refine g_iconst hX d_Reader_reasonAgainst_61 ?_
        refine g_goto 66 hX d_Reader_reasonAgainst_62 (by decide) ?_
        refine g_iret hX hR d_Reader_reasonAgainst_66 (by omega) ?_
        unfold wrg; rw [if_neg (fun z => z z1), if_neg (fun z => z z2)]; first | (rw [if_pos (by omega)]; exact ⟨rfl, rfl⟩) | (rw [if_neg (by omega)]; exact ⟨rfl, rfl⟩)
    · have z2 : ¬ (g 1 ≤ c ∧ c ≤ 20) := by (split at h_42; exact absurd h_42 (by decide); assumption)
      refine g_iconst hX d_Reader_reasonAgainst_45 ?_
      refine g_iret hX hR d_Reader_reasonAgainst_46 (by omega) ?_
      unfold wrg; rw [if_neg (fun z => z z1), if_pos z2]; exact ⟨rfl, rfl⟩
  · have z1 : ¬ (1 ≤ d ∧ d ≤ min (g 0) n) := by (split at h_23; exact absurd h_23 (by decide); assumption)
    refine g_iconst hX d_Reader_reasonAgainst_26 ?_
    refine g_iret hX hR d_Reader_reasonAgainst_27 (by omega) ?_
    unfold wrg; rw [if_pos z1]; exact ⟨rfl, rfl⟩
theorem c_Reader_takeLetter {Γ : gX} {l : Launch} {M : mI} {s : pT} {c : Int} (hs : Rm M s) (h0 : s.2.2.1 = 0) (hi : 0 ≤ s.1 ∧ s.1 ≤ 120) (hc : iR c) : Cn Γ l i_Reader_takeLetter R0 51 [.ref (gb Γ + 33), vI c] M (pV (fun M' => Rm M' (pA c s) ∧ ∀ a, a ≠ 33 → a ≠ 34 → a ≠ 35 → M' a = M a)) := by
  refine cn_intro (L := [some (.ref (gb Γ + 33)), some (vI c)]) yo_Reader_takeLetter.1 rfl (Nat.le_of_ble_eq_true rfl) rfl (fun X hX hR => ?_)
  obtain ⟨⟨m1, m2, m3⟩, r1, r2, r3, r4⟩ := id hs
  dsimp only at m1 m2 m3
  refine g_iload_n hX d_Reader_takeLetter_0 rfl ?_
  refine g_callSN (host := "WindowCopies") hX yo_WC_isLetter (by unfold nestWs; simp) d_Reader_takeLetter_1 (c_WC_isLetter hc) rfl rfl (by decide) (Nat.le_of_ble_eq_true rfl) ⟨Nat.zero_le _, Nat.zero_le _⟩ (k_int fun r_1 M_1 ir_1 hp_1 => ?_)
  obtain ⟨er_1, eM_1⟩ := hp_1; replace er_1 := er_1.symm; replace eM_1 := eM_1.symm; subst er_1; subst eM_1
  refine g_if_ne 19 hX d_Reader_takeLetter_4 (by decide) (by split <;> omega) (fun h_4 => ?_) (fun h_4 => ?_)
  · have z1 : 0 ≤ c ∧ c ≤ 7 := by (split at h_4; assumption; exact absurd rfl h_4)
    refine g_aload_n hX d_Reader_takeLetter_19 rfl ?_
    refine g_getR hX fl_Reader_12 d_Reader_takeLetter_20 ⟨rfl, by decide⟩ rfl rfl ?_
    refine g_callV hX yo_State_size q_590 d_Reader_takeLetter_23 (c_State_size st_34) rfl rfl ⟨rfl, by decide⟩ rfl (by decide) (Nat.le_of_ble_eq_true rfl) ⟨Nat.zero_le _, Nat.zero_le _⟩ (k_int fun r_23 M_23 ir_23 hp_23 => ?_)
    obtain ⟨er_23, eM_23⟩ := hp_23; replace er_23 := er_23.symm; replace eM_23 := eM_23.symm; subst er_23; subst eM_23
    rw [r1] at ir_23 ⊢
    refine g_bipush hX d_Reader_takeLetter_26 rfl ?_
    refine g_icmp_lt 43 hX d_Reader_takeLetter_28 (by decide) (by omega) (by omega) (fun h_28 => ?_) (fun h_28 => ?_)
    · have z2 : ¬ 60 ≤ s.2.2.2.1 := by omega
      refine g_aload_n hX d_Reader_takeLetter_43 rfl ?_
      refine g_getR hX fl_Reader_12 d_Reader_takeLetter_44 ⟨rfl, by decide⟩ rfl rfl ?_
      refine g_iload_n hX d_Reader_takeLetter_47 rfl ?_
      refine g_callV hX yo_State_append q_639 d_Reader_takeLetter_48 (c_State_append st_34 (by rw [r1]; omega) hc) rfl rfl ⟨rfl, by decide⟩ rfl (by decide) (Nat.le_of_ble_eq_true rfl) ⟨Nat.zero_le _, Nat.zero_le _⟩ (k_void fun M_48 hp_48 => ?_)
      replace hp_48 := hp_48.symm; subst hp_48
      refine g_aload_n hX d_Reader_takeLetter_51 rfl ?_
      refine g_dup hX d_Reader_takeLetter_52 rfl ?_
      refine g_getI hX fl_Reader_18 d_Reader_takeLetter_53 3 ⟨rfl, by decide⟩ rfl rfl (fun r_53 => ?_)
      rw [mU_cell (by omega), mU_cell (by omega), m1] at r_53 ⊢
      refine g_iconst hX d_Reader_takeLetter_56 ?_
      refine g_iadd hX d_Reader_takeLetter_57 ?_
      refine g_putI hX fl_Reader_18 d_Reader_takeLetter_58 3 ⟨rfl, by decide⟩ rfl rfl (fun q h => by cases h; rfl) rfl (by omega) ?_
      refine g_vret hX hR d_Reader_takeLetter_61 ?_
      unfold pA; first | (rw [if_pos z1]; refine ⟨⟨⟨by rw [mU_slot (by omega), mU_slot (by omega)]; exact m1, by rw [mU_self], fun _ => by rw [mU_slot (by omega), mU_self]⟩, ?_⟩, fun a u v w => by rw [mU_cell u, mU_cell u]⟩; rw [mU_cell (by omega), mU_cell (by omega), mU_cell (by omega), mU_cell (by omega)]; exact ⟨r1, r2, r3, r4⟩) | (rw [if_neg (fun z => z z1), if_pos z2]; refine ⟨⟨⟨by rw [mU_slot (by omega), mU_slot (by omega)]; exact m1, by rw [mU_self], fun _ => by rw [mU_slot (by omega), mU_self]⟩, ?_⟩, fun a u v w => by rw [mU_cell u, mU_cell u]⟩; rw [mU_cell (by omega), mU_cell (by omega), mU_cell (by omega), mU_cell (by omega)]; exact ⟨r1, r2, r3, r4⟩) | (rw [if_neg (fun z => z z1), if_neg z2]; refine ⟨⟨⟨by rw [mU_self], by rw [mU_slot (by omega), mU_cell (by omega), mU_cell (by omega)]; exact m2.trans h0, fun z => absurd rfl z⟩, by rw [mU_cell (by omega), mU_self, r1], by show 0 ≤ s.2.2.2.1 + 1; omega, by show s.2.2.2.1 + 1 ≤ 60; omega, fun j u v => ?_⟩, fun a u v w => by rw [mU_cell u, mU_cell v, mU_cell w]⟩; rw [mU_cell (by omega), mU_cell (by omega), r1, mU_if]; by_cases zj : j = s.2.2.2.1; (rw [if_pos zj]; exact (if_pos zj).symm); (rw [if_neg zj]; exact (r4 j u (by have zv : j < s.2.2.2.1 + 1 := v; omega)).trans (if_neg zj).symm))
    · have z2 : 60 ≤ s.2.2.2.1 := by omega
      refine g_aload_n hX d_Reader_takeLetter_31 rfl ?_
      refine g_aload_n hX d_Reader_takeLetter_32 rfl ?_
      refine g_getI hX fl_Reader_18 d_Reader_takeLetter_33 3 ⟨rfl, by decide⟩ rfl rfl (fun r_33 => ?_)
      rw [m1] at r_33 ⊢
      refine g_iconst hX d_Reader_takeLetter_36 ?_
      refine g_callV hX yo_Reader_blame q_615 d_Reader_takeLetter_37 (c_Reader_blame (by omega) (by omega)) rfl rfl ⟨rfl, by decide⟩ rfl (by decide) (Nat.le_of_ble_eq_true rfl) ⟨Nat.zero_le _, Nat.zero_le _⟩ (k_void fun M_37 hp_37 => ?_)
      replace hp_37 := hp_37.symm; subst hp_37
      refine g_goto 61 hX d_Reader_takeLetter_40 (by decide) ?_
      refine g_vret hX hR d_Reader_takeLetter_61 ?_
      unfold pA; first | (rw [if_pos z1]; refine ⟨⟨⟨by rw [mU_slot (by omega), mU_slot (by omega)]; exact m1, by rw [mU_self], fun _ => by rw [mU_slot (by omega), mU_self]⟩, ?_⟩, fun a u v w => by rw [mU_cell u, mU_cell u]⟩; rw [mU_cell (by omega), mU_cell (by omega), mU_cell (by omega), mU_cell (by omega)]; exact ⟨r1, r2, r3, r4⟩) | (rw [if_neg (fun z => z z1), if_pos z2]; refine ⟨⟨⟨by rw [mU_slot (by omega), mU_slot (by omega)]; exact m1, by rw [mU_self], fun _ => by rw [mU_slot (by omega), mU_self]⟩, ?_⟩, fun a u v w => by rw [mU_cell u, mU_cell u]⟩; rw [mU_cell (by omega), mU_cell (by omega), mU_cell (by omega), mU_cell (by omega)]; exact ⟨r1, r2, r3, r4⟩) | (rw [if_neg (fun z => z z1), if_neg z2]; refine ⟨⟨⟨by rw [mU_self], by rw [mU_slot (by omega), mU_cell (by omega), mU_cell (by omega)]; exact m2.trans h0, fun z => absurd rfl z⟩, by rw [mU_cell (by omega), mU_self, r1], by show 0 ≤ s.2.2.2.1 + 1; omega, by show s.2.2.2.1 + 1 ≤ 60; omega, fun j u v => ?_⟩, fun a u v w => by rw [mU_cell u, mU_cell v, mU_cell w]⟩; rw [mU_cell (by omega), mU_cell (by omega), r1, mU_if]; by_cases zj : j = s.2.2.2.1; (rw [if_pos zj]; exact (if_pos zj).symm); (rw [if_neg zj]; exact (r4 j u (by have zv : j < s.2.2.2.1 + 1 := v; omega)).trans (if_neg zj).symm))
  · have z1 : ¬ (0 ≤ c ∧ c ≤ 7) := by (split at h_4; exact absurd h_4 (by decide); assumption)
    refine g_aload_n hX d_Reader_takeLetter_7 rfl ?_
    refine g_aload_n hX d_Reader_takeLetter_8 rfl ?_
    refine g_getI hX fl_Reader_18 d_Reader_takeLetter_9 3 ⟨rfl, by decide⟩ rfl rfl (fun r_9 => ?_)
    rw [m1] at r_9 ⊢
    refine g_iconst hX d_Reader_takeLetter_12 ?_
    refine g_callV hX yo_Reader_blame q_615 d_Reader_takeLetter_13 (c_Reader_blame (by omega) (by omega)) rfl rfl ⟨rfl, by decide⟩ rfl (by decide) (Nat.le_of_ble_eq_true rfl) ⟨Nat.zero_le _, Nat.zero_le _⟩ (k_void fun M_13 hp_13 => ?_)
    replace hp_13 := hp_13.symm; subst hp_13
    refine g_goto 61 hX d_Reader_takeLetter_16 (by decide) ?_
    refine g_vret hX hR d_Reader_takeLetter_61 ?_
    unfold pA; first | (rw [if_pos z1]; refine ⟨⟨⟨by rw [mU_slot (by omega), mU_slot (by omega)]; exact m1, by rw [mU_self], fun _ => by rw [mU_slot (by omega), mU_self]⟩, ?_⟩, fun a u v w => by rw [mU_cell u, mU_cell u]⟩; rw [mU_cell (by omega), mU_cell (by omega), mU_cell (by omega), mU_cell (by omega)]; exact ⟨r1, r2, r3, r4⟩) | (rw [if_neg (fun z => z z1), if_pos z2]; refine ⟨⟨⟨by rw [mU_slot (by omega), mU_slot (by omega)]; exact m1, by rw [mU_self], fun _ => by rw [mU_slot (by omega), mU_self]⟩, ?_⟩, fun a u v w => by rw [mU_cell u, mU_cell u]⟩; rw [mU_cell (by omega), mU_cell (by omega), mU_cell (by omega), mU_cell (by omega)]; exact ⟨r1, r2, r3, r4⟩) | (rw [if_neg (fun z => z z1), if_neg z2]; refine ⟨⟨⟨by rw [mU_self], by rw [mU_slot (by omega), mU_cell (by omega), mU_cell (by omega)]; exact m2.trans h0, fun z => absurd rfl z⟩, by rw [mU_cell (by omega), mU_self, r1], by show 0 ≤ s.2.2.2.1 + 1; omega, by show s.2.2.2.1 + 1 ≤ 60; omega, fun j u v => ?_⟩, fun a u v w => by rw [mU_cell u, mU_cell v, mU_cell w]⟩; rw [mU_cell (by omega), mU_cell (by omega), r1, mU_if]; by_cases zj : j = s.2.2.2.1; (rw [if_pos zj]; exact (if_pos zj).symm); (rw [if_neg zj]; exact (r4 j u (by have zv : j < s.2.2.2.1 + 1 := v; omega)).trans (if_neg zj).symm))
theorem pN_d {t : List Int} {s : Int × Int × Int} (h : (pN t s).2.2.2 = 0) : 0 ≤ (pN t s).1 := by
  have z1 := dgt_b t s.1
  have z2 := dgt_b t (s.1 + 1)
  unfold pN at h ⊢
  split
  · rename_i hq; rw [if_pos hq] at h; exact absurd h hq
  · rename_i hq
    rw [if_neg hq] at h
    split
    · rename_i hr; rw [if_pos hr] at h; exact absurd (show (1 : Int) = 0 from h) (by decide)
    · split
      · show 0 ≤ dgt t s.1; omega
      · show 0 ≤ dgt t s.1 * 10 + dgt t (s.1 + 1); omega
theorem wrg_0 {g : Int → Int} {d c n : Int} (h : wrg g d c n = 0) : (1 ≤ d ∧ d ≤ min (g 0) n) ∧ (g 1 ≤ c ∧ c ≤ 20) ∧ n + c ≤ 60 := by
  unfold wrg at h
  split at h
  · omega
  · split at h
    · omega
    · split at h
      · omega
      · omega
theorem c_Reader_takeCopy {Γ : gX} {l : Launch} {M : mI} {t : List Int} {s : pT} {m : Int} {x g : Int → Int} (ht : Tv M t) (hv : Sv M 1 m x g) (hg : Og g) (hs : Rm M s) (h0 : s.2.2.1 = 0) (hi : 0 ≤ s.1 ∧ s.1 ≤ 120) : Cn Γ l i_Reader_takeCopy R0 51 [.ref (gb Γ + 33)] M (pV (fun M' => Rm M' (pC t g s) ∧ ∀ a, a ≠ 33 → a ≠ 34 → a ≠ 35 → M' a = M a)) := by
  refine cn_intro (L := [some (.ref (gb Γ + 33)), none, none, none, none]) yo_Reader_takeCopy.1 rfl (Nat.le_of_ble_eq_true rfl) rfl (fun X hX hR => ?_)
  obtain ⟨⟨m1, m2, m3⟩, r1, r2, r3, r4⟩ := id hs
  dsimp only at m1 m2 m3
  have hg0 := hg.1.1
  have hg1 := hg.2.1.1
  refine g_aload_n hX d_Reader_takeCopy_0 rfl ?_
  refine g_getI hX fl_Reader_18 d_Reader_takeCopy_1 3 ⟨rfl, by decide⟩ rfl rfl (fun r_1 => ?_)
  rw [m1] at r_1 ⊢
  refine g_istore_n hX d_Reader_takeCopy_4 (by decide) ?_
  refine g_aload_n hX d_Reader_takeCopy_5 rfl ?_
  refine g_dup hX d_Reader_takeCopy_6 rfl ?_
  refine g_getI hX fl_Reader_18 d_Reader_takeCopy_7 3 ⟨rfl, by decide⟩ rfl rfl (fun r_7 => ?_)
  rw [m1] at r_7 ⊢
  refine g_iconst hX d_Reader_takeCopy_10 ?_
  refine g_iadd hX d_Reader_takeCopy_11 ?_
  refine g_putI hX fl_Reader_18 d_Reader_takeCopy_12 3 ⟨rfl, by decide⟩ rfl rfl (fun q h => by cases h; rfl) rfl (by omega) ?_
  refine g_aload_n hX d_Reader_takeCopy_15 rfl ?_
  refine g_callV hX yo_Reader_takeNumber q_606 d_Reader_takeCopy_16 (c_Reader_takeNumber (t := t) (s := (s.1 + 1, s.2.1, 0)) (ht.to (by rw [mU_cell (by omega)]) (by rw [mU_cell (by omega)])) ⟨by rw [mU_self], by rw [mU_slot (by omega), m2]; exact h0, fun z => absurd rfl z⟩ ⟨by show 0 ≤ s.1 + 1; omega, by show s.1 + 1 ≤ 200; omega⟩) rfl rfl ⟨rfl, by decide⟩ rfl (by decide) (Nat.le_of_ble_eq_true rfl) ⟨Nat.zero_le _, Nat.zero_le _⟩ (k_int fun r_16 M_16 ir_16 hp_16 => ?_)
  obtain ⟨er_16, hm1, f1⟩ := hp_16
  have b1 := pN_b t (s.1 + 1, s.2.1, 0)
  dsimp only at b1
  have o1 : ∀ a, a ≠ 33 → M_16 a = M a := fun a u => by rw [f1 a u, mU_cell u]
  replace er_16 := er_16.symm; subst er_16
  refine g_istore_n hX d_Reader_takeCopy_19 (by decide) ?_
  refine g_aload_n hX d_Reader_takeCopy_20 rfl ?_
  refine g_bipush hX d_Reader_takeCopy_21 rfl ?_
  refine g_callV hX yo_Reader_takeSign q_619 d_Reader_takeCopy_23 (c_Reader_takeSign (t := t) (s := (pN t (s.1 + 1, s.2.1, 0)).2) (ht.to (o1 31 (by decide)) (o1 32 (by decide))) hm1 (by omega) (by omega)) rfl rfl ⟨rfl, by decide⟩ rfl (by decide) (Nat.le_of_ble_eq_true rfl) ⟨Nat.zero_le _, Nat.zero_le _⟩ (k_void fun M_23 hp_23 => ?_)
  obtain ⟨hm2, f2⟩ := hp_23
  have b2 := pS_b t 44 (pN t (s.1 + 1, s.2.1, 0)).2
  have o2 : ∀ a, a ≠ 33 → M_23 a = M a := fun a u => by rw [f2 a u, o1 a u]
  refine g_aload_n hX d_Reader_takeCopy_26 rfl ?_
  refine g_callV hX yo_Reader_takeNumber q_606 d_Reader_takeCopy_27 (c_Reader_takeNumber (t := t) (s := pS t 44 (pN t (s.1 + 1, s.2.1, 0)).2) (ht.to (o2 31 (by decide)) (o2 32 (by decide))) hm2 (by omega)) rfl rfl ⟨rfl, by decide⟩ rfl (by decide) (Nat.le_of_ble_eq_true rfl) ⟨Nat.zero_le _, Nat.zero_le _⟩ (k_int fun r_27 M_27 ir_27 hp_27 => ?_)
  obtain ⟨er_27, hm3, f3⟩ := hp_27
  have b3 := pN_b t (pS t 44 (pN t (s.1 + 1, s.2.1, 0)).2)
  have o3 : ∀ a, a ≠ 33 → M_27 a = M a := fun a u => by rw [f3 a u, o2 a u]
  replace er_27 := er_27.symm; subst er_27
  refine g_istore_n hX d_Reader_takeCopy_30 (by decide) ?_
  refine g_aload_n hX d_Reader_takeCopy_31 rfl ?_
  refine g_bipush hX d_Reader_takeCopy_32 rfl ?_
  refine g_callV hX yo_Reader_takeSign q_619 d_Reader_takeCopy_34 (c_Reader_takeSign (t := t) (s := (pN t (pS t 44 (pN t (s.1 + 1, s.2.1, 0)).2)).2) (ht.to (o3 31 (by decide)) (o3 32 (by decide))) hm3 (by omega) (by omega)) rfl rfl ⟨rfl, by decide⟩ rfl (by decide) (Nat.le_of_ble_eq_true rfl) ⟨Nat.zero_le _, Nat.zero_le _⟩ (k_void fun M_34 hp_34 => ?_)
  obtain ⟨hm4, f4⟩ := hp_34
  have b4 := pS_b t 41 (pN t (pS t 44 (pN t (s.1 + 1, s.2.1, 0)).2)).2
  have o4 : ∀ a, a ≠ 33 → M_34 a = M a := fun a u => by rw [f4 a u, o3 a u]
  obtain ⟨q1, q2, q3⟩ := id hm4
  refine g_aload_n hX d_Reader_takeCopy_37 rfl ?_
  refine g_callV hX yo_Reader_hasFault q_593 d_Reader_takeCopy_38 c_Reader_hasFault rfl rfl ⟨rfl, by decide⟩ rfl (by decide) (Nat.le_of_ble_eq_true rfl) ⟨Nat.zero_le _, Nat.zero_le _⟩ (k_int fun r_38 M_38 ir_38 hp_38 => ?_)
  obtain ⟨er_38, eM_38⟩ := hp_38; replace er_38 := er_38.symm; replace eM_38 := eM_38.symm; subst er_38; subst eM_38
  refine g_if_eq 45 hX d_Reader_takeCopy_41 (by decide) (by split <;> omega) (fun h_41 => ?_) (fun h_41 => ?_)
  · have z1 : (s4C t s.1 s.2.1).2.2 = 0 := by (split at h_41; rename_i hz; exact q2.symm.trans hz; exact absurd h_41 (by decide))
    refine g_aload_n hX d_Reader_takeCopy_45 rfl ?_
    refine g_iload_n hX d_Reader_takeCopy_46 rfl ?_
    refine g_iload_n hX d_Reader_takeCopy_47 rfl ?_
    refine g_callV hX yo_Reader_reasonAgainst q_623 d_Reader_takeCopy_48 (c_Reader_reasonAgainst (n := s.2.2.2.1) (hv.to (o4 1 (by decide)) (o4 2 (by decide)) (o4 3 (by decide))) hg ⟨by rw [o4 34 (by decide)]; exact r1, r2, r3⟩ (by omega) (by omega)) rfl rfl ⟨rfl, by decide⟩ rfl (by decide) (Nat.le_of_ble_eq_true rfl) ⟨Nat.zero_le _, Nat.zero_le _⟩ (k_int fun r_48 M_48 ir_48 hp_48 => ?_)
    obtain ⟨er_48, eM_48⟩ := hp_48; replace er_48 := er_48.symm; replace eM_48 := eM_48.symm; subst er_48; subst eM_48
    refine g_istore hX d_Reader_takeCopy_51 (by decide) ?_
    refine g_iload hX d_Reader_takeCopy_53 rfl ?_
    refine g_if_eq 68 hX d_Reader_takeCopy_55 (by decide) (by omega) (fun h_55 => ?_) (fun h_55 => ?_)
    · have z2 : wrg g (dC t s.1 s.2.1) (lC t s.1 s.2.1) s.2.2.2.1 = 0 := h_55
      obtain ⟨w1, w2, w3⟩ := wrg_0 h_55
      refine g_aload_n hX d_Reader_takeCopy_68 rfl ?_
      refine g_getR hX fl_Reader_12 d_Reader_takeCopy_69 ⟨rfl, by decide⟩ rfl rfl ?_
      refine g_iload_n hX d_Reader_takeCopy_72 rfl ?_
      refine g_iload_n hX d_Reader_takeCopy_73 rfl ?_
      refine g_callV hX yo_State_appendCopy q_629 d_Reader_takeCopy_74 (c_State_appendCopy (n := s.2.2.2.1) (x := s.2.2.2.2) (g := M 36) st_34 (hs.sv.to (o4 34 (by decide)) (o4 35 (by decide)) (o4 36 (by decide))) (by omega) (by omega)) rfl rfl ⟨rfl, by decide⟩ rfl (by decide) (Nat.le_of_ble_eq_true rfl) ⟨Nat.zero_le _, Nat.zero_le _⟩ (k_void fun M_74 hp_74 => ?_)
      obtain ⟨t1, t2, t3, t4⟩ := hp_74
      refine g_vret hX hR d_Reader_takeCopy_77 ?_
      first | (have zz := t4 33 (by decide) (by decide); refine ⟨?_, fun a u v w => by rw [t4 a v w, o4 a u]⟩; unfold pC; rw [if_neg (fun z => z z1), if_neg (fun z => z z2)]; refine ⟨⟨by rw [zz]; exact q1, by rw [zz, q2]; exact z1, fun z => absurd rfl z⟩, t1, by show 0 ≤ s.2.2.2.1 + (pN t (pS t 44 (pN t (s.1 + 1, s.2.1, 0)).2)).1; omega, w3, fun j u v => ?_⟩; have hv' : j < s.2.2.2.1 + (pN t (pS t 44 (pN t (s.1 + 1, s.2.1, 0)).2)).1 := v; exact cpF_only (x := s.2.2.2.2) (y := M_74 (34 + 1)) (n := s.2.2.2.1) (d := (pN t (s.1 + 1, s.2.1, 0)).1) (by omega) (pN t (pS t 44 (pN t (s.1 + 1, s.2.1, 0)).2)).1.toNat t2 (fun j u v => t3 j u (by omega)) j u (by omega)) | (refine ⟨?_, fun a u v w => by rw [mU_cell u, mU_cell u, o4 a u]⟩; unfold pC; rw [if_neg (fun z => z z1), if_pos z2]; exact ⟨⟨by rw [mU_slot (by omega), mU_slot (by omega)]; exact q1, by rw [mU_self]; rfl, fun _ => by rw [mU_slot (by omega), mU_self]⟩, by rw [mU_cell (by omega), mU_cell (by omega), o4 34 (by decide)]; exact r1, r2, r3, fun j u v => by rw [mU_cell (by omega), mU_cell (by omega), o4 35 (by decide)]; exact r4 j u v⟩)
    · have z2 : wrg g (dC t s.1 s.2.1) (lC t s.1 s.2.1) s.2.2.2.1 ≠ 0 := h_55
      have zw := wrg_b g (pN t (s.1 + 1, s.2.1, 0)).1 (pN t (pS t 44 (pN t (s.1 + 1, s.2.1, 0)).2)).1 s.2.2.2.1
      refine g_aload_n hX d_Reader_takeCopy_58 rfl ?_
      refine g_iload_n hX d_Reader_takeCopy_59 rfl ?_
      refine g_iload hX d_Reader_takeCopy_60 rfl ?_
      refine g_callV hX yo_Reader_blame q_615 d_Reader_takeCopy_62 (c_Reader_blame (by omega) (by omega)) rfl rfl ⟨rfl, by decide⟩ rfl (by decide) (Nat.le_of_ble_eq_true rfl) ⟨Nat.zero_le _, Nat.zero_le _⟩ (k_void fun M_62 hp_62 => ?_)
      replace hp_62 := hp_62.symm; subst hp_62
      refine g_goto 77 hX d_Reader_takeCopy_65 (by decide) ?_
      refine g_vret hX hR d_Reader_takeCopy_77 ?_
      first | (have zz := t4 33 (by decide) (by decide); refine ⟨?_, fun a u v w => by rw [t4 a v w, o4 a u]⟩; unfold pC; rw [if_neg (fun z => z z1), if_neg (fun z => z z2)]; refine ⟨⟨by rw [zz]; exact q1, by rw [zz, q2]; exact z1, fun z => absurd rfl z⟩, t1, by show 0 ≤ s.2.2.2.1 + (pN t (pS t 44 (pN t (s.1 + 1, s.2.1, 0)).2)).1; omega, w3, fun j u v => ?_⟩; have hv' : j < s.2.2.2.1 + (pN t (pS t 44 (pN t (s.1 + 1, s.2.1, 0)).2)).1 := v; exact cpF_only (x := s.2.2.2.2) (y := M_74 (34 + 1)) (n := s.2.2.2.1) (d := (pN t (s.1 + 1, s.2.1, 0)).1) (by omega) (pN t (pS t 44 (pN t (s.1 + 1, s.2.1, 0)).2)).1.toNat t2 (fun j u v => t3 j u (by omega)) j u (by omega)) | (refine ⟨?_, fun a u v w => by rw [mU_cell u, mU_cell u, o4 a u]⟩; unfold pC; rw [if_neg (fun z => z z1), if_pos z2]; exact ⟨⟨by rw [mU_slot (by omega), mU_slot (by omega)]; exact q1, by rw [mU_self]; rfl, fun _ => by rw [mU_slot (by omega), mU_self]⟩, by rw [mU_cell (by omega), mU_cell (by omega), o4 34 (by decide)]; exact r1, r2, r3, fun j u v => by rw [mU_cell (by omega), mU_cell (by omega), o4 35 (by decide)]; exact r4 j u v⟩)
  · have z1 : (s4C t s.1 s.2.1).2.2 ≠ 0 := by (split at h_41; exact absurd rfl h_41; rename_i hz; exact fun e => hz (q2.trans e))
    refine g_vret hX hR d_Reader_takeCopy_44 ?_
    refine ⟨?_, fun a u v w => o4 a u⟩
    unfold pC
    rw [if_pos z1]
    exact ⟨hm4, by rw [o4 34 (by decide)]; exact r1, r2, r3, fun j u v => by rw [o4 35 (by decide)]; exact r4 j u v⟩
theorem pA_i (c : Int) (s : pT) : s.1 ≤ (pA c s).1 ∧ (pA c s).1 ≤ s.1 + 1 := by
  unfold pA
  split
  · exact ⟨Int.le_refl _, by show s.1 ≤ s.1 + 1; omega⟩
  · split
    · exact ⟨Int.le_refl _, by show s.1 ≤ s.1 + 1; omega⟩
    · exact ⟨by show s.1 ≤ s.1 + 1; omega, Int.le_refl _⟩
theorem s4C_i (t : List Int) (i pl : Int) : i < (s4C t i pl).1 ∧ (s4C t i pl).1 ≤ i + 7 := by
  unfold s4C
  have b1 := pN_b t (i + 1, pl, 0)
  have b2 := pS_b t 44 (pN t (i + 1, pl, 0)).2
  have b3 := pN_b t (pS t 44 (pN t (i + 1, pl, 0)).2)
  have b4 := pS_b t 41 (pN t (pS t 44 (pN t (i + 1, pl, 0)).2)).2
  dsimp only at b1
  omega
theorem pC_i (t : List Int) (g : Int → Int) (s : pT) : s.1 < (pC t g s).1 ∧ (pC t g s).1 ≤ s.1 + 7 := by
  have z := s4C_i t s.1 s.2.1
  unfold pC
  split
  · exact z
  · split
    · exact z
    · exact z
def Tc (t : List Int) : Prop := ∀ c ∈ t, 0 ≤ c ∧ c ≤ 126
theorem Tc.ch {t : List Int} (h : Tc t) (i : Int) (hi : 0 ≤ i) : -1 ≤ ch t i ∧ ch t i ≤ 126 := by
  show -1 ≤ (if i < t.length then t.getD i.toNat 0 else -1) ∧ (if i < t.length then t.getD i.toNat 0 else -1) ≤ 126
  split
  · have zm : t.getD i.toNat 0 ∈ t := by
      rw [List.getD_eq_getElem?_getD, List.getElem?_eq_getElem (by omega)]
      exact List.getElem_mem _
    have zc := h _ zm
    omega
  · omega
theorem c_Reader_readThrough {Γ : gX} {l : Launch} {M : mI} {t : List Int} {m : Int} {x g : Int → Int} (ht : Tv M t) (htc : Tc t) (hv : Sv M 1 m x g) (hg : Og g) : Cn Γ l i_Reader_readThrough R0 51 [.ref (gb Γ + 33)] M (pV (fun M' => Rm M' (prT t g) ∧ ∀ a, a ≠ 33 → a ≠ 34 → a ≠ 35 → M' a = M a)) := by
  refine cn_intro (L := [some (.ref (gb Γ + 33)), none, none]) yo_Reader_readThrough.1 rfl (Nat.le_of_ble_eq_true rfl) rfl (fun X hX hR => ?_)
  have ht1 := ht.1
  have ht2 := ht.2.1
  have LOOP : ∀ (q : Nat) (k : Int) (s : pT) (M1 : mI), (120 - k).toNat = q → 0 ≤ k → k ≤ 120 → prs t g q s = prT t g → Rm M1 s → 0 ≤ s.1 ∧ s.1 ≤ 127 → (∀ a, a ≠ 33 → a ≠ 34 → a ≠ 35 → M1 a = M a) → G Γ X 3 (R0, 51, 0, 0) 26 [some (.ref (gb Γ + 33)), some (vI k), none] [] M1 := by
    intro q
    induction q with
    | zero =>
      intro k s M1 hq h0 h1 h2 h3 h4 h5
      refine g_iload_n hX d_Reader_readThrough_26 rfl ?_
      refine g_bipush hX d_Reader_readThrough_27 rfl ?_
      refine g_icmp_ge 92 hX d_Reader_readThrough_29 (by decide) (by omega) (by omega) (fun h_29 => ?_) (fun h_29 => ?_)
      · refine g_vret hX hR d_Reader_readThrough_92 ?_
        have e2 : s = prT t g := h2
        rw [← e2]
        exact ⟨h3, h5⟩
      · exact absurd h_29 (by omega)
    | succ q ih =>
      intro k s M1 hq h0 h1 h2 h3 h4 h5
      have e31 := h5 31 (by decide) (by decide) (by decide)
      have e32 := h5 32 (by decide) (by decide) (by decide)
      have ht' : Tv M1 t := ht.to e31 e32
      have hv' : Sv M1 1 m x g := hv.to (h5 1 (by decide) (by decide) (by decide)) (h5 2 (by decide) (by decide) (by decide)) (h5 3 (by decide) (by decide) (by decide))
      have hm1 : M1 33 3 = s.1 := h3.1.1
      have hm2 : M1 33 5 = s.2.2.1 := h3.1.2.1
      rw [prs_succ] at h2
      have zch := htc.ch s.1 h4.1
      refine g_iload_n hX d_Reader_readThrough_26 rfl ?_
      refine g_bipush hX d_Reader_readThrough_27 rfl ?_
      refine g_icmp_ge 92 hX d_Reader_readThrough_29 (by decide) (by omega) (by omega) (fun h_29 => ?_) (fun h_29 => ?_)
      · exact absurd h_29 (by omega)
      · refine g_aload_n hX d_Reader_readThrough_32 rfl ?_
        refine g_getI hX fl_Reader_18 d_Reader_readThrough_33 3 ⟨rfl, by decide⟩ rfl rfl (fun r_33 => ?_)
        rw [hm1] at r_33 ⊢
        refine g_aload_n hX d_Reader_readThrough_36 rfl ?_
        refine g_getR hX fl_Reader_28 d_Reader_readThrough_37 ⟨rfl, by decide⟩ rfl rfl ?_
        refine g_callV hX yo_Text_size q_592 d_Reader_readThrough_40 c_Text_size rfl rfl ⟨rfl, by decide⟩ rfl (by decide) (Nat.le_of_ble_eq_true rfl) ⟨Nat.zero_le _, Nat.zero_le _⟩ (k_int fun r_40 M_40 ir_40 hp_40 => ?_)
        obtain ⟨er_40, eM_40⟩ := hp_40; replace er_40 := er_40.symm; replace eM_40 := eM_40.symm; subst er_40; subst eM_40
        rw [ht'.1] at ir_40 ⊢
        refine g_icmp_ge 92 hX d_Reader_readThrough_43 (by decide) (by omega) (by omega) (fun h_43 => ?_) (fun h_43 => ?_)
        · refine g_vret hX hR d_Reader_readThrough_92 ?_
          first | (rw [if_neg (by omega)] at h2; rw [← h2]; exact ⟨h3, h5⟩) | (rw [if_neg (fun z => by rw [hm2, if_pos z.2] at h_50; exact h_50 rfl)] at h2; rw [← h2]; exact ⟨h3, h5⟩)
        · refine g_aload_n hX d_Reader_readThrough_46 rfl ?_
          refine g_callV hX yo_Reader_hasFault q_593 d_Reader_readThrough_47 c_Reader_hasFault rfl rfl ⟨rfl, by decide⟩ rfl (by decide) (Nat.le_of_ble_eq_true rfl) ⟨Nat.zero_le _, Nat.zero_le _⟩ (k_int fun r_47 M_47 ir_47 hp_47 => ?_)
          obtain ⟨er_47, eM_47⟩ := hp_47; replace er_47 := er_47.symm; replace eM_47 := eM_47.symm; subst er_47; subst eM_47
          refine g_if_ne 92 hX d_Reader_readThrough_50 (by decide) (by split <;> omega) (fun h_50 => ?_) (fun h_50 => ?_)
          · refine g_vret hX hR d_Reader_readThrough_92 ?_
            first | (rw [if_neg (by omega)] at h2; rw [← h2]; exact ⟨h3, h5⟩) | (rw [if_neg (fun z => by rw [hm2, if_pos z.2] at h_50; exact h_50 rfl)] at h2; rw [← h2]; exact ⟨h3, h5⟩)
          · have z5 : s.2.2.1 = 0 := by (rw [hm2] at h_50; split at h_50; assumption; exact absurd h_50 (by decide))
            rw [if_pos ⟨h_43, z5⟩] at h2
            refine g_aload_n hX d_Reader_readThrough_53 rfl ?_
            refine g_getR hX fl_Reader_28 d_Reader_readThrough_54 ⟨rfl, by decide⟩ rfl rfl ?_
            refine g_aload_n hX d_Reader_readThrough_57 rfl ?_
            refine g_getI hX fl_Reader_18 d_Reader_readThrough_58 3 ⟨rfl, by decide⟩ rfl rfl (fun r_58 => ?_)
            rw [hm1] at r_58 ⊢
            refine g_callV hX yo_Text_characterAt q_597 d_Reader_readThrough_61 (c_Text_characterAt (by have zq := ht'.1; omega) (by omega)) rfl rfl ⟨rfl, by decide⟩ rfl (by decide) (Nat.le_of_ble_eq_true rfl) ⟨Nat.zero_le _, Nat.zero_le _⟩ (k_int fun r_61 M_61 ir_61 hp_61 => ?_)
            obtain ⟨er_61, eM_61⟩ := hp_61; replace er_61 := er_61.symm; replace eM_61 := eM_61.symm; subst er_61; subst eM_61
            rw [ht'.ch h4.1] at ir_61 ⊢
            refine g_istore_n hX d_Reader_readThrough_64 (by decide) ?_
            refine g_iload_n hX d_Reader_readThrough_65 rfl ?_
            refine g_bipush hX d_Reader_readThrough_66 rfl ?_
            refine g_icmp_ne 78 hX d_Reader_readThrough_68 (by decide) (by omega) (by omega) (fun h_68 => ?_) (fun h_68 => ?_)
            · rw [if_neg h_68] at h2
              refine g_aload_n hX d_Reader_readThrough_78 rfl ?_
              refine g_iload_n hX d_Reader_readThrough_79 rfl ?_
              refine g_bipush hX d_Reader_readThrough_80 rfl ?_
              refine g_isub hX d_Reader_readThrough_82 ?_
              refine g_callV hX yo_Reader_takeLetter q_634 d_Reader_readThrough_83 (c_Reader_takeLetter (s := s) (c := ch t s.1 - 97) h3 z5 (by omega) (by omega)) rfl rfl ⟨rfl, by decide⟩ rfl (by decide) (Nat.le_of_ble_eq_true rfl) ⟨Nat.zero_le _, Nat.zero_le _⟩ (k_void fun M_83 hp_83 => ?_)
              obtain ⟨p1, p2⟩ := hp_83
              have pi := pA_i (ch t s.1 - 97) s
              refine g_iinc hX d_Reader_readThrough_86 rfl (by decide) ?_
              refine g_goto 26 hX d_Reader_readThrough_89 (by decide) ?_
              refine g_drop 2 ?_
              exact ih (k + 1) _ _ (by omega) (by omega) (by omega) h2 p1 (by omega) (fun a u v w => by rw [p2 a u v w]; exact h5 a u v w)
            · rw [if_pos h_68] at h2
              refine g_aload_n hX d_Reader_readThrough_71 rfl ?_
              refine g_callV hX yo_Reader_takeCopy q_602 d_Reader_readThrough_72 (c_Reader_takeCopy ht' hv' hg h3 z5 (by omega)) rfl rfl ⟨rfl, by decide⟩ rfl (by decide) (Nat.le_of_ble_eq_true rfl) ⟨Nat.zero_le _, Nat.zero_le _⟩ (k_void fun M_72 hp_72 => ?_)
              obtain ⟨p1, p2⟩ := hp_72
              have pi := pC_i t g s
              refine g_goto 86 hX d_Reader_readThrough_75 (by decide) ?_
              refine g_iinc hX d_Reader_readThrough_86 rfl (by decide) ?_
              refine g_goto 26 hX d_Reader_readThrough_89 (by decide) ?_
              refine g_drop 2 ?_
              exact ih (k + 1) _ _ (by omega) (by omega) (by omega) h2 p1 (by omega) (fun a u v w => by rw [p2 a u v w]; exact h5 a u v w)
  refine g_aload_n hX d_Reader_readThrough_0 rfl ?_
  refine g_getR hX fl_Reader_12 d_Reader_readThrough_1 ⟨rfl, by decide⟩ rfl rfl ?_
  refine g_aload_n hX d_Reader_readThrough_4 rfl ?_
  refine g_getR hX fl_Reader_12 d_Reader_readThrough_5 ⟨rfl, by decide⟩ rfl rfl ?_
  refine g_callV hX yo_State_size q_590 d_Reader_readThrough_8 (c_State_size st_34) rfl rfl ⟨rfl, by decide⟩ rfl (by decide) (Nat.le_of_ble_eq_true rfl) ⟨Nat.zero_le _, Nat.zero_le _⟩ (k_int fun r_8 M_8 ir_8 hp_8 => ?_)
  obtain ⟨er_8, eM_8⟩ := hp_8; replace er_8 := er_8.symm; replace eM_8 := eM_8.symm; subst er_8; subst eM_8
  refine g_callV hX yo_State_shorten q_591 d_Reader_readThrough_11 (c_State_shorten st_34 (by omega)) rfl rfl ⟨rfl, by decide⟩ rfl (by decide) (Nat.le_of_ble_eq_true rfl) ⟨Nat.zero_le _, Nat.zero_le _⟩ (k_void fun M_11 hp_11 => ?_)
  replace hp_11 := hp_11.symm; subst hp_11
  refine g_aload_n hX d_Reader_readThrough_14 rfl ?_
  refine g_iconst hX d_Reader_readThrough_15 ?_
  refine g_putI hX fl_Reader_18 d_Reader_readThrough_16 3 ⟨rfl, by decide⟩ rfl rfl (fun q h => by cases h; rfl) rfl (by omega) ?_
  refine g_aload_n hX d_Reader_readThrough_19 rfl ?_
  refine g_iconst hX d_Reader_readThrough_20 ?_
  refine g_putI hX fl_Reader_25 d_Reader_readThrough_21 5 ⟨rfl, by decide⟩ rfl rfl (fun q h => by cases h; rfl) rfl (by omega) ?_
  refine g_iconst hX d_Reader_readThrough_24 ?_
  refine g_istore_n hX d_Reader_readThrough_25 (by decide) ?_
  exact LOOP 120 0 (0, 0, 0, 0, fun _ => 0) _ rfl (by omega) (by omega) rfl ⟨⟨by rw [mU_slot (by omega), mU_self], by rw [mU_self], fun z => absurd rfl z⟩, by rw [mU_cell (by omega), mU_cell (by omega), mU_self]; show max 0 (M 34 2 - M 34 2) = 0; omega, Int.le_refl _, by show (0 : Int) ≤ 60; omega, fun j u v => by have zv : j < 0 := v; omega⟩ ⟨Int.le_refl _, by show (0 : Int) ≤ 127; omega⟩ (fun a u v w => by rw [mU_cell u, mU_cell u, mU_cell v])
