/-! candidates, the copy found -/
def Og (g : Int → Int) : Prop := (1 ≤ g 0 ∧ g 0 ≤ 60) ∧ (2 ≤ g 1 ∧ g 1 ≤ 6) ∧ (1 ≤ g 2 ∧ g 2 ≤ 60) ∧ (1 ≤ g 3 ∧ g 3 ≤ 20) ∧ (1 ≤ g 4 ∧ g 4 ≤ 60)
def rc (n : Int) (x : Int → Int) (p d : Int) : Int := min 20 (lk n x p d)
/-- how many candidates there are among the distances 1 .. d -/
def cN (n : Int) (x g : Int → Int) (p : Int) : Nat → Int
  | 0 => 0
  | d + 1 => if (d + 1 : Int) ≤ g 0 ∧ 2 ≤ lk n x p (d + 1) then cN n x g p d + 1 else cN n x g p d
/-- those of them that are looked at -/
def cl (n : Int) (x g : Int → Int) (p : Int) : Nat → List Int
  | 0 => []
  | d + 1 => if ((d + 1 : Int) ≤ g 0 ∧ 2 ≤ lk n x p (d + 1)) ∧ ((cl n x g p d).length : Int) < g 2 then cl n x g p d ++ [(d + 1 : Int)] else cl n x g p d
def cNum (n : Int) (x g : Int → Int) (p : Int) : Int := cN n x g p p.toNat
def cs (n : Int) (x g : Int → Int) (p : Int) : List Int := cl n x g p p.toNat
theorem cN_succ (n : Int) (x g : Int → Int) (p : Int) (d : Nat) : cN n x g p (d + 1) = if (d + 1 : Int) ≤ g 0 ∧ 2 ≤ lk n x p (d + 1) then cN n x g p d + 1 else cN n x g p d := rfl
theorem cl_succ (n : Int) (x g : Int → Int) (p : Int) (d : Nat) : cl n x g p (d + 1) = if ((d + 1 : Int) ≤ g 0 ∧ 2 ≤ lk n x p (d + 1)) ∧ ((cl n x g p d).length : Int) < g 2 then cl n x g p d ++ [(d + 1 : Int)] else cl n x g p d := rfl
theorem cN_b (n : Int) (x g : Int → Int) (p : Int) (d : Nat) : 0 ≤ cN n x g p d ∧ cN n x g p d ≤ d := by
  induction d with
  | zero => exact ⟨Int.le_refl _, Int.le_refl _⟩
  | succ d ih => unfold cN; split <;> omega
theorem cl_len (n : Int) (x g : Int → Int) (p : Int) (d : Nat) (h : 1 ≤ g 2) : ((cl n x g p d).length : Int) ≤ g 2 ∧ (cl n x g p d).length ≤ d := by
  induction d with
  | zero => exact ⟨by show (0 : Int) ≤ g 2; omega, Nat.le_refl _⟩
  | succ d ih =>
    unfold cl
    split
    · simp; omega
    · omega
theorem cl_mem (n : Int) (x g : Int → Int) (p : Int) (d : Nat) : ∀ e ∈ cl n x g p d, 1 ≤ e ∧ e ≤ d ∧ e ≤ g 0 ∧ 2 ≤ lk n x p e := by
  induction d with
  | zero => intro e he; cases he
  | succ d ih =>
    intro e he
    unfold cl at he
    split at he
    · rename_i hc
      rcases List.mem_append.mp he with h | h
      · have := ih e h; omega
      · rw [List.mem_singleton] at h
        subst h
        omega
    · have := ih e he; omega
theorem cN_stop {n : Int} {x g : Int → Int} {p : Int} {d : Nat} (h : g 0 ≤ d) (k : Nat) : cN n x g p (d + k) = cN n x g p d := by
  induction k with
  | zero => rfl
  | succ k ih =>
    show cN n x g p (d + k + 1) = _
    rw [cN_succ, if_neg (by omega), ih]
theorem cl_stop {n : Int} {x g : Int → Int} {p : Int} {d : Nat} (h : g 0 ≤ d ∨ g 2 ≤ ((cl n x g p d).length : Int)) (k : Nat) : cl n x g p (d + k) = cl n x g p d := by
  induction k with
  | zero => rfl
  | succ k ih =>
    show cl n x g p (d + k + 1) = _
    rw [cl_succ, ih, if_neg (by omega)]
theorem cs_at {n : Int} {x g : Int → Int} {p : Int} {i : Nat} {d : Int} (h : (cs n x g p)[i]? = some d) (hp : 0 ≤ p) : 1 ≤ d ∧ d ≤ p ∧ d ≤ g 0 ∧ 2 ≤ lk n x p d := by
  have := cl_mem n x g p p.toNat d (List.mem_of_getElem? h)
  omega
/-- the greatest of f over the first i of l that is above c, the first of several; -10004 if none is -/
def Fb (f : Int → Int) (c : Int) (l : List Int) : Nat → Int × Int
  | 0 => (c, -10004)
  | i + 1 => if (Fb f c l i).1 < f (l.getD i 0) then (f (l.getD i 0), l.getD i 0) else Fb f c l i
theorem Fb_succ (f : Int → Int) (c : Int) (l : List Int) (i : Nat) : Fb f c l (i + 1) = if (Fb f c l i).1 < f (l.getD i 0) then (f (l.getD i 0), l.getD i 0) else Fb f c l i := rfl
theorem Fb_app (f : Int → Int) (c : Int) (l l2 : List Int) (i : Nat) (hi : i ≤ l.length) : Fb f c (l ++ l2) i = Fb f c l i := by
  induction i with
  | zero => rfl
  | succ i ih =>
    have e : (l ++ l2).getD i 0 = l.getD i 0 := by
      rw [List.getD_eq_getElem?_getD, List.getD_eq_getElem?_getD, List.getElem?_append_left (by omega)]
    rw [Fb_succ, Fb_succ, ih (by omega), e]
theorem Fb_ge (f : Int → Int) (c : Int) (l : List Int) (i : Nat) : c ≤ (Fb f c l i).1 := by
  induction i with
  | zero => exact Int.le_refl _
  | succ i ih =>
    rw [Fb_succ]
    split
    · show c ≤ f (l.getD i 0); omega
    · exact ih
theorem Fb_two (f : Int → Int) (c : Int) (l : List Int) (hc : 0 ≤ c) (i : Nat) : if c < (Fb f 0 l i).1 then Fb f c l i = Fb f 0 l i else Fb f c l i = (c, -10004) := by
  induction i with
  | zero => rw [if_neg (by show ¬ c < 0; omega)]; rfl
  | succ i ih =>
    rw [Fb_succ f c, Fb_succ f 0]
    by_cases h1 : (Fb f 0 l i).1 < f (l.getD i 0)
    · rw [if_pos h1]
      by_cases h2 : c < (Fb f 0 l i).1
      · rw [if_pos h2] at ih
        rw [ih, if_pos h1, if_pos (by show c < f (l.getD i 0); omega)]
      · rw [if_neg h2] at ih
        rw [ih]
        by_cases h3 : c < f (l.getD i 0)
        · rw [if_pos h3]; rw [if_pos (by exact h3)]
        · rw [if_neg (by exact h3), if_neg (by exact h3)]
    · rw [if_neg h1]
      by_cases h2 : c < (Fb f 0 l i).1
      · rw [if_pos h2] at ih ⊢
        rw [ih, if_neg h1]
      · rw [if_neg h2] at ih ⊢
        rw [ih, if_neg (by show ¬ c < f (l.getD i 0); omega)]
/-- the distance of the copy found at p, -10004 if none is; and its length -/
def bP (n : Int) (x g : Int → Int) (p : Int) : Int × Int := Fb (rc n x p) (g 1 - 1) (cs n x g p) (cs n x g p).length
def bD (n : Int) (x g : Int → Int) (p : Int) : Int := (bP n x g p).2
theorem Fb_spec (f : Int → Int) (c : Int) (l : List Int) (i : Nat) (hi : i ≤ l.length) : ((Fb f c l i).2 = -10004 ∧ (Fb f c l i).1 = c) ∨ (∃ k : Nat, k < i ∧ l[k]? = some (Fb f c l i).2 ∧ (Fb f c l i).1 = f (Fb f c l i).2 ∧ c < (Fb f c l i).1) := by
  induction i with
  | zero => exact Or.inl ⟨rfl, rfl⟩
  | succ i ih =>
    rw [Fb_succ]
    have hl : l[i]? = some (l.getD i 0) := by
      rw [List.getD_eq_getElem?_getD, List.getElem?_eq_getElem (by omega)]; rfl
    have hge := Fb_ge f c l i
    split
    · exact Or.inr ⟨i, by omega, hl, rfl, by show c < f (l.getD i 0); omega⟩
    · rcases ih (by omega) with h | ⟨k, h1, h2⟩
      · exact Or.inl h
      · exact Or.inr ⟨k, by omega, h2⟩
theorem bD_cases {n : Int} {x g : Int → Int} {p : Int} (hg : Og g) (hp : 0 ≤ p) : bD n x g p = -10004 ∨ (1 ≤ bD n x g p ∧ bD n x g p ≤ p ∧ bD n x g p ≤ g 0 ∧ (bP n x g p).1 = rc n x p (bD n x g p) ∧ g 1 ≤ rc n x p (bD n x g p)) := by
  rcases Fb_spec (rc n x p) (g 1 - 1) (cs n x g p) (cs n x g p).length (Nat.le_refl _) with h | ⟨k, h1, h2, h3, h4⟩
  · exact Or.inl h.1
  · right
    have h5 := cs_at h2 hp
    have h6 : (bP n x g p).1 = rc n x p (bD n x g p) := h3
    refine ⟨h5.1, h5.2.1, h5.2.2.1, h6, ?_⟩
    rw [← h6]
    have h7 : g 1 - 1 < (bP n x g p).1 := h4
    omega
def Cp (M : mI) (n : Int) (x g : Int → Int) (p : Int) : Prop := M 21 3 = p ∧ (∀ d, 1 ≤ d → d ≤ g 0 → d ≤ p → M 22 d = lk n x p d) ∧ M 21 4 = cNum n x g p ∧ M 21 5 = ((cs n x g p).length : Int) ∧ ∀ (i : Nat) (d : Int), (cs n x g p)[i]? = some d → M 23 i = d
theorem Cp.to {M M' : mI} {n : Int} {x g : Int → Int} {p : Int} (h : Cp M n x g p) (h0 : M' 21 = M 21) (h1 : M' 22 = M 22) (h2 : M' 23 = M 23) : Cp M' n x g p := by
  unfold Cp
  rw [h0, h1, h2]
  exact h
theorem cN_end (n : Int) (x g : Int → Int) (d : Nat) : cN n x g n d = 0 := by
  induction d with
  | zero => rfl
  | succ d ih =>
    unfold cN
    rw [if_neg (by rw [lk_end (Int.le_refl _)]; omega), ih]
theorem cl_end (n : Int) (x g : Int → Int) (d : Nat) : cl n x g n d = [] := by
  induction d with
  | zero => rfl
  | succ d ih =>
    unfold cl
    rw [if_neg (by rw [lk_end (Int.le_refl _)]; omega), ih]
theorem c_Cand_beginBehindRow {Γ : gX} {l : Launch} {M : mI} {n : Int} {x g : Int → Int} (hv : Sv M 1 n x g) : Cn Γ l i_Cand_beginBehindRow R0 51 [.ref (gb Γ + 21)] M (pV (fun M' => Cp M' n x g n ∧ ∀ a, a ≠ 21 → a ≠ 22 → a ≠ 23 → M' a = M a)) := by
  refine cn_intro (L := [some (.ref (gb Γ + 21)), none]) yo_Cand_beginBehindRow.1 rfl (Nat.le_of_ble_eq_true rfl) rfl (fun X hX hR => ?_)
  obtain ⟨v1, v2, v3, v4, v5⟩ := id hv
  have LOOP : ∀ (q : Nat) (i : Int) (M1 : mI), (61 - i).toNat = q → 0 ≤ i → i ≤ 61 → M1 21 3 = n → M1 21 4 = 0 → M1 21 5 = 0 → (∀ j, 0 ≤ j → j < i → M1 22 j = 0) → (∀ a, a ≠ 21 → a ≠ 22 → a ≠ 23 → M1 a = M a) → G Γ X 2 (R0, 51, 0, 0) 23 [some (.ref (gb Γ + 21)), some (vI i)] [] M1 := by
    intro q
    induction q with
    | zero =>
      intro i M1 hq h0 h1 h2 h3 h4 h5 h6
      refine g_iload_n hX d_Cand_beginBehindRow_23 rfl ?_
      refine g_aload_n hX d_Cand_beginBehindRow_24 rfl ?_
      refine g_getR hX fl_Cand_9 d_Cand_beginBehindRow_25 ⟨rfl, by decide⟩ rfl rfl ?_
      refine g_alen hX d_Cand_beginBehindRow_28 ⟨rfl, by decide⟩ ?_
      refine g_icmp_ge 47 hX d_Cand_beginBehindRow_29 (by decide) (by omega) (by omega) (fun h_29 => ?_) (fun h_29 => ?_)
      · refine g_vret hX hR d_Cand_beginBehindRow_47 ?_
        refine ⟨⟨h2, fun d u v w => ?_, ?_, ?_, fun i d hd => ?_⟩, h6⟩
        · rw [lk_end (Int.le_refl _)]; exact h5 d (by omega) (by omega)
        · rw [h3]; exact (cN_end n x g _).symm
        · rw [h4]; unfold cs; rw [cl_end]; rfl
        · unfold cs at hd; rw [cl_end] at hd; cases hd
      · exact absurd h_29 (by omega)
    | succ q ih =>
      intro i M1 hq h0 h1 h2 h3 h4 h5 h6
      refine g_iload_n hX d_Cand_beginBehindRow_23 rfl ?_
      refine g_aload_n hX d_Cand_beginBehindRow_24 rfl ?_
      refine g_getR hX fl_Cand_9 d_Cand_beginBehindRow_25 ⟨rfl, by decide⟩ rfl rfl ?_
      refine g_alen hX d_Cand_beginBehindRow_28 ⟨rfl, by decide⟩ ?_
      refine g_icmp_ge 47 hX d_Cand_beginBehindRow_29 (by decide) (by omega) (by omega) (fun h_29 => ?_) (fun h_29 => ?_)
      · exact absurd h_29 (by omega)
      · refine g_aload_n hX d_Cand_beginBehindRow_32 rfl ?_
        refine g_getR hX fl_Cand_9 d_Cand_beginBehindRow_33 ⟨rfl, by decide⟩ rfl rfl ?_
        refine g_iload_n hX d_Cand_beginBehindRow_36 rfl ?_
        refine g_iconst hX d_Cand_beginBehindRow_37 ?_
        refine g_callSN (host := "WindowCopies") hX yo_WC_store (by unfold nestWs; simp) d_Cand_beginBehindRow_38 (c_WC_store (k := 22) rfl (by decide) (n := 61) (by omega) (by omega)) rfl rfl (by decide) (Nat.le_of_ble_eq_true rfl) ⟨Nat.zero_le _, Nat.zero_le _⟩ (k_void fun M_38 hp_38 => ?_)
        replace hp_38 := hp_38.symm; subst hp_38
        refine g_iinc hX d_Cand_beginBehindRow_41 rfl (by decide) ?_
        refine g_goto 23 hX d_Cand_beginBehindRow_44 (by decide) ?_
        refine ih (i + 1) _ (by omega) (by omega) (by omega) (by rw [mU_cell (by omega)]; exact h2) (by rw [mU_cell (by omega)]; exact h3) (by rw [mU_cell (by omega)]; exact h4) (fun j u v => ?_) (fun a u v w => by rw [mU_cell v]; exact h6 a u v w)
        by_cases hj : j = i
        · subst hj; rw [mU_self]
        · rw [mU_slot hj]; exact h5 j u (by omega)
  refine g_aload_n hX d_Cand_beginBehindRow_0 rfl ?_
  refine g_aload_n hX d_Cand_beginBehindRow_1 rfl ?_
  refine g_getR hX fl_Cand_28 d_Cand_beginBehindRow_2 ⟨rfl, by decide⟩ rfl rfl ?_
  refine g_callV hX yo_State_size q_315 d_Cand_beginBehindRow_5 (c_State_size st_1) rfl rfl ⟨rfl, by decide⟩ rfl (by decide) (Nat.le_of_ble_eq_true rfl) ⟨Nat.zero_le _, Nat.zero_le _⟩ (k_int fun r_5 M_5 ir_5 hp_5 => ?_)
  obtain ⟨er_5, eM_5⟩ := hp_5; replace er_5 := er_5.symm; replace eM_5 := eM_5.symm; subst er_5; subst eM_5
  refine g_putI hX fl_Cand_18 d_Cand_beginBehindRow_8 3 ⟨rfl, by decide⟩ rfl rfl (fun q h => by cases h; rfl) rfl (by omega) ?_
  refine g_aload_n hX d_Cand_beginBehindRow_11 rfl ?_
  refine g_iconst hX d_Cand_beginBehindRow_12 ?_
  refine g_putI hX fl_Cand_22 d_Cand_beginBehindRow_13 4 ⟨rfl, by decide⟩ rfl rfl (fun q h => by cases h; rfl) rfl (by omega) ?_
  refine g_aload_n hX d_Cand_beginBehindRow_16 rfl ?_
  refine g_iconst hX d_Cand_beginBehindRow_17 ?_
  refine g_putI hX fl_Cand_25 d_Cand_beginBehindRow_18 5 ⟨rfl, by decide⟩ rfl rfl (fun q h => by cases h; rfl) rfl (by omega) ?_
  refine g_iconst hX d_Cand_beginBehindRow_21 ?_
  refine g_istore_n hX d_Cand_beginBehindRow_22 (by decide) ?_
  exact LOOP _ 0 _ rfl (by omega) (by omega) (by rw [mU_slot (by omega), mU_slot (by omega), mU_self]; exact v1) (by rw [mU_slot (by omega), mU_self]) (by rw [mU_self]) (fun j u v => by omega) (fun a u v w => by rw [mU_cell u, mU_cell u, mU_cell u])
theorem c_Cand_takeIn {Γ : gX} {l : Launch} {M : mI} {d c : Int} (h0 : 0 ≤ M 21 5 ∧ M 21 5 ≤ 60) (h1 : iR (M 21 4 + 1)) (hd : iR d) (hc : 0 ≤ c ∧ c ≤ 60) : Cn Γ l i_Cand_takeIn R0 51 [.ref (gb Γ + 21), vI d, vI c] M (pV (fun M' => M' = if M 21 5 < c then mU (mU (mU M 21 4 (M 21 4 + 1)) 23 (M 21 5) d) 21 5 (M 21 5 + 1) else mU M 21 4 (M 21 4 + 1))) := by
  refine cn_intro (L := [some (.ref (gb Γ + 21)), some (vI d), some (vI c)]) yo_Cand_takeIn.1 rfl (Nat.le_of_ble_eq_true rfl) rfl (fun X hX hR => ?_)
  refine g_aload_n hX d_Cand_takeIn_0 rfl ?_
  refine g_dup hX d_Cand_takeIn_1 rfl ?_
  refine g_getI hX fl_Cand_22 d_Cand_takeIn_2 4 ⟨rfl, by decide⟩ rfl rfl (fun r_2 => ?_)
  refine g_iconst hX d_Cand_takeIn_5 ?_
  refine g_iadd hX d_Cand_takeIn_6 ?_
  refine g_putI hX fl_Cand_22 d_Cand_takeIn_7 4 ⟨rfl, by decide⟩ rfl rfl (fun q h => by cases h; rfl) rfl (by omega) ?_
  refine g_aload_n hX d_Cand_takeIn_10 rfl ?_
  refine g_getI hX fl_Cand_25 d_Cand_takeIn_11 5 ⟨rfl, by decide⟩ rfl rfl (fun r_11 => ?_)
  have e11 : mU M 21 4 (M 21 4 + 1) 21 5 = M 21 5 := by rw [mU_slot (by omega)]
  rw [e11] at r_11 ⊢
  refine g_iload_n hX d_Cand_takeIn_14 rfl ?_
  refine g_icmp_ge 40 hX d_Cand_takeIn_15 (by decide) (by omega) (by omega) (fun h_15 => ?_) (fun h_15 => ?_)
  · rw [show (mU M 21 4 (M 21 4 + 1)) = (if M 21 5 < c then mU (mU (mU M 21 4 (M 21 4 + 1)) 23 (M 21 5) d) 21 5 (M 21 5 + 1) else mU M 21 4 (M 21 4 + 1)) by rw [if_neg (by omega)]]
    refine g_vret hX hR d_Cand_takeIn_40 ?_
    first | rfl | rw [if_pos (by omega)]
  · refine g_aload_n hX d_Cand_takeIn_18 rfl ?_
    refine g_getR hX fl_Cand_15 d_Cand_takeIn_19 ⟨rfl, by decide⟩ rfl rfl ?_
    refine g_aload_n hX d_Cand_takeIn_22 rfl ?_
    refine g_getI hX fl_Cand_25 d_Cand_takeIn_23 5 ⟨rfl, by decide⟩ rfl rfl (fun r_23 => ?_)
    rw [e11]
    refine g_iload_n hX d_Cand_takeIn_26 rfl ?_
    refine g_callSN (host := "WindowCopies") hX yo_WC_store (by unfold nestWs; simp) d_Cand_takeIn_27 (c_WC_store (k := 23) rfl (by decide) (n := 60) (by omega) hd) rfl rfl (by decide) (Nat.le_of_ble_eq_true rfl) ⟨Nat.zero_le _, Nat.zero_le _⟩ (k_void fun M_27 hp_27 => ?_)
    replace hp_27 := hp_27.symm; subst hp_27
    refine g_aload_n hX d_Cand_takeIn_30 rfl ?_
    refine g_dup hX d_Cand_takeIn_31 rfl ?_
    refine g_getI hX fl_Cand_25 d_Cand_takeIn_32 5 ⟨rfl, by decide⟩ rfl rfl (fun r_32 => ?_)
    rw [mU_cell (by omega), e11]
    refine g_iconst hX d_Cand_takeIn_35 ?_
    refine g_iadd hX d_Cand_takeIn_36 ?_
    refine g_putI hX fl_Cand_25 d_Cand_takeIn_37 5 ⟨rfl, by decide⟩ rfl rfl (fun q h => by cases h; rfl) rfl (by omega) ?_
    refine g_vret hX hR d_Cand_takeIn_40 ?_
    first | rfl | rw [if_pos (by omega)]
theorem c_Cand_stepAhead {Γ : gX} {l : Launch} {M : mI} {n p : Int} {x g : Int → Int} (hv : Sv M 1 n x g) (hg : Og g) (hc : Cp M n x g (p + 1)) (hp : 0 ≤ p ∧ p < n) : Cn Γ l i_Cand_stepAhead R0 51 [.ref (gb Γ + 21)] M (pV (fun M' => Cp M' n x g p ∧ ∀ a, a ≠ 21 → a ≠ 22 → a ≠ 23 → M' a = M a)) := by
  refine cn_intro (L := [some (.ref (gb Γ + 21)), none, none, none, none, none]) yo_Cand_stepAhead.1 rfl (Nat.le_of_ble_eq_true rfl) rfl (fun X hX hR => ?_)
  obtain ⟨v1, v2, v3, v4, v5⟩ := id hv
  obtain ⟨c1, c2, c3, c4, c5⟩ := hc
  obtain ⟨⟨g0, g0'⟩, ⟨g1, g1'⟩, ⟨g2, g2'⟩, ⟨g3, g3'⟩, ⟨g4, g4'⟩⟩ := id hg
  have LOOP : ∀ (q : Nat) (i : Nat) (M1 : mI), i + q = (min (g 0) p).toNat → M1 21 3 = p → M1 21 4 = cN n x g p i → M1 21 5 = ((cl n x g p i).length : Int) → (∀ (k : Nat) (d : Int), (cl n x g p i)[k]? = some d → M1 23 k = d) → (∀ d : Int, 1 ≤ d → d ≤ i → M1 22 d = lk n x p d) → (∀ d : Int, i < d → d ≤ min (g 0) p → M1 22 d = lk n x (p + 1) d) → (∀ a, a ≠ 21 → a ≠ 22 → a ≠ 23 → M1 a = M a) → G Γ X 6 (R0, 51, 0, 0) 47 [some (.ref (gb Γ + 21)), some (vI (min (g 0) p)), some (vI (g 2)), some (vI ((i : Int) + 1)), none, none] [] M1 := by
    intro q
    induction q with
    | zero =>
      intro i M1 hq h1 h2 h3 h4 h5 h6 h7
      refine g_iload_n hX d_Cand_stepAhead_47 rfl ?_
      refine g_iload_n hX d_Cand_stepAhead_48 rfl ?_
      refine g_icmp_gt 135 hX d_Cand_stepAhead_49 (by decide) (by omega) (by omega) (fun h_49 => ?_) (fun h_49 => ?_)
      · refine g_vret hX hR d_Cand_stepAhead_135 ?_
        have hst : cl n x g p p.toNat = cl n x g p i := by
          obtain ⟨k, hk⟩ : ∃ k : Nat, p.toNat = i + k := ⟨p.toNat - i, by omega⟩
          by_cases hz : k = 0
          · rw [hk, hz]; rfl
          · rw [hk]; exact cl_stop (Or.inl (by omega)) k
        have hsn : cN n x g p p.toNat = cN n x g p i := by
          obtain ⟨k, hk⟩ : ∃ k : Nat, p.toNat = i + k := ⟨p.toNat - i, by omega⟩
          by_cases hz : k = 0
          · rw [hk, hz]; rfl
          · rw [hk]; exact cN_stop (by omega) k
        refine ⟨⟨h1, fun d u v w => h5 d u (by omega), by unfold cNum; rw [hsn]; exact h2, by unfold cs; rw [hst]; exact h3, fun k d hd => by unfold cs at hd; rw [hst] at hd; exact h4 k d hd⟩, h7⟩
      · exact absurd h_49 (by omega)
    | succ q ih =>
      intro i M1 hq h1 h2 h3 h4 h5 h6 h7
      have hb1 := cN_b n x g p i
      have hb2 := cl_len n x g p i g2
      have w1 : Sv M1 1 n x g := hv.to (h7 1 (by decide) (by decide) (by decide)) (h7 2 (by decide) (by decide) (by decide)) (h7 3 (by decide) (by decide) (by decide))
      obtain ⟨y1, y2, y3, y4, y5⟩ := id w1
      have hlk := lk_nonneg n x p (i + 1)
      have hlk2 := @lk_le n x p (i + 1) (by omega)
      have J : ∀ (M2 : mI), M2 21 3 = p → M2 21 4 = cN n x g p (i + 1) → M2 21 5 = ((cl n x g p (i + 1)).length : Int) → (∀ (k : Nat) (d : Int), (cl n x g p (i + 1))[k]? = some d → M2 23 k = d) → M2 22 = mU M1 22 (i + 1) (lk n x p (i + 1)) 22 → (∀ a, a ≠ 21 → a ≠ 22 → a ≠ 23 → M2 a = M1 a) → G Γ X 6 (R0, 51, 0, 0) 129 [some (.ref (gb Γ + 21)), some (vI (min (g 0) p)), some (vI (g 2)), some (vI ((i : Int) + 1)), none, none] [] M2 := by
        intro M2 e1 e2 e3 e4 e5 e6
        refine g_iinc hX d_Cand_stepAhead_129 rfl (by decide) ?_
        refine g_goto 47 hX d_Cand_stepAhead_132 (by decide) ?_
        refine ih (i + 1) M2 (by omega) e1 e2 e3 e4 (fun d u v => ?_) (fun d u v => ?_) (fun a u v w => by rw [e6 a u v w]; exact h7 a u v w)
        · rw [e5]
          by_cases hd : d = i + 1
          · rw [hd, mU_self]
          · rw [mU_slot hd]; exact h5 d u (by omega)
        · rw [e5, mU_slot (by omega)]; exact h6 d (by omega) v
      have K : ∀ v : Int, v = lk n x p (i + 1) → G Γ X 6 (R0, 51, 0, 0) 105 [some (.ref (gb Γ + 21)), some (vI (min (g 0) p)), some (vI (g 2)), some (vI ((i : Int) + 1)), none, none] [vI v] M1 := by
        intro v hv'
        subst hv'
        refine g_istore hX d_Cand_stepAhead_105 (by decide) ?_
        refine g_aload_n hX d_Cand_stepAhead_107 rfl ?_
        refine g_getR hX fl_Cand_9 d_Cand_stepAhead_108 ⟨rfl, by decide⟩ rfl rfl ?_
        refine g_iload_n hX d_Cand_stepAhead_111 rfl ?_
        refine g_iload hX d_Cand_stepAhead_112 rfl ?_
        refine g_callSN (host := "WindowCopies") hX yo_WC_store (by unfold nestWs; simp) d_Cand_stepAhead_114 (c_WC_store (k := 22) rfl (by decide) (n := 61) (by omega) (by omega)) rfl rfl (by decide) (Nat.le_of_ble_eq_true rfl) ⟨Nat.zero_le _, Nat.zero_le _⟩ (k_void fun M_114 hp_114 => ?_)
        replace hp_114 := hp_114.symm; subst hp_114
        refine g_iload hX d_Cand_stepAhead_117 rfl ?_
        refine g_iconst hX d_Cand_stepAhead_119 ?_
        refine g_icmp_lt 129 hX d_Cand_stepAhead_120 (by decide) (by omega) (by omega) (fun h_120 => ?_) (fun h_120 => ?_)
        · refine g_drop 5 ?_
          exact J _ (by rw [mU_cell (by omega)]; exact h1) (by rw [mU_cell (by omega), cN_succ, if_neg (by omega)]; exact h2) (by rw [mU_cell (by omega), cl_succ, if_neg (by omega)]; exact h3) (fun k d hd => by rw [mU_cell (by omega)]; rw [cl_succ, if_neg (by omega)] at hd; exact h4 k d hd) rfl (fun a u v w => by rw [mU_cell v])
        · refine g_aload_n hX d_Cand_stepAhead_123 rfl ?_
          refine g_iload_n hX d_Cand_stepAhead_124 rfl ?_
          refine g_iload_n hX d_Cand_stepAhead_125 rfl ?_
          refine g_callV hX yo_Cand_takeIn q_327 d_Cand_stepAhead_126 (c_Cand_takeIn (by rw [mU_cell (by omega)]; omega) (by rw [mU_cell (by omega)]; omega) (by omega) (by omega)) rfl rfl ⟨rfl, by decide⟩ rfl (by decide) (Nat.le_of_ble_eq_true rfl) ⟨Nat.zero_le _, Nat.zero_le _⟩ (k_void fun M_126 hp_126 => ?_)
          replace hp_126 := hp_126.symm; subst hp_126
          refine g_drop 5 ?_
          have e4 : (mU M1 22 ((i : Int) + 1) (lk n x p (i + 1))) 21 = M1 21 := mU_cell (by omega)
          by_cases hq2 : ((cl n x g p i).length : Int) < g 2
          · rw [if_pos (by rw [e4]; omega)]
            refine J _ ?_ ?_ ?_ (fun k d hd => ?_) ?_ (fun a u v w => ?_)
            · rw [mU_slot (by omega), mU_cell (by omega), mU_slot (by omega), e4]; exact h1
            · rw [mU_slot (by omega), mU_cell (by omega), mU_self, e4, cN_succ, if_pos (by omega), h2]
            · rw [mU_self, e4, cl_succ, if_pos (by omega), h3]; simp
            · rw [cl_succ, if_pos (by omega)] at hd
              rw [mU_cell (by omega), e4, h3]
              by_cases hk : k < (cl n x g p i).length
              · rw [List.getElem?_append_left hk] at hd
                rw [mU_slot (by omega), mU_cell (by omega), mU_cell (by omega)]
                exact h4 k d hd
              · have hk2 : k = (cl n x g p i).length := by
                  have := (List.getElem?_eq_some_iff.mp hd).1
                  simp at this
                  omega
                subst hk2
                rw [mU_self]
                simpa using hd
            · rw [mU_cell (by omega), mU_cell (by omega), mU_cell (by omega)]
            · rw [mU_cell u, mU_cell w, mU_cell u, mU_cell v]
          · rw [if_neg (by rw [e4]; omega)]
            refine J _ ?_ ?_ ?_ (fun k d hd => ?_) ?_ (fun a u v w => ?_)
            · rw [mU_slot (by omega), e4]; exact h1
            · rw [mU_self, e4, cN_succ, if_pos (by omega), h2]
            · rw [mU_slot (by omega), e4, cl_succ, if_neg (by omega), h3]
            · rw [cl_succ, if_neg (by omega)] at hd
              rw [mU_cell (by omega), mU_cell (by omega)]
              exact h4 k d hd
            · rw [mU_cell (by omega)]
            · rw [mU_cell u, mU_cell v]
      refine g_iload_n hX d_Cand_stepAhead_47 rfl ?_
      refine g_iload_n hX d_Cand_stepAhead_48 rfl ?_
      refine g_icmp_gt 135 hX d_Cand_stepAhead_49 (by decide) (by omega) (by omega) (fun h_49 => ?_) (fun h_49 => ?_)
      · exact absurd h_49 (by omega)
      · refine g_aload_n hX d_Cand_stepAhead_52 rfl ?_
        refine g_getR hX fl_Cand_28 d_Cand_stepAhead_53 ⟨rfl, by decide⟩ rfl rfl ?_
        refine g_aload_n hX d_Cand_stepAhead_56 rfl ?_
        refine g_getI hX fl_Cand_18 d_Cand_stepAhead_57 3 ⟨rfl, by decide⟩ rfl rfl (fun r_57 => ?_)
        rw [h1] at r_57 ⊢
        refine g_callV hX yo_State_letterAt q_325 d_Cand_stepAhead_60 (c_State_letterAt st_1 (p := p) (by omega)) rfl rfl ⟨rfl, by decide⟩ rfl (by decide) (Nat.le_of_ble_eq_true rfl) ⟨Nat.zero_le _, Nat.zero_le _⟩ (k_int fun r_60 M_60 ir_60 hp_60 => ?_)
        obtain ⟨er_60, eM_60⟩ := hp_60; replace er_60 := er_60.symm; replace eM_60 := eM_60.symm; subst er_60; subst eM_60
        refine g_aload_n hX d_Cand_stepAhead_63 rfl ?_
        refine g_getR hX fl_Cand_28 d_Cand_stepAhead_64 ⟨rfl, by decide⟩ rfl rfl ?_
        refine g_aload_n hX d_Cand_stepAhead_67 rfl ?_
        refine g_getI hX fl_Cand_18 d_Cand_stepAhead_68 3 ⟨rfl, by decide⟩ rfl rfl (fun r_68 => ?_)
        rw [h1] at r_68 ⊢
        refine g_iload_n hX d_Cand_stepAhead_71 rfl ?_
        refine g_isub hX d_Cand_stepAhead_72 ?_
        refine g_callV hX yo_State_letterAt q_325 d_Cand_stepAhead_73 (c_State_letterAt st_1 (p := p - (i + 1)) (by omega)) rfl rfl ⟨rfl, by decide⟩ rfl (by decide) (Nat.le_of_ble_eq_true rfl) ⟨Nat.zero_le _, Nat.zero_le _⟩ (k_int fun r_73 M_73 ir_73 hp_73 => ?_)
        obtain ⟨er_73, eM_73⟩ := hp_73; replace er_73 := er_73.symm; replace eM_73 := eM_73.symm; subst er_73; subst eM_73
        rw [y4 p (by omega) (by omega)] at ir_60 ⊢
        rw [y4 (p - (i + 1)) (by omega) (by omega)] at ir_73 ⊢
        refine g_icmp_ne 83 hX d_Cand_stepAhead_76 (by decide) (by omega) (by omega) (fun h_76 => ?_) (fun h_76 => ?_)
        · refine g_iconst hX d_Cand_stepAhead_83 ?_
          refine g_istore hX d_Cand_stepAhead_84 (by decide) ?_
          refine g_iload hX d_Cand_stepAhead_86 rfl ?_
          refine g_if_eq 104 hX d_Cand_stepAhead_88 (by decide) (by omega) (fun h_88 => ?_) (fun h_88 => ?_)
          · refine g_iconst hX d_Cand_stepAhead_104 ?_
            first | exact absurd h_88 (by decide) | exact absurd rfl h_88 | (refine g_drop 4 ?_; exact K _ (lk_ne (by omega) h_76).symm) | (refine g_drop 4 ?_; exact K _ (by rw [lk_eq (by omega) h_76, h6 (i + 1) (by omega) (by omega)]))
          · refine g_aload_n hX d_Cand_stepAhead_91 rfl ?_
            refine g_getR hX fl_Cand_9 d_Cand_stepAhead_92 ⟨rfl, by decide⟩ rfl rfl ?_
            refine g_iload_n hX d_Cand_stepAhead_95 rfl ?_
            refine g_callSN (host := "WindowCopies") hX yo_WC_at (by unfold nestWs; simp) d_Cand_stepAhead_96 (c_WC_at (k := 22) rfl (by decide) (n := 61) (by omega)) rfl rfl (by decide) (Nat.le_of_ble_eq_true rfl) ⟨Nat.zero_le _, Nat.zero_le _⟩ (k_int fun r_96 M_96 ir_96 hp_96 => ?_)
            obtain ⟨er_96, eM_96⟩ := hp_96; replace er_96 := er_96.symm; replace eM_96 := eM_96.symm; subst er_96; subst eM_96
            refine g_iconst hX d_Cand_stepAhead_99 ?_
            refine g_iadd hX d_Cand_stepAhead_100 ?_
            refine g_goto 105 hX d_Cand_stepAhead_101 (by decide) ?_
            first | exact absurd h_88 (by decide) | exact absurd rfl h_88 | (refine g_drop 4 ?_; exact K _ (lk_ne (by omega) h_76).symm) | (refine g_drop 4 ?_; exact K _ (by rw [lk_eq (by omega) h_76, h6 (i + 1) (by omega) (by omega)]))
        · refine g_iconst hX d_Cand_stepAhead_79 ?_
          refine g_goto 84 hX d_Cand_stepAhead_80 (by decide) ?_
          refine g_istore hX d_Cand_stepAhead_84 (by decide) ?_
          refine g_iload hX d_Cand_stepAhead_86 rfl ?_
          refine g_if_eq 104 hX d_Cand_stepAhead_88 (by decide) (by omega) (fun h_88 => ?_) (fun h_88 => ?_)
          · refine g_iconst hX d_Cand_stepAhead_104 ?_
            first | exact absurd h_88 (by decide) | exact absurd rfl h_88 | (refine g_drop 4 ?_; exact K _ (lk_ne (by omega) h_76).symm) | (refine g_drop 4 ?_; exact K _ (by rw [lk_eq (by omega) h_76, h6 (i + 1) (by omega) (by omega)]))
          · refine g_aload_n hX d_Cand_stepAhead_91 rfl ?_
            refine g_getR hX fl_Cand_9 d_Cand_stepAhead_92 ⟨rfl, by decide⟩ rfl rfl ?_
            refine g_iload_n hX d_Cand_stepAhead_95 rfl ?_
            refine g_callSN (host := "WindowCopies") hX yo_WC_at (by unfold nestWs; simp) d_Cand_stepAhead_96 (c_WC_at (k := 22) rfl (by decide) (n := 61) (by omega)) rfl rfl (by decide) (Nat.le_of_ble_eq_true rfl) ⟨Nat.zero_le _, Nat.zero_le _⟩ (k_int fun r_96 M_96 ir_96 hp_96 => ?_)
            obtain ⟨er_96, eM_96⟩ := hp_96; replace er_96 := er_96.symm; replace eM_96 := eM_96.symm; subst er_96; subst eM_96
            refine g_iconst hX d_Cand_stepAhead_99 ?_
            refine g_iadd hX d_Cand_stepAhead_100 ?_
            refine g_goto 105 hX d_Cand_stepAhead_101 (by decide) ?_
            first | exact absurd h_88 (by decide) | exact absurd rfl h_88 | (refine g_drop 4 ?_; exact K _ (lk_ne (by omega) h_76).symm) | (refine g_drop 4 ?_; exact K _ (by rw [lk_eq (by omega) h_76, h6 (i + 1) (by omega) (by omega)]))
  refine g_aload_n hX d_Cand_stepAhead_0 rfl ?_
  refine g_dup hX d_Cand_stepAhead_1 rfl ?_
  refine g_getI hX fl_Cand_18 d_Cand_stepAhead_2 3 ⟨rfl, by decide⟩ rfl rfl (fun r_2 => ?_)
  rw [c1] at r_2 ⊢
  refine g_iconst hX d_Cand_stepAhead_5 ?_
  refine g_isub hX d_Cand_stepAhead_6 ?_
  rw [show p + 1 - 1 = p by omega]
  refine g_putI hX fl_Cand_18 d_Cand_stepAhead_7 3 ⟨rfl, by decide⟩ rfl rfl (fun q h => by cases h; rfl) rfl (by omega) ?_
  refine g_aload_n hX d_Cand_stepAhead_10 rfl ?_
  refine g_iconst hX d_Cand_stepAhead_11 ?_
  refine g_putI hX fl_Cand_22 d_Cand_stepAhead_12 4 ⟨rfl, by decide⟩ rfl rfl (fun q h => by cases h; rfl) rfl (by omega) ?_
  refine g_aload_n hX d_Cand_stepAhead_15 rfl ?_
  refine g_iconst hX d_Cand_stepAhead_16 ?_
  refine g_putI hX fl_Cand_25 d_Cand_stepAhead_17 5 ⟨rfl, by decide⟩ rfl rfl (fun q h => by cases h; rfl) rfl (by omega) ?_
  refine g_aload_n hX d_Cand_stepAhead_20 rfl ?_
  refine g_getR hX fl_Cand_28 d_Cand_stepAhead_21 ⟨rfl, by decide⟩ rfl rfl ?_
  refine g_iconst hX d_Cand_stepAhead_24 ?_
  refine g_callV hX yo_State_setting q_321 d_Cand_stepAhead_25 (c_State_setting st_1 (p := 0) (by omega)) rfl rfl ⟨rfl, by decide⟩ rfl (by decide) (Nat.le_of_ble_eq_true rfl) ⟨Nat.zero_le _, Nat.zero_le _⟩ (k_int fun r_25 M_25 ir_25 hp_25 => ?_)
  obtain ⟨er_25, eM_25⟩ := hp_25; replace er_25 := er_25.symm; replace eM_25 := eM_25.symm; subst er_25; subst eM_25
  rw [mU_cell (by omega), mU_cell (by omega), mU_cell (by omega), v5 0 (by omega) (by omega)] at ir_25 ⊢
  refine g_aload_n hX d_Cand_stepAhead_28 rfl ?_
  refine g_getI hX fl_Cand_18 d_Cand_stepAhead_29 3 ⟨rfl, by decide⟩ rfl rfl (fun r_29 => ?_)
  rw [mU_slot (by omega), mU_slot (by omega), mU_self] at r_29 ⊢
  refine g_min hX d_Cand_stepAhead_32 q_322 (by omega) (by omega) (by decide) (Nat.le_of_ble_eq_true rfl) ⟨Nat.zero_le _, Nat.zero_le _⟩ ?_
  refine g_istore_n hX d_Cand_stepAhead_35 (by decide) ?_
  refine g_aload_n hX d_Cand_stepAhead_36 rfl ?_
  refine g_getR hX fl_Cand_28 d_Cand_stepAhead_37 ⟨rfl, by decide⟩ rfl rfl ?_
  refine g_iconst hX d_Cand_stepAhead_40 ?_
  refine g_callV hX yo_State_setting q_321 d_Cand_stepAhead_41 (c_State_setting st_1 (p := 2) (by omega)) rfl rfl ⟨rfl, by decide⟩ rfl (by decide) (Nat.le_of_ble_eq_true rfl) ⟨Nat.zero_le _, Nat.zero_le _⟩ (k_int fun r_41 M_41 ir_41 hp_41 => ?_)
  obtain ⟨er_41, eM_41⟩ := hp_41; replace er_41 := er_41.symm; replace eM_41 := eM_41.symm; subst er_41; subst eM_41
  rw [mU_cell (by omega), mU_cell (by omega), mU_cell (by omega), v5 2 (by omega) (by omega)] at ir_41 ⊢
  refine g_istore_n hX d_Cand_stepAhead_44 (by decide) ?_
  refine g_iconst hX d_Cand_stepAhead_45 ?_
  refine g_istore_n hX d_Cand_stepAhead_46 (by decide) ?_
  exact LOOP _ 0 _ (Nat.zero_add _) (by rw [mU_slot (by omega), mU_slot (by omega), mU_self]) (by rw [mU_slot (by omega), mU_self]; rfl) (by rw [mU_self]; rfl) (fun k d hd => by cases hd) (fun d u v => by omega) (fun d u v => by rw [mU_cell (by omega), mU_cell (by omega), mU_cell (by omega)]; exact c2 d (by omega) (by omega) (by omega)) (fun a u v w => by rw [mU_cell u, mU_cell u, mU_cell u])
theorem c_Cand_lookAt {Γ : gX} {l : Launch} {M : mI} {n p : Int} {x g : Int → Int} (hv : Sv M 1 n x g) (hg : Og g) (hp : 0 ≤ p ∧ p < n) : Cn Γ l i_Cand_lookAt R0 51 [.ref (gb Γ + 21), vI p] M (pV (fun M' => Cp M' n x g p ∧ ∀ a, a ≠ 21 → a ≠ 22 → a ≠ 23 → M' a = M a)) := by
  refine cn_intro (L := [some (.ref (gb Γ + 21)), some (vI p), none]) yo_Cand_lookAt.1 rfl (Nat.le_of_ble_eq_true rfl) rfl (fun X hX hR => ?_)
  obtain ⟨v1, v2, v3, v4, v5⟩ := id hv
  have LOOP : ∀ (q : Nat) (j : Int) (M1 : mI), (j + 1 - p).toNat = q → p - 1 ≤ j → j < n → Cp M1 n x g (j + 1) → (∀ a, a ≠ 21 → a ≠ 22 → a ≠ 23 → M1 a = M a) → G Γ X 3 (R0, 51, 0, 0) 14 [some (.ref (gb Γ + 21)), some (vI p), some (vI j)] [] M1 := by
    intro q
    induction q with
    | zero =>
      intro j M1 hq h0 h1 h2 h3
      refine g_iload_n hX d_Cand_lookAt_14 rfl ?_
      refine g_iload_n hX d_Cand_lookAt_15 rfl ?_
      refine g_icmp_lt 29 hX d_Cand_lookAt_16 (by decide) (by omega) (by omega) (fun h_16 => ?_) (fun h_16 => ?_)
      · refine g_vret hX hR d_Cand_lookAt_29 ?_
        rw [show j + 1 = p by omega] at h2
        exact ⟨h2, h3⟩
      · exact absurd h_16 (by omega)
    | succ q ih =>
      intro j M1 hq h0 h1 h2 h3
      refine g_iload_n hX d_Cand_lookAt_14 rfl ?_
      refine g_iload_n hX d_Cand_lookAt_15 rfl ?_
      refine g_icmp_lt 29 hX d_Cand_lookAt_16 (by decide) (by omega) (by omega) (fun h_16 => ?_) (fun h_16 => ?_)
      · exact absurd h_16 (by omega)
      · refine g_aload_n hX d_Cand_lookAt_19 rfl ?_
        refine g_callV hX yo_Cand_stepAhead q_317 d_Cand_lookAt_20 (c_Cand_stepAhead (p := j) (hv.to (h3 1 (by decide) (by decide) (by decide)) (h3 2 (by decide) (by decide) (by decide)) (h3 3 (by decide) (by decide) (by decide))) hg h2 (by omega)) rfl rfl ⟨rfl, by decide⟩ rfl (by decide) (Nat.le_of_ble_eq_true rfl) ⟨Nat.zero_le _, Nat.zero_le _⟩ (k_void fun M_20 hp_20 => ?_)
        obtain ⟨p3, p4⟩ := hp_20
        refine g_iinc hX d_Cand_lookAt_23 rfl (by decide) ?_
        refine g_goto 14 hX d_Cand_lookAt_26 (by decide) ?_
        exact ih (j + -1) _ (by omega) (by omega) (by omega) (by rw [show j + -1 + 1 = j by omega]; exact p3) (fun a u v w => by rw [p4 a u v w]; exact h3 a u v w)
  refine g_aload_n hX d_Cand_lookAt_0 rfl ?_
  refine g_callV hX yo_Cand_beginBehindRow q_311 d_Cand_lookAt_1 (c_Cand_beginBehindRow hv) rfl rfl ⟨rfl, by decide⟩ rfl (by decide) (Nat.le_of_ble_eq_true rfl) ⟨Nat.zero_le _, Nat.zero_le _⟩ (k_void fun M_1 hp_1 => ?_)
  obtain ⟨p1, p2⟩ := hp_1
  refine g_aload_n hX d_Cand_lookAt_4 rfl ?_
  refine g_getR hX fl_Cand_28 d_Cand_lookAt_5 ⟨rfl, by decide⟩ rfl rfl ?_
  refine g_callV hX yo_State_size q_315 d_Cand_lookAt_8 (c_State_size st_1) rfl rfl ⟨rfl, by decide⟩ rfl (by decide) (Nat.le_of_ble_eq_true rfl) ⟨Nat.zero_le _, Nat.zero_le _⟩ (k_int fun r_8 M_8 ir_8 hp_8 => ?_)
  obtain ⟨er_8, eM_8⟩ := hp_8; replace er_8 := er_8.symm; replace eM_8 := eM_8.symm; subst er_8; subst eM_8
  have e8 : M_1 1 2 = n := by (rw [p2 1 (by decide) (by decide) (by decide)]; exact v1)
  rw [e8] at ir_8 ⊢
  refine g_iconst hX d_Cand_lookAt_11 ?_
  refine g_isub hX d_Cand_lookAt_12 ?_
  refine g_istore_n hX d_Cand_lookAt_13 (by decide) ?_
  exact LOOP _ (n - 1) M_1 rfl (by omega) (by omega) (by rw [show n - 1 + 1 = n by omega]; exact p1) p2
theorem c_Cand_all {Γ : gX} {l : Launch} {M : mI} : Cn Γ l i_Cand_all R0 51 [.ref (gb Γ + 21)] M (pI (fun r M' => r = M 21 4 ∧ M' = M)) := by
  refine cn_intro (L := [some (.ref (gb Γ + 21))]) yo_Cand_all.1 rfl (Nat.le_of_ble_eq_true rfl) rfl (fun X hX hR => ?_)
  refine g_aload_n hX d_Cand_all_0 rfl ?_
  refine g_getI hX fl_Cand_22 d_Cand_all_1 4 ⟨rfl, by decide⟩ rfl rfl (fun r_1 => ?_)
  refine g_iret hX hR d_Cand_all_4 (by omega) ?_
  exact ⟨rfl, rfl⟩
theorem c_Cand_lookedAt {Γ : gX} {l : Launch} {M : mI} : Cn Γ l i_Cand_lookedAt R0 51 [.ref (gb Γ + 21)] M (pI (fun r M' => r = M 21 5 ∧ M' = M)) := by
  refine cn_intro (L := [some (.ref (gb Γ + 21))]) yo_Cand_lookedAt.1 rfl (Nat.le_of_ble_eq_true rfl) rfl (fun X hX hR => ?_)
  refine g_aload_n hX d_Cand_lookedAt_0 rfl ?_
  refine g_getI hX fl_Cand_25 d_Cand_lookedAt_1 5 ⟨rfl, by decide⟩ rfl rfl (fun r_1 => ?_)
  refine g_iret hX hR d_Cand_lookedAt_4 (by omega) ?_
  exact ⟨rfl, rfl⟩
theorem c_Cand_distance {Γ : gX} {l : Launch} {M : mI} {n p d : Int} {x g : Int → Int} {i : Nat} (hc : Cp M n x g p) (hg : Og g) (hi : (cs n x g p)[i]? = some d) : Cn Γ l i_Cand_distance R0 51 [.ref (gb Γ + 21), vI i] M (pI (fun r M' => r = d ∧ M' = M)) := by
  refine cn_intro (L := [some (.ref (gb Γ + 21)), some (vI i)]) yo_Cand_distance.1 rfl (Nat.le_of_ble_eq_true rfl) rfl (fun X hX hR => ?_)
  have h1 := (List.getElem?_eq_some_iff.mp hi).1
  have h2 := (cl_len n x g p p.toNat hg.2.2.1.1).1
  have h3 := hg.2.2.1.2
  unfold cs at h1
  refine g_aload_n hX d_Cand_distance_0 rfl ?_
  refine g_getR hX fl_Cand_15 d_Cand_distance_1 ⟨rfl, by decide⟩ rfl rfl ?_
  refine g_iload_n hX d_Cand_distance_4 rfl ?_
  refine g_callSN (host := "WindowCopies") hX yo_WC_at (by unfold nestWs; simp) d_Cand_distance_5 (c_WC_at (k := 23) rfl (by decide) (n := 60) (by omega)) rfl rfl (by decide) (Nat.le_of_ble_eq_true rfl) ⟨Nat.zero_le _, Nat.zero_le _⟩ (k_int fun r_5 M_5 ir_5 hp_5 => ?_)
  obtain ⟨er_5, eM_5⟩ := hp_5; replace er_5 := er_5.symm; replace eM_5 := eM_5.symm; subst er_5; subst eM_5
  refine g_iret hX hR d_Cand_distance_8 (by omega) ?_
  exact ⟨hc.2.2.2.2 i d hi, rfl⟩
theorem c_Cand_reach {Γ : gX} {l : Launch} {M : mI} {n p d : Int} {x g : Int → Int} {i : Nat} (hc : Cp M n x g p) (hg : Og g) (hi : (cs n x g p)[i]? = some d) (hp : 0 ≤ p ∧ p ≤ n ∧ n ≤ 60) : Cn Γ l i_Cand_reach R0 51 [.ref (gb Γ + 21), vI i] M (pI (fun r M' => r = rc n x p d ∧ M' = M)) := by
  refine cn_intro (L := [some (.ref (gb Γ + 21)), some (vI i)]) yo_Cand_reach.1 rfl (Nat.le_of_ble_eq_true rfl) rfl (fun X hX hR => ?_)
  have h1 := (List.getElem?_eq_some_iff.mp hi).1
  have h2 := (cl_len n x g p p.toNat hg.2.2.1.1).1
  have h3 := hg.2.2.1.2
  have h4 := cs_at hi hp.1
  unfold cs at h1
  refine g_bipush hX d_Cand_reach_0 rfl ?_
  refine g_aload_n hX d_Cand_reach_2 rfl ?_
  refine g_getR hX fl_Cand_9 d_Cand_reach_3 ⟨rfl, by decide⟩ rfl rfl ?_
  refine g_aload_n hX d_Cand_reach_6 rfl ?_
  refine g_getR hX fl_Cand_15 d_Cand_reach_7 ⟨rfl, by decide⟩ rfl rfl ?_
  refine g_iload_n hX d_Cand_reach_10 rfl ?_
  refine g_callSN (host := "WindowCopies") hX yo_WC_at (by unfold nestWs; simp) d_Cand_reach_11 (c_WC_at (k := 23) rfl (by decide) (n := 60) (by omega)) rfl rfl (by decide) (Nat.le_of_ble_eq_true rfl) ⟨Nat.zero_le _, Nat.zero_le _⟩ (k_int fun r_11 M_11 ir_11 hp_11 => ?_)
  obtain ⟨er_11, eM_11⟩ := hp_11; replace er_11 := er_11.symm; replace eM_11 := eM_11.symm; subst er_11; subst eM_11
  rw [hc.2.2.2.2 i d hi] at ir_11 ⊢
  refine g_callSN (host := "WindowCopies") hX yo_WC_at (by unfold nestWs; simp) d_Cand_reach_14 (c_WC_at (k := 22) rfl (by decide) (n := 61) (by omega)) rfl rfl (by decide) (Nat.le_of_ble_eq_true rfl) ⟨Nat.zero_le _, Nat.zero_le _⟩ (k_int fun r_14 M_14 ir_14 hp_14 => ?_)
  obtain ⟨er_14, eM_14⟩ := hp_14; replace er_14 := er_14.symm; replace eM_14 := eM_14.symm; subst er_14; subst eM_14
  refine g_min hX d_Cand_reach_17 q_322 (by omega) (by omega) (by decide) (Nat.le_of_ble_eq_true rfl) ⟨Nat.zero_le _, Nat.zero_le _⟩ ?_
  refine g_iret hX hR d_Cand_reach_20 (by omega) ?_
  exact ⟨by rw [hc.2.1 d (by omega) (by omega) (by omega)]; rfl, rfl⟩
theorem c_Cand_best {Γ : gX} {l : Launch} {M : mI} {n p : Int} {x g : Int → Int} (hv : Sv M 1 n x g) (hc : Cp M n x g p) (hg : Og g) (hp : 0 ≤ p ∧ p ≤ n) : Cn Γ l i_Cand_best R0 51 [.ref (gb Γ + 21)] M (pI (fun r M' => ((bD n x g p = -10004 ∧ r = -1) ∨ ∃ k : Nat, (cs n x g p)[k]? = some (bD n x g p) ∧ r = k) ∧ M' = M)) := by
  refine cn_intro (L := [some (.ref (gb Γ + 21)), none, none, none]) yo_Cand_best.1 rfl (Nat.le_of_ble_eq_true rfl) rfl (fun X hX hR => ?_)
  obtain ⟨v1, v2, v3, v4, v5⟩ := id hv
  obtain ⟨g1, g1'⟩ := hg.2.1
  have hlen : ((cs n x g p).length : Int) ≤ g 2 := (cl_len n x g p p.toNat hg.2.2.1.1).1
  have hg2 := hg.2.2.1.2
  have hc5 := hc.2.2.2.1
  have LOOP : ∀ (q : Nat) (i : Nat) (b : Int), i + q = (cs n x g p).length → (((Fb (rc n x p) (g 1 - 1) (cs n x g p) i).2 = -10004 ∧ b = -1) ∨ ∃ k : Nat, (cs n x g p)[k]? = some (Fb (rc n x p) (g 1 - 1) (cs n x g p) i).2 ∧ b = k) → G Γ X 4 (R0, 51, 0, 0) 15 [some (.ref (gb Γ + 21)), some (vI b), some (vI (Fb (rc n x p) (g 1 - 1) (cs n x g p) i).1), some (vI i)] [] M := by
    intro q
    induction q with
    | zero =>
      intro i b hq hb
      have hb2 : -1 ≤ b ∧ b < 61 := by
        rcases hb with ⟨_, h⟩ | ⟨k, hk, h⟩
        · omega
        · have := (List.getElem?_eq_some_iff.mp hk).1
          omega
      refine g_iload_n hX d_Cand_best_15 rfl ?_
      refine g_aload_n hX d_Cand_best_16 rfl ?_
      refine g_getI hX fl_Cand_25 d_Cand_best_17 5 ⟨rfl, by decide⟩ rfl rfl (fun r_17 => ?_)
      refine g_icmp_ge 46 hX d_Cand_best_20 (by decide) (by omega) (by omega) (fun h_20 => ?_) (fun h_20 => ?_)
      · refine g_iload_n hX d_Cand_best_46 rfl ?_
        refine g_iret hX hR d_Cand_best_47 (by omega) ?_
        rw [show i = (cs n x g p).length by omega] at hb
        exact ⟨hb, rfl⟩
      · exact absurd h_20 (by omega)
    | succ q ih =>
      intro i b hq hb
      have hl : (cs n x g p)[i]? = some ((cs n x g p).getD i 0) := by
        rw [List.getD_eq_getElem?_getD, List.getElem?_eq_getElem (by omega)]; rfl
      have hi60 : (i : Int) < 61 := by omega
      have hf1 := Fb_ge (rc n x p) (g 1 - 1) (cs n x g p) i
      have hf2 : (Fb (rc n x p) (g 1 - 1) (cs n x g p) i).1 ≤ 20 := by
        rcases Fb_spec (rc n x p) (g 1 - 1) (cs n x g p) i (by omega) with h | ⟨k, _, _, h, _⟩
        · omega
        · rw [h]; unfold rc; omega
      refine g_iload_n hX d_Cand_best_15 rfl ?_
      refine g_aload_n hX d_Cand_best_16 rfl ?_
      refine g_getI hX fl_Cand_25 d_Cand_best_17 5 ⟨rfl, by decide⟩ rfl rfl (fun r_17 => ?_)
      refine g_icmp_ge 46 hX d_Cand_best_20 (by decide) (by omega) (by omega) (fun h_20 => ?_) (fun h_20 => ?_)
      · exact absurd h_20 (by omega)
      · refine g_aload_n hX d_Cand_best_23 rfl ?_
        refine g_iload_n hX d_Cand_best_24 rfl ?_
        refine g_callV hX yo_Cand_reach q_355 d_Cand_best_25 (c_Cand_reach hc hg hl ⟨hp.1, hp.2, v3⟩) rfl rfl ⟨rfl, by decide⟩ rfl (by decide) (Nat.le_of_ble_eq_true rfl) ⟨Nat.zero_le _, Nat.zero_le _⟩ (k_int fun r_25 M_25 ir_25 hp_25 => ?_)
        obtain ⟨er_25, eM_25⟩ := hp_25; replace er_25 := er_25.symm; replace eM_25 := eM_25.symm; subst er_25; subst eM_25
        refine g_iload_n hX d_Cand_best_28 rfl ?_
        refine g_icmp_le 40 hX d_Cand_best_29 (by decide) (by omega) (by omega) (fun h_29 => ?_) (fun h_29 => ?_)
        · have e := Fb_succ (rc n x p) (g 1 - 1) (cs n x g p) i
          rw [if_neg (by omega)] at e
          rw [← e]
          have hb' := hb
          rw [← e] at hb'
          refine g_iinc hX d_Cand_best_40 rfl (by decide) ?_
          refine g_goto 15 hX d_Cand_best_43 (by decide) ?_
          exact ih (i + 1) _ (by omega) hb'
        · have e := Fb_succ (rc n x p) (g 1 - 1) (cs n x g p) i
          rw [if_pos (by omega)] at e
          have hb' : ((Fb (rc n x p) (g 1 - 1) (cs n x g p) (i + 1)).2 = -10004 ∧ (i : Int) = -1) ∨ ∃ k : Nat, (cs n x g p)[k]? = some (Fb (rc n x p) (g 1 - 1) (cs n x g p) (i + 1)).2 ∧ (i : Int) = k := Or.inr ⟨i, by rw [e]; exact hl, rfl⟩
          refine g_aload_n hX d_Cand_best_32 rfl ?_
          refine g_iload_n hX d_Cand_best_33 rfl ?_
          refine g_callV hX yo_Cand_reach q_355 d_Cand_best_34 (c_Cand_reach hc hg hl ⟨hp.1, hp.2, v3⟩) rfl rfl ⟨rfl, by decide⟩ rfl (by decide) (Nat.le_of_ble_eq_true rfl) ⟨Nat.zero_le _, Nat.zero_le _⟩ (k_int fun r_34 M_34 ir_34 hp_34 => ?_)
          obtain ⟨er_34, eM_34⟩ := hp_34; replace er_34 := er_34.symm; replace eM_34 := eM_34.symm; subst er_34; subst eM_34
          rw [show rc n x p ((cs n x g p).getD i 0) = (Fb (rc n x p) (g 1 - 1) (cs n x g p) (i + 1)).1 by rw [e]]
          refine g_istore_n hX d_Cand_best_37 (by decide) ?_
          refine g_iload_n hX d_Cand_best_38 rfl ?_
          refine g_istore_n hX d_Cand_best_39 (by decide) ?_
          refine g_iinc hX d_Cand_best_40 rfl (by decide) ?_
          refine g_goto 15 hX d_Cand_best_43 (by decide) ?_
          exact ih (i + 1) _ (by omega) hb'
  refine g_iconst hX d_Cand_best_0 ?_
  refine g_istore_n hX d_Cand_best_1 (by decide) ?_
  refine g_aload_n hX d_Cand_best_2 rfl ?_
  refine g_getR hX fl_Cand_28 d_Cand_best_3 ⟨rfl, by decide⟩ rfl rfl ?_
  refine g_iconst hX d_Cand_best_6 ?_
  refine g_callV hX yo_State_setting q_321 d_Cand_best_7 (c_State_setting st_1 (p := 1) (by omega)) rfl rfl ⟨rfl, by decide⟩ rfl (by decide) (Nat.le_of_ble_eq_true rfl) ⟨Nat.zero_le _, Nat.zero_le _⟩ (k_int fun r_7 M_7 ir_7 hp_7 => ?_)
  obtain ⟨er_7, eM_7⟩ := hp_7; replace er_7 := er_7.symm; replace eM_7 := eM_7.symm; subst er_7; subst eM_7
  rw [v5 1 (by omega) (by omega)] at ir_7 ⊢
  refine g_iconst hX d_Cand_best_10 ?_
  refine g_isub hX d_Cand_best_11 ?_
  refine g_istore_n hX d_Cand_best_12 (by decide) ?_
  refine g_iconst hX d_Cand_best_13 ?_
  refine g_istore_n hX d_Cand_best_14 (by decide) ?_
  exact LOOP (cs n x g p).length 0 (-1) (Nat.zero_add _) (Or.inl ⟨rfl, rfl⟩)
