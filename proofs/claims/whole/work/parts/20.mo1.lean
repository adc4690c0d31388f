/-! the reference: its cells -/
def Ns (M : mI) (n : Int) (x g : Int → Int) : Prop := M 38 0 = n ∧ 0 ≤ n ∧ n ≤ 60 ∧ (∀ j, 0 ≤ j → j < n → M 38 (6 + j) = x j) ∧ ∀ j, 0 ≤ j → j < 5 → M 38 (1 + j) = g j
def Nr (M : mI) (c : Nat) (o n : Int) (x g : Int → Int) : Prop := M c o = n ∧ 0 ≤ n ∧ n ≤ 60 ∧ (∀ j, 0 ≤ j → j < n → M c (o + (6 + j)) = x j) ∧ ∀ j, 0 ≤ j → j < 5 → M c (o + (1 + j)) = g j
def Nh (M : mI) (h : List sS) : Prop := M 37 4 = (h.length : Int) ∧ h.length ≤ 4 ∧ ∀ (i : Nat) (s : sS), h[i]? = some s → Nr M 39 (66 * i) s.1 s.2.1 s.2.2
def Nt (M : mI) (t : List Int) : Prop := M 37 6 = (t.length : Int) ∧ t.length ≤ 120 ∧ ∀ (i : Nat) (c : Int), t[i]? = some c → M 41 i = c
def MR (M : mI) (σ : sG) : Prop := Ns M σ.1.1 σ.1.2.1 σ.1.2.2 ∧ Nh M σ.2.1 ∧ M 37 3 = (if σ.2.2.1.isSome = true then 1 else 0) ∧ (∀ s, σ.2.2.1 = some s → Nr M 40 0 s.1 s.2.1 s.2.2) ∧ Nt M σ.2.2.2
theorem Ns.to {M M' : mI} {n : Int} {x g : Int → Int} (h : Ns M n x g) (e : M' 38 = M 38) : Ns M' n x g := by unfold Ns; rw [e]; exact h
theorem Nr.to {M M' : mI} {c : Nat} {o n : Int} {x g : Int → Int} (h : Nr M c o n x g) (e : M' c = M c) : Nr M' c o n x g := by unfold Nr; rw [e]; exact h
theorem Nh.to {M M' : mI} {h : List sS} (hh : Nh M h) (e4 : M' 37 4 = M 37 4) (e : M' 39 = M 39) : Nh M' h := ⟨by rw [e4]; exact hh.1, hh.2.1, fun i s hs => (hh.2.2 i s hs).to e⟩
theorem Nt.to {M M' : mI} {t : List Int} (h : Nt M t) (e6 : M' 37 6 = M 37 6) (e : M' 41 = M 41) : Nt M' t := ⟨by rw [e6]; exact h.1, h.2.1, fun i c hc => by rw [e]; exact h.2.2 i c hc⟩
theorem MR.to {M M' : mI} {σ : sG} (h : MR M σ) (e : ∀ a, 38 ≤ a → a ≤ 41 → M' a = M a) (e3 : M' 37 3 = M 37 3) (e4 : M' 37 4 = M 37 4) (e6 : M' 37 6 = M 37 6) : MR M' σ :=
  ⟨h.1.to (e 38 (by omega) (by omega)), h.2.1.to e4 (e 39 (by omega) (by omega)), by rw [e3]; exact h.2.2.1, fun s hs => (h.2.2.2.1 s hs).to (e 40 (by omega) (by omega)), h.2.2.2.2.to e6 (e 41 (by omega) (by omega))⟩
theorem c_Mo_in {Γ : gX} {l : Launch} {M : mI} {a b c : Int} (ha : iR a) (hb : iR b) (hc : iR c) : Cn Γ l i_Mo_in R0 51 [vI a, vI b, vI c] M (pI (fun r M' => r = (if b ≤ a ∧ a ≤ c then 1 else 0) ∧ M' = M)) := by
  refine cn_intro (L := [some (vI a), some (vI b), some (vI c)]) yo_Mo_in.1 rfl (Nat.le_of_ble_eq_true rfl) rfl (fun X hX hR => ?_)
  refine g_iload_n hX d_Mo_in_0 rfl ?_
  refine g_iload_n hX d_Mo_in_1 rfl ?_
  refine g_icmp_lt 14 hX d_Mo_in_2 (by decide) (by omega) (by omega) (fun h_2 => ?_) (fun h_2 => ?_)
  · refine g_iconst hX d_Mo_in_14 ?_
    refine g_zret hX hR d_Mo_in_15 (by omega) ?_
    exact ⟨by first | rw [if_pos (by omega)] | rw [if_neg (by omega)], rfl⟩
  · refine g_iload_n hX d_Mo_in_5 rfl ?_
    refine g_iload_n hX d_Mo_in_6 rfl ?_
    refine g_icmp_gt 14 hX d_Mo_in_7 (by decide) (by omega) (by omega) (fun h_7 => ?_) (fun h_7 => ?_)
    · refine g_iconst hX d_Mo_in_14 ?_
      refine g_zret hX hR d_Mo_in_15 (by omega) ?_
      exact ⟨by first | rw [if_pos (by omega)] | rw [if_neg (by omega)], rfl⟩
    · refine g_iconst hX d_Mo_in_10 ?_
      refine g_goto 15 hX d_Mo_in_11 (by decide) ?_
      refine g_zret hX hR d_Mo_in_15 (by omega) ?_
      exact ⟨by first | rw [if_pos (by omega)] | rw [if_neg (by omega)], rfl⟩
theorem c_Mo_least {Γ : gX} {l : Launch} {M : mI} {a : Int} (ha : iR a) : Cn Γ l i_Mo_least R0 51 [vI a] M (pI (fun r M' => r = fLow a ∧ M' = M)) := by
  refine cn_intro (L := [some (vI a)]) yo_Mo_least.1 rfl (Nat.le_of_ble_eq_true rfl) rfl (fun X hX hR => ?_)
  refine g_iload_n hX d_Mo_least_0 rfl ?_
  refine g_iconst hX d_Mo_least_1 ?_
  refine g_icmp_ne 9 hX d_Mo_least_2 (by decide) (by omega) (by omega) (fun h_2 => ?_) (fun h_2 => ?_)
  · refine g_iconst hX d_Mo_least_9 ?_
    refine g_iret hX hR d_Mo_least_10 (by omega) ?_
    unfold fLow; first | (rw [if_pos (by omega)]; exact ⟨rfl, rfl⟩) | (rw [if_neg (by omega)]; exact ⟨rfl, rfl⟩)
  · refine g_iconst hX d_Mo_least_5 ?_
    refine g_goto 10 hX d_Mo_least_6 (by decide) ?_
    refine g_iret hX hR d_Mo_least_10 (by omega) ?_
    unfold fLow; first | (rw [if_pos (by omega)]; exact ⟨rfl, rfl⟩) | (rw [if_neg (by omega)]; exact ⟨rfl, rfl⟩)
theorem c_Mo_most {Γ : gX} {l : Launch} {M : mI} {a : Int} (ha : iR a) : Cn Γ l i_Mo_most R0 51 [vI a] M (pI (fun r M' => r = fHigh a ∧ M' = M)) := by
  refine cn_intro (L := [some (vI a)]) yo_Mo_most.1 rfl (Nat.le_of_ble_eq_true rfl) rfl (fun X hX hR => ?_)
  refine g_iload_n hX d_Mo_most_0 rfl ?_
  refine g_iconst hX d_Mo_most_1 ?_
  refine g_icmp_ne 10 hX d_Mo_most_2 (by decide) (by omega) (by omega) (fun h_2 => ?_) (fun h_2 => ?_)
  · refine g_iload_n hX d_Mo_most_10 rfl ?_
    refine g_iconst hX d_Mo_most_11 ?_
    refine g_icmp_ne 20 hX d_Mo_most_12 (by decide) (by omega) (by omega) (fun h_12 => ?_) (fun h_12 => ?_)
    · refine g_bipush hX d_Mo_most_20 rfl ?_
      refine g_iret hX hR d_Mo_most_22 (by omega) ?_
      unfold fHigh; first | (rw [if_pos (by omega)]; exact ⟨rfl, rfl⟩) | (rw [if_neg (by omega), if_pos (by omega)]; exact ⟨rfl, rfl⟩) | (rw [if_neg (by omega), if_neg (by omega)]; exact ⟨rfl, rfl⟩)
    · refine g_bipush hX d_Mo_most_15 rfl ?_
      refine g_goto 22 hX d_Mo_most_17 (by decide) ?_
      refine g_iret hX hR d_Mo_most_22 (by omega) ?_
      unfold fHigh; first | (rw [if_pos (by omega)]; exact ⟨rfl, rfl⟩) | (rw [if_neg (by omega), if_pos (by omega)]; exact ⟨rfl, rfl⟩) | (rw [if_neg (by omega), if_neg (by omega)]; exact ⟨rfl, rfl⟩)
  · refine g_bipush hX d_Mo_most_5 rfl ?_
    refine g_goto 22 hX d_Mo_most_7 (by decide) ?_
    refine g_iret hX hR d_Mo_most_22 (by omega) ?_
    unfold fHigh; first | (rw [if_pos (by omega)]; exact ⟨rfl, rfl⟩) | (rw [if_neg (by omega), if_pos (by omega)]; exact ⟨rfl, rfl⟩) | (rw [if_neg (by omega), if_neg (by omega)]; exact ⟨rfl, rfl⟩)
theorem c_Mo_isPlace {Γ : gX} {l : Launch} {M : mI} {p : Int} (h0 : iR p) : Cn Γ l i_Mo_isPlace R0 51 [.ref (gb Γ + 37), vI p] M (pI (fun r M' => r = (if 0 ≤ p ∧ p < M 38 0 then 1 else 0) ∧ M' = M)) := by
  refine cn_intro (L := [some (.ref (gb Γ + 37)), some (vI p)]) yo_Mo_isPlace.1 rfl (Nat.le_of_ble_eq_true rfl) rfl (fun X hX hR => ?_)
  refine g_iload_n hX d_Mo_isPlace_0 rfl ?_
  refine g_if_lt 18 hX d_Mo_isPlace_1 (by decide) (by first | omega | exact ite_iR) (fun h_1 => ?_) (fun h_1 => ?_)
  · refine g_iconst hX d_Mo_isPlace_18 ?_
    refine g_zret hX hR d_Mo_isPlace_19 (by omega) ?_
    exact ⟨by first | rw [if_pos (by omega)] | rw [if_neg (by omega)], rfl⟩
  · refine g_iload_n hX d_Mo_isPlace_4 rfl ?_
    refine g_aload_n hX d_Mo_isPlace_5 rfl ?_
    refine g_getR hX fl_Mo_7 d_Mo_isPlace_6 ⟨rfl, by decide⟩ rfl rfl ?_
    refine g_iconst hX d_Mo_isPlace_9 ?_
    refine g_iald hX d_Mo_isPlace_10 ⟨rfl, by decide⟩ (by omega) (fun r_10 => ?_)
    refine g_icmp_ge 18 hX d_Mo_isPlace_11 (by decide) (by omega) (by omega) (fun h_11 => ?_) (fun h_11 => ?_)
    · refine g_iconst hX d_Mo_isPlace_18 ?_
      refine g_zret hX hR d_Mo_isPlace_19 (by omega) ?_
      exact ⟨by first | rw [if_pos (by omega)] | rw [if_neg (by omega)], rfl⟩
    · refine g_iconst hX d_Mo_isPlace_14 ?_
      refine g_goto 19 hX d_Mo_isPlace_15 (by decide) ?_
      refine g_zret hX hR d_Mo_isPlace_19 (by omega) ?_
      exact ⟨by first | rw [if_pos (by omega)] | rw [if_neg (by omega)], rfl⟩
theorem c_Mo_copies {Γ : gX} {l : Launch} {M : mI} {f t : Nat} (hf : dsL[f]? = some (0, 66)) (ht : dsL[t]? = some (0, 66)) (hft : f < 51 ∧ t < 51) (hne : f ≠ t) : Cn Γ l i_Mo_copies R0 51 [.ref (gb Γ + f), .ref (gb Γ + t)] M (pV (fun M' => (∀ j, 0 ≤ j → j < 66 → M' t j = M f j) ∧ ∀ a, a ≠ t → M' a = M a)) := by
  refine cn_intro (L := [some (.ref (gb Γ + f)), some (.ref (gb Γ + t)), none]) yo_Mo_copies.1 rfl (Nat.le_of_ble_eq_true rfl) rfl (fun X hX hR => ?_)
  have LOOP : ∀ (q : Nat) (i : Int) (M1 : mI), (66 - i).toNat = q → 0 ≤ i → i ≤ 66 → (∀ j, 0 ≤ j → j < i → M1 t j = M f j) → (∀ a, a ≠ t → M1 a = M a) → G Γ X 3 (R0, 51, 0, 0) 2 [some (.ref (gb Γ + f)), some (.ref (gb Γ + t)), some (vI i)] [] M1 := by
    intro q
    induction q with
    | zero =>
      intro i M1 hq h0 h1 h2 h3
      refine g_iload_n hX d_Mo_copies_2 rfl ?_
      refine g_bipush hX d_Mo_copies_3 rfl ?_
      refine g_icmp_ge 20 hX d_Mo_copies_5 (by decide) (by omega) (by omega) (fun h_5 => ?_) (fun h_5 => ?_)
      · refine g_vret hX hR d_Mo_copies_20 ?_
        exact ⟨fun j u v => h2 j u (by omega), h3⟩
      · exact absurd h_5 (by omega)
    | succ q ih =>
      intro i M1 hq h0 h1 h2 h3
      refine g_iload_n hX d_Mo_copies_2 rfl ?_
      refine g_bipush hX d_Mo_copies_3 rfl ?_
      refine g_icmp_ge 20 hX d_Mo_copies_5 (by decide) (by omega) (by omega) (fun h_5 => ?_) (fun h_5 => ?_)
      · exact absurd h_5 (by omega)
      · refine g_aload_n hX d_Mo_copies_8 rfl ?_
        refine g_iload_n hX d_Mo_copies_9 rfl ?_
        refine g_aload_n hX d_Mo_copies_10 rfl ?_
        refine g_iload_n hX d_Mo_copies_11 rfl ?_
        refine g_iald hX d_Mo_copies_12 ⟨hf, hft.1⟩ (by omega) (fun r_12 => ?_)
        rw [h3 f hne] at r_12 ⊢
        refine g_iast hX d_Mo_copies_13 ⟨ht, hft.2⟩ (by omega) (by omega) ?_
        refine g_iinc hX d_Mo_copies_14 rfl (by decide) ?_
        refine g_goto 2 hX d_Mo_copies_17 (by decide) ?_
        refine ih (i + 1) _ (by omega) (by omega) (by omega) (fun j u v => ?_) (fun a u => by rw [mU_cell u]; exact h3 a u)
        by_cases hj : j = i
        · subst hj; rw [mU_self]
        · rw [mU_slot hj]; exact h2 j u (by omega)
  refine g_iconst hX d_Mo_copies_0 ?_
  refine g_istore_n hX d_Mo_copies_1 (by decide) ?_
  exact LOOP _ 0 M rfl (by omega) (by omega) (fun j u v => by omega) (fun a u => rfl)
theorem c_Mo_changes {Γ : gX} {l : Launch} {M : mI} {h : List sS} {s : sS} (hh : Nh M h) (hs : Ns M s.1 s.2.1 s.2.2) : Cn Γ l i_Mo_changes R0 51 [.ref (gb Γ + 37)] M (pV (fun M' => Nh M' (hPush h s) ∧ (∀ a, a ≠ 37 → a ≠ 39 → M' a = M a) ∧ ∀ j, j ≠ 4 → M' 37 j = M 37 j)) := by
  refine cn_intro (L := [some (.ref (gb Γ + 37)), none]) yo_Mo_changes.1 rfl (Nat.le_of_ble_eq_true rfl) rfl (fun X hX hR => ?_)
  obtain ⟨z1, z2, z3⟩ := id hh
  have FIN : ∀ (M1 : mI) (h1 : List sS), Nh M1 h1 → h1.length < 4 → h1 ++ [s] = hPush h s → (∀ a, a ≠ 37 → a ≠ 39 → M1 a = M a) → (∀ j, j ≠ 4 → M1 37 j = M 37 j) → G Γ X 2 (R0, 51, 0, 0) 48 [some (.ref (gb Γ + 37)), none] [] M1 := by
    intro M1 h1 q1 q2 q3 q4 q5
    obtain ⟨y1, y2, y3⟩ := id q1
    have LOOP : ∀ (q : Nat) (i : Int) (M2 : mI), (66 - i).toNat = q → 0 ≤ i → i ≤ 66 → (∀ j, 0 ≤ j → j < i → M2 39 (66 * (h1.length : Int) + j) = M 38 j) → (∀ j, j < 66 * (h1.length : Int) → M2 39 j = M1 39 j) → (∀ a, a ≠ 39 → M2 a = M1 a) → G Γ X 2 (R0, 51, 0, 0) 50 [some (.ref (gb Γ + 37)), some (vI i)] [] M2 := by
      intro q
      induction q with
      | zero =>
        intro i M2 hq h0 h1' h2 h3 h4
        have e4 : M2 37 4 = (h1.length : Int) := by rw [h4 37 (by decide)]; exact y1
        refine g_iload_n hX d_Mo_changes_50 rfl ?_
        refine g_bipush hX d_Mo_changes_51 rfl ?_
        refine g_icmp_ge 82 hX d_Mo_changes_53 (by decide) (by omega) (by omega) (fun h_53 => ?_) (fun h_53 => ?_)
        · refine g_aload_n hX d_Mo_changes_82 rfl ?_
          refine g_dup hX d_Mo_changes_83 rfl ?_
          refine g_getI hX fl_Mo_49 d_Mo_changes_84 4 ⟨rfl, by decide⟩ rfl rfl (fun r_84 => ?_)
          rw [e4] at r_84 ⊢
          refine g_iconst hX d_Mo_changes_87 ?_
          refine g_iadd hX d_Mo_changes_88 ?_
          refine g_putI hX fl_Mo_49 d_Mo_changes_89 4 ⟨rfl, by decide⟩ rfl rfl (fun q h => by cases h; rfl) rfl (by omega) ?_
          refine g_vret hX hR d_Mo_changes_92 ?_
          refine ⟨?_, fun a u v => by rw [mU_cell u, h4 a v]; exact q4 a u v, fun j u => by rw [mU_slot u, h4 37 (by decide)]; exact q5 j u⟩
          rw [← q3]
          refine ⟨by rw [mU_self]; simp, by simp; omega, fun k s' hs' => ?_⟩
          by_cases hk : k < h1.length
          · rw [List.getElem?_append_left hk] at hs'
            obtain ⟨w1, w2, w3, w4, w5⟩ := y3 k s' hs'
            exact ⟨by rw [mU_cell (by omega), h3 _ (by omega)]; exact w1, w2, w3, fun j u v => by rw [mU_cell (by omega), h3 _ (by omega)]; exact w4 j u v, fun j u v => by rw [mU_cell (by omega), h3 _ (by omega)]; exact w5 j u v⟩
          · have hk2 : k = h1.length := by
              have zz := (List.getElem?_eq_some_iff.mp hs').1
              simp at zz
              omega
            subst hk2
            have e9 : s = s' := by simpa using hs'
            subst e9
            obtain ⟨w1, w2, w3, w4, w5⟩ := id hs
            exact ⟨by rw [mU_cell (by omega), show (66 * ((h1.length : Nat) : Int)) = 66 * (h1.length : Int) + 0 by omega, h2 0 (by omega) (by omega)]; exact w1, w2, w3, fun j u v => by rw [mU_cell (by omega), h2 (6 + j) (by omega) (by omega)]; exact w4 j u v, fun j u v => by rw [mU_cell (by omega), h2 (1 + j) (by omega) (by omega)]; exact w5 j u v⟩
        · exact absurd h_53 (by omega)
      | succ q ih =>
        intro i M2 hq h0 h1' h2 h3 h4
        have e4 : M2 37 4 = (h1.length : Int) := by rw [h4 37 (by decide)]; exact y1
        have e38 : M2 38 = M 38 := by rw [h4 38 (by decide)]; exact q4 38 (by decide) (by decide)
        refine g_iload_n hX d_Mo_changes_50 rfl ?_
        refine g_bipush hX d_Mo_changes_51 rfl ?_
        refine g_icmp_ge 82 hX d_Mo_changes_53 (by decide) (by omega) (by omega) (fun h_53 => ?_) (fun h_53 => ?_)
        · exact absurd h_53 (by omega)
        · refine g_aload_n hX d_Mo_changes_56 rfl ?_
          refine g_getR hX fl_Mo_13 d_Mo_changes_57 ⟨rfl, by decide⟩ rfl rfl ?_
          refine g_bipush hX d_Mo_changes_60 rfl ?_
          refine g_aload_n hX d_Mo_changes_62 rfl ?_
          refine g_getI hX fl_Mo_49 d_Mo_changes_63 4 ⟨rfl, by decide⟩ rfl rfl (fun r_63 => ?_)
          rw [e4] at r_63 ⊢
          refine g_imul hX d_Mo_changes_66 ?_
          refine g_iload_n hX d_Mo_changes_67 rfl ?_
          refine g_iadd hX d_Mo_changes_68 ?_
          refine g_aload_n hX d_Mo_changes_69 rfl ?_
          refine g_getR hX fl_Mo_7 d_Mo_changes_70 ⟨rfl, by decide⟩ rfl rfl ?_
          refine g_iload_n hX d_Mo_changes_73 rfl ?_
          refine g_iald hX d_Mo_changes_74 ⟨rfl, by decide⟩ (by omega) (fun r_74 => ?_)
          rw [e38] at r_74 ⊢
          refine g_iast hX d_Mo_changes_75 ⟨rfl, by decide⟩ (by omega) (by omega) ?_
          refine g_iinc hX d_Mo_changes_76 rfl (by decide) ?_
          refine g_goto 50 hX d_Mo_changes_79 (by decide) ?_
          refine ih (i + 1) _ (by omega) (by omega) (by omega) (fun j u v => ?_) (fun j u => by rw [mU_slot (by omega)]; exact h3 j u) (fun a u => by rw [mU_cell u]; exact h4 a u)
          by_cases hj : j = i
          · subst hj; rw [mU_self]
          · rw [mU_slot (by omega)]; exact h2 j u (by omega)
    refine g_iconst hX d_Mo_changes_48 ?_
    refine g_istore_n hX d_Mo_changes_49 (by decide) ?_
    exact LOOP _ 0 M1 rfl (by omega) (by omega) (fun j u v => by omega) (fun j u => rfl) (fun a u => rfl)
  have LOOP1 : ∀ (q : Nat) (i : Int) (M2 : mI), h.length = 4 → (198 - i).toNat = q → 0 ≤ i → i ≤ 198 → (∀ j, 0 ≤ j → j < i → M2 39 j = M 39 (j + 66)) → (∀ j, i ≤ j → M2 39 j = M 39 j) → (∀ a, a ≠ 39 → M2 a = M a) → G Γ X 2 (R0, 51, 0, 0) 10 [some (.ref (gb Γ + 37)), some (vI i)] [] M2 := by
    intro q
    induction q with
    | zero =>
      intro i M2 hl4 hq h0 h1' h2 h3 h4
      have e4 : M2 37 4 = 4 := by rw [h4 37 (by decide)]; omega
      refine g_iload_n hX d_Mo_changes_10 rfl ?_
      refine g_sipush hX d_Mo_changes_11 rfl ?_
      refine g_icmp_ge 38 hX d_Mo_changes_14 (by decide) (by omega) (by omega) (fun h_14 => ?_) (fun h_14 => ?_)
      · refine g_aload_n hX d_Mo_changes_38 rfl ?_
        refine g_dup hX d_Mo_changes_39 rfl ?_
        refine g_getI hX fl_Mo_49 d_Mo_changes_40 4 ⟨rfl, by decide⟩ rfl rfl (fun r_40 => ?_)
        rw [e4] at r_40 ⊢
        refine g_iconst hX d_Mo_changes_43 ?_
        refine g_isub hX d_Mo_changes_44 ?_
        refine g_putI hX fl_Mo_49 d_Mo_changes_45 4 ⟨rfl, by decide⟩ rfl rfl (fun q h => by cases h; rfl) rfl (by omega) ?_
        refine g_drop 1 ?_
        exact FIN _ h.tail ⟨by rw [mU_self]; simp; omega, by simp; omega, fun k s' hs' => by rw [List.getElem?_tail] at hs'; have zk := (List.getElem?_eq_some_iff.mp hs').1; obtain ⟨w1, w2, w3, w4, w5⟩ := z3 (k + 1) s' hs'; exact ⟨by rw [mU_cell (by omega), h2 _ (by omega) (by omega), show 66 * (k : Int) + 66 = 66 * ((k + 1 : Nat) : Int) by omega]; exact w1, w2, w3, fun j u v => by rw [mU_cell (by omega), h2 _ (by omega) (by omega), show 66 * (k : Int) + (6 + j) + 66 = 66 * ((k + 1 : Nat) : Int) + (6 + j) by omega]; exact w4 j u v, fun j u v => by rw [mU_cell (by omega), h2 _ (by omega) (by omega), show 66 * (k : Int) + (1 + j) + 66 = 66 * ((k + 1 : Nat) : Int) + (1 + j) by omega]; exact w5 j u v⟩⟩ (by simp; omega) (by unfold hPush; rw [if_pos hl4]) (fun a u v => by rw [mU_cell u]; exact h4 a v) (fun j u => by rw [mU_slot u, h4 37 (by decide)])
      · exact absurd h_14 (by omega)
    | succ q ih =>
      intro i M2 hl4 hq h0 h1' h2 h3 h4
      refine g_iload_n hX d_Mo_changes_10 rfl ?_
      refine g_sipush hX d_Mo_changes_11 rfl ?_
      refine g_icmp_ge 38 hX d_Mo_changes_14 (by decide) (by omega) (by omega) (fun h_14 => ?_) (fun h_14 => ?_)
      · exact absurd h_14 (by omega)
      · refine g_aload_n hX d_Mo_changes_17 rfl ?_
        refine g_getR hX fl_Mo_13 d_Mo_changes_18 ⟨rfl, by decide⟩ rfl rfl ?_
        refine g_iload_n hX d_Mo_changes_21 rfl ?_
        refine g_aload_n hX d_Mo_changes_22 rfl ?_
        refine g_getR hX fl_Mo_13 d_Mo_changes_23 ⟨rfl, by decide⟩ rfl rfl ?_
        refine g_iload_n hX d_Mo_changes_26 rfl ?_
        refine g_bipush hX d_Mo_changes_27 rfl ?_
        refine g_iadd hX d_Mo_changes_29 ?_
        refine g_iald hX d_Mo_changes_30 ⟨rfl, by decide⟩ (by omega) (fun r_30 => ?_)
        rw [h3 (i + 66) (by omega)] at r_30 ⊢
        refine g_iast hX d_Mo_changes_31 ⟨rfl, by decide⟩ (by omega) (by omega) ?_
        refine g_iinc hX d_Mo_changes_32 rfl (by decide) ?_
        refine g_goto 10 hX d_Mo_changes_35 (by decide) ?_
        refine ih (i + 1) _ hl4 (by omega) (by omega) (by omega) (fun j u v => ?_) (fun j u => by rw [mU_slot (by omega)]; exact h3 j (by omega)) (fun a u => by rw [mU_cell u]; exact h4 a u)
        by_cases hj : j = i
        · subst hj; rw [mU_self]
        · rw [mU_slot (by omega)]; exact h2 j u (by omega)
  refine g_aload_n hX d_Mo_changes_0 rfl ?_
  refine g_getI hX fl_Mo_49 d_Mo_changes_1 4 ⟨rfl, by decide⟩ rfl rfl (fun r_1 => ?_)
  refine g_iconst hX d_Mo_changes_4 ?_
  refine g_icmp_ne 48 hX d_Mo_changes_5 (by decide) (by omega) (by omega) (fun h_5 => ?_) (fun h_5 => ?_)
  · exact FIN M h hh (by omega) (by unfold hPush; rw [if_neg (by omega)]) (fun _ _ _ => rfl) (fun _ _ => rfl)
  · refine g_iconst hX d_Mo_changes_8 ?_
    refine g_istore_n hX d_Mo_changes_9 (by decide) ?_
    exact LOOP1 _ 0 M (by omega) rfl (by omega) (by omega) (fun j u v => by omega) (fun j u => rfl) (fun a u => rfl)
