/-! the state stays one that the document speaks of -/
theorem ok_put {σ : sG} (h : OkV σ) (c : Int) : OkV (q_put σ c).2 := by
  unfold q_put
  split
  · exact h
  · rename_i h1
    split
    · exact h
    · rename_i h2
      have h3 := h.1.1
      refine chg_ok h ⟨⟨by show 0 ≤ σ.1.1 + 1; omega, by show σ.1.1 + 1 ≤ 60; omega⟩, h.1.2.1, fun j u v => ?_⟩
      show 0 ≤ (if j = σ.1.1 then c else σ.1.2.1 j) ∧ (if j = σ.1.1 then c else σ.1.2.1 j) ≤ 7
      have v2 : j < σ.1.1 + 1 := v
      by_cases hj : j = σ.1.1
      · rw [if_pos hj]; omega
      · rw [if_neg hj]; exact h.1.2.2 j u (by omega)
theorem ok_drop {σ : sG} (h : OkV σ) (c : Int) : OkV (q_drop σ c).2 := by
  unfold q_drop
  split
  · exact h
  · rename_i h1
    split
    · exact h
    · rename_i h2
      have h3 := h.1.1
      exact chg_ok h ⟨⟨by show 0 ≤ σ.1.1 - c; omega, by show σ.1.1 - c ≤ 60; omega⟩, h.1.2.1, fun j u v => h.1.2.2 j u (by have v2 : j < σ.1.1 - c := v; omega)⟩
theorem ok_mend {σ : sG} (h : OkV σ) (p c : Int) : OkV (q_mend σ p c).2 := by
  unfold q_mend
  split
  · exact h
  · rename_i h1
    refine chg_ok h ⟨h.1.1, h.1.2.1, fun j u v => ?_⟩
    show 0 ≤ (if j = p then c else σ.1.2.1 j) ∧ (if j = p then c else σ.1.2.1 j) ≤ 7
    by_cases hj : j = p
    · rw [if_pos hj]; omega
    · rw [if_neg hj]; exact h.1.2.2 j u v
theorem ok_set {σ : sG} (h : OkV σ) (w c : Int) : OkV (q_set σ w c).2 := by
  unfold q_set
  split
  · exact h
  · rename_i h1
    obtain ⟨g0, g1, g2, g3, g4⟩ := id h.1.2.1
    have hw : w = 0 ∨ w = 1 ∨ w = 2 ∨ w = 3 ∨ w = 4 := by omega
    have h5 : fLow w ≤ c ∧ c ≤ fHigh w := by omega
    refine chg_ok h ⟨h.1.1, ?_, h.1.2.2⟩
    show ((1 ≤ (if (0 : Int) = w then c else σ.1.2.2 0) ∧ (if (0 : Int) = w then c else σ.1.2.2 0) ≤ 60) ∧ (2 ≤ (if (1 : Int) = w then c else σ.1.2.2 1) ∧ (if (1 : Int) = w then c else σ.1.2.2 1) ≤ 6) ∧ (1 ≤ (if (2 : Int) = w then c else σ.1.2.2 2) ∧ (if (2 : Int) = w then c else σ.1.2.2 2) ≤ 60) ∧ (1 ≤ (if (3 : Int) = w then c else σ.1.2.2 3) ∧ (if (3 : Int) = w then c else σ.1.2.2 3) ≤ 20) ∧ (1 ≤ (if (4 : Int) = w then c else σ.1.2.2 4) ∧ (if (4 : Int) = w then c else σ.1.2.2 4) ≤ 60))
    unfold fLow fHigh at h5
    rcases hw with e | e | e | e | e
    all_goals subst e
    · rw [if_neg (by decide), if_neg (by decide), if_neg (by decide)] at h5
      rw [if_pos rfl, if_neg (by decide), if_neg (by decide), if_neg (by decide), if_neg (by decide)]
      exact ⟨h5, g1, g2, g3, g4⟩
    · rw [if_pos rfl, if_pos rfl] at h5
      rw [if_neg (by decide), if_pos rfl, if_neg (by decide), if_neg (by decide), if_neg (by decide)]
      exact ⟨g0, h5, g2, g3, g4⟩
    · rw [if_neg (by decide), if_neg (by decide), if_neg (by decide)] at h5
      rw [if_neg (by decide), if_neg (by decide), if_pos rfl, if_neg (by decide), if_neg (by decide)]
      exact ⟨g0, g1, h5, g3, g4⟩
    · rw [if_neg (by decide), if_neg (by decide), if_pos rfl] at h5
      rw [if_neg (by decide), if_neg (by decide), if_neg (by decide), if_pos rfl, if_neg (by decide)]
      exact ⟨g0, g1, g2, h5, g4⟩
    · rw [if_neg (by decide), if_neg (by decide), if_neg (by decide)] at h5
      rw [if_neg (by decide), if_neg (by decide), if_neg (by decide), if_neg (by decide), if_pos rfl]
      exact ⟨g0, g1, g2, g3, h5⟩
theorem ok_keep {σ : sG} (h : OkV σ) : OkV (q_keep σ).2 := ⟨h.1, h.2.1, fun s hs => by injection hs with e; rw [← e]; exact h.1, h.2.2.2⟩
theorem ok_restore {σ : sG} (h : OkV σ) : OkV (q_restore σ).2 := by
  cases hk : σ.2.2.1 with
  | none => rw [q_restore_none hk]; exact h
  | some s => rw [q_restore_some hk]; exact chg_ok h (h.2.2.1 s hk)
theorem ok_undo {σ : sG} (h : OkV σ) : OkV (q_undo σ).2 := by
  rcases List.eq_nil_or_concat σ.2.1 with hk | ⟨t, s, hk⟩
  · rw [q_undo_nil hk]; exact h
  · rw [List.concat_eq_append] at hk
    rw [q_undo_snoc hk]
    have hz : ∀ s' ∈ t ++ [s], okS s' := by rw [← hk]; exact h.2.1
    exact ⟨hz s (by simp), fun s' hs => hz s' (by simp [hs]), h.2.2.1, h.2.2.2⟩
theorem ok_text {σ : sG} (h : OkV σ) {t : List Int} (ht : Tc t) : OkV (σ.1, σ.2.1, σ.2.2.1, t) := ⟨h.1, h.2.1, h.2.2.1, ht⟩
theorem ok_type {σ : sG} (h : OkV σ) (c : Int) : OkV (q_type σ c).2 := by
  unfold q_type
  split
  · exact h
  · rename_i h1
    split
    · exact h
    · refine ok_text h fun d hd => ?_
      rcases List.mem_append.mp hd with z | z
      · exact h.2.2.2 d z
      · rw [List.mem_singleton.mp z]; omega
theorem ok_clearText {σ : sG} (h : OkV σ) : OkV (q_clearText σ).2 := ok_text h (fun d hd => by cases hd)
theorem dg_c {v : Int} (h : 0 ≤ v ∧ v ≤ 99) : ∀ c ∈ dg v, 0 ≤ c ∧ c ≤ 126 := by
  intro c hc
  unfold dg at hc
  split at hc
  · rcases List.mem_cons.mp hc with z | z
    · omega
    · rw [List.mem_singleton] at z; omega
  · rw [List.mem_singleton] at hc; omega
theorem cpS_c {d l : Int} (h1 : 0 ≤ d ∧ d ≤ 99) (h2 : 0 ≤ l ∧ l ≤ 99) : ∀ c ∈ cpS d l, 0 ≤ c ∧ c ≤ 126 := by
  intro c hc
  unfold cpS at hc
  simp only [List.mem_append, List.mem_singleton] at hc
  rcases hc with (((z | z) | z) | z) | z
  · omega
  · exact dg_c h1 c z
  · omega
  · exact dg_c h2 c z
  · omega
theorem ok_write {σ : sG} (h : OkV σ) (w : Int) : OkV (q_write σ w).2 := by
  unfold q_write
  split
  · exact h
  · split
    · exact h
    · refine ok_text h fun c hc => ?_
      have h60 := h.1.1
      obtain ⟨l, hl, hcl⟩ := List.mem_flatten.mp hc
      obtain ⟨b, hb, hbl⟩ := List.mem_map.mp hl
      have zb := bgs_mem (x := σ.1.2.1) h.1.2.1 (w := w) (b := b) hb
      have zx := h.1.2.2 b zb.1 zb.2
      have zp := pL_b (x := σ.1.2.1) h.1.2.1 w b zb.1 zb.2
      rw [← hbl] at hcl
      unfold pTx at hcl
      split at hcl
      · rw [List.mem_singleton] at hcl; omega
      · exact cpS_c (d := pD σ.1.1 σ.1.2.1 σ.1.2.2 w b) (l := pL σ.1.1 σ.1.2.1 σ.1.2.2 w b) ⟨zp.2.2.2.1, by omega⟩ ⟨by omega, by omega⟩ c hcl
def LT (n : Int) (x : Int → Int) : Prop := ∀ j, 0 ≤ j → j < n → 0 ≤ x j ∧ x j ≤ 7
theorem cpF_lt {x : Int → Int} {n d : Int} (h : LT n x) (hd : 1 ≤ d ∧ d ≤ n) (c : Nat) : LT (n + c) (cpF x n d c) := by
  induction c with
  | zero => intro j u v; exact h j u (by omega)
  | succ c ih =>
    intro j u v
    rw [cpF_succ]
    by_cases hj : j = n + c
    · rw [if_pos hj]; exact ih (n + c - d) (by omega) (by omega)
    · rw [if_neg hj]; exact ih j u (by omega)
def okT (s : pT) : Prop := s.2.2.1 = 0 → (0 ≤ s.2.2.2.1 ∧ s.2.2.2.1 ≤ 60) ∧ LT s.2.2.2.1 s.2.2.2.2
theorem pC_ok {t : List Int} {g : Int → Int} {s : pT} (hg : Og g) (h : okT s) (h0 : s.2.2.1 = 0) : okT (pC t g s) := by
  obtain ⟨⟨h1, h2⟩, h3⟩ := h h0
  have hg1 := hg.2.1.1
  unfold pC
  split
  · rename_i hz; intro z; exact absurd z hz
  · split
    · rename_i hz; intro z; exact absurd z hz
    · rename_i hz
      have zw := wrgM_0 (Decidable.not_not.mp hz)
      intro _
      refine ⟨⟨by show 0 ≤ s.2.2.2.1 + lC t s.1 s.2.1; omega, by show s.2.2.2.1 + lC t s.1 s.2.1 ≤ 60; omega⟩, ?_⟩
      have zl := cpF_lt (c := (lC t s.1 s.2.1).toNat) h3 ⟨zw.1.1, zw.1.2.2⟩
      rw [show (((lC t s.1 s.2.1).toNat : Nat) : Int) = lC t s.1 s.2.1 by omega] at zl
      exact zl
theorem pA_ok {c : Int} {s : pT} (h : okT s) (h0 : s.2.2.1 = 0) : okT (pA c s) := by
  obtain ⟨⟨h1, h2⟩, h3⟩ := h h0
  unfold pA
  split
  · intro z; exact absurd z (by show ¬ (1 : Int) = 0; decide)
  · rename_i hz
    split
    · intro z; exact absurd z (by show ¬ (4 : Int) = 0; decide)
    · intro _
      refine ⟨⟨by show 0 ≤ s.2.2.2.1 + 1; omega, by show s.2.2.2.1 + 1 ≤ 60; omega⟩, fun j u v => ?_⟩
      have v2 : j < s.2.2.2.1 + 1 := v
      show 0 ≤ (if j = s.2.2.2.1 then c else s.2.2.2.2 j) ∧ (if j = s.2.2.2.1 then c else s.2.2.2.2 j) ≤ 7
      by_cases hj : j = s.2.2.2.1
      · rw [if_pos hj]; omega
      · rw [if_neg hj]; exact h3 j u (by omega)
theorem prs_ok {t : List Int} {g : Int → Int} (hg : Og g) (k : Nat) : ∀ s : pT, okT s → okT (prs t g k s) := by
  induction k with
  | zero => intro s h; exact h
  | succ k ih =>
    intro s h
    rw [prs_succ]
    split
    · rename_i hz
      refine ih _ ?_
      split
      · exact pC_ok hg h hz.2
      · exact pA_ok h hz.2
    · exact h
theorem ok_read {σ : sG} (h : OkV σ) : OkV (q_read σ).2 := by
  unfold q_read
  split
  · exact h
  · rename_i hz
    have z := prs_ok (t := σ.2.2.2) h.1.2.1 120 (0, 0, 0, 0, fun _ => 0) (fun _ => ⟨⟨Int.le_refl _, by show (0 : Int) ≤ 60; omega⟩, fun j u v => absurd v (by show ¬ j < 0; omega)⟩) (Decidable.not_not.mp hz)
    exact chg_ok h ⟨z.1, h.1.2.1, z.2⟩
