/-! what a new object holds -/
def σ0 : sG := ((0, fun _ => 0, fFirst), [], none, [])
theorem ok0 : OkV σ0 := ⟨⟨⟨Int.le_refl _, by show (0 : Int) ≤ 60; omega⟩, (by show Og fFirst; unfold Og fFirst; decide), fun j u v => absurd v (by show ¬ j < 0; omega)⟩, fun s hs => (by cases hs), fun s hs => (by cases hs), fun c hc => (by cases hc)⟩
theorem CR0 {M : mI} (h : M 1 2 = 0 ∧ (∀ j, 0 ≤ j → j < 5 → M 3 j = fFirst j) ∧ M 0 2 = 0 ∧ M 7 1 = 0 ∧ M 7 2 = 0 ∧ M 31 1 = 0) : CR M σ0 := by
  obtain ⟨h1, h2, h3, h4, h5, h6⟩ := h
  refine ⟨⟨h1, Int.le_refl _, by show (0 : Int) ≤ 60; omega, fun j u v => absurd v (by show ¬ j < 0; omega), h2⟩, ⟨h5, Nat.zero_le _, by omega, by omega, fun i s hs => ?_⟩, h3, fun s hs => (by cases hs), ⟨h6, Nat.zero_le _, fun i c hc => ?_⟩⟩
  · have hs2 : ([] : List sS)[i]? = some s := hs
    simp at hs2
  · have hs2 : ([] : List Int)[i]? = some c := hc
    simp at hs2
theorem MR0 {M : mI} (h1 : ∀ j, 0 ≤ j → j < 5 → M 38 (1 + j) = fFirst j) (h2 : M 38 0 = 0) (h3 : ∀ j, M 37 j = 0) : MR M σ0 := by
  refine ⟨⟨h2, Int.le_refl _, by show (0 : Int) ≤ 60; omega, fun j u v => absurd v (by show ¬ j < 0; omega), h1⟩, ⟨h3 4, Nat.zero_le _, fun i s hs => ?_⟩, h3 3, fun s hs => (by cases hs), ⟨h3 6, Nat.zero_le _, fun i c hc => ?_⟩⟩
  · have hs2 : ([] : List sS)[i]? = some s := hs
    simp at hs2
  · have hs2 : ([] : List Int)[i]? = some c := hc
    simp at hs2
theorem CR.lo {M M' : mI} {σ : sG} (h : CR M σ) (e : ∀ a, a < 37 → M' a = M a) : CR M' σ := h.to (fun a u => e a (by omega))
theorem MR.hi {M M' : mI} {σ : sG} (h : MR M σ) (e : ∀ a, 37 ≤ a → M' a = M a) : MR M' σ := h.to (fun a u v => e a (by omega)) (by rw [e 37 (by decide)]) (by rw [e 37 (by decide)]) (by rw [e 37 (by decide)])
