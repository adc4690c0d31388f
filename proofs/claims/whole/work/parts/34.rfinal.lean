/-! the map of what was made is R0 -/
def Rfin : mR := rU (rU (rU (rU (rU (rU (rU (rU (rU (rU (rU (rU (rU (rU (rU (rU (rU (rU (rU (rU (rU (rU (rU (rU (rU (rU (rU (rU (rU (rU (rU (rU (rU (rU (rU (rU (rU (rU (rU (rU (rU (rU (rU (rU (rU (rU (rU (rU (rU (rU (rU (rU (rU (rU (fun _ _ => none) 1 0 (some 2)) 1 1 (some 3)) 0 0 (some 1)) 4 0 (some 5)) 4 1 (some 6)) 0 1 (some 4)) 7 0 (some 8)) 9 0 (some 10)) 9 1 (some 11)) 8 0 (some 9)) 12 0 (some 13)) 12 1 (some 14)) 8 1 (some 12)) 15 0 (some 16)) 15 1 (some 17)) 8 2 (some 15)) 18 0 (some 19)) 18 1 (some 20)) 8 3 (some 18)) 0 3 (some 7)) 21 1 (some 22)) 21 2 (some 23)) 21 0 (some 1)) 0 4 (some 21)) 24 2 (some 25)) 24 3 (some 26)) 24 4 (some 27)) 24 5 (some 28)) 24 6 (some 29)) 24 0 (some 1)) 24 1 (some 21)) 0 5 (some 24)) 0 6 (some 30)) 31 0 (some 32)) 0 7 (some 31)) 34 0 (some 35)) 34 1 (some 36)) 33 2 (some 34)) 33 0 (some 31)) 33 1 (some 1)) 0 8 (some 33)) 37 0 (some 38)) 37 1 (some 39)) 37 2 (some 40)) 37 5 (some 41)) 37 7 (some 42)) 37 8 (some 43)) 37 9 (some 44)) 37 11 (some 45)) 37 12 (some 46)) 37 13 (some 47)) 37 14 (some 48)) 37 15 (some 49)) 37 20 (some 50)
theorem Rfin_R0 : Rfin = R0 := by
  funext k j
  by_cases hk : k < 51
  · by_cases hj : j < 21
    · have h : ∀ k : Fin 51, ∀ j : Fin 21, Rfin k.val j.val = R0 k.val j.val := by decide +kernel
      exact h ⟨k, hk⟩ ⟨j, hj⟩
    · have h1 : Rfin k j = none := by
        unfold Rfin
        simp only [rU]
        repeat rw [if_neg (by omega)]
      have h2 : ∀ l ∈ r0L, l.length ≤ 21 := by decide +kernel
      rw [h1]
      unfold R0
      have h3 : (r0L.getD k []).length ≤ 21 := by
        rw [List.getD_eq_getElem?_getD]
        cases hq : r0L[k]? with
        | none => exact Nat.zero_le _
        | some l => exact h2 l (List.mem_of_getElem? hq)
      rw [List.getD_eq_getElem?_getD, List.getElem?_eq_none (by omega)]
      rfl
  · have h1 : Rfin k j = none := by
      unfold Rfin
      simp only [rU]
      repeat rw [if_neg (by omega)]
    have h2 : r0L.length ≤ 51 := by decide +kernel
    have h3 : r0L.getD k [] = [] := by
      rw [List.getD_eq_getElem?_getD, List.getElem?_eq_none (by omega)]
      rfl
    rw [h1]
    unfold R0
    rw [h3]
    rfl
