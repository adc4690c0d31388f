/-! the start: a static row of five ints -/
theorem sT_start {s : State} {args : Array Value} {n : String} {f : Int → Int} (hl : (Cond.laysStatic "WindowCopies" n "[I").before args s = true) (hini : (Cond.initialized "WindowCopies").before args s = true) (harr : (Cond.arrayOf (.static "WindowCopies" n "[I") .int).before args s = true) (hlen : (Cond.eq (.length (.static "WindowCopies" n "[I")) (.int 5)).before args s = true) (hel : ∀ j : Nat, j < 5 → (Cond.eq (.elem (.static "WindowCopies" n "[I") (.int (Int32.ofNat j))) (.int (Int32.ofInt (f j)))).before args s = true) : ∃ t : Nat, va_Z "WindowCopies" n "[I" (.ref t) (fun q => s.heap.size ≤ q) s s.heap ∧ va_T .int t 5 (fun j => vI (f j)) (fun q => s.heap.size ≤ q) s s.heap := by
  obtain ⟨t, ht, hT⟩ := va_Tof (N := 5) (f := fun j => vI (f j)) (A := fun q => s.heap.size ≤ q) (by decide) harr (va_eqt hlen) (fun j hj => va_eqt (hel j hj)) (fun a ha => by omega)
  exact ⟨t, va_Zof hl hini ht (fun a ha => by omega), hT⟩
theorem five {P : Nat → Prop} (h0 : P 0) (h1 : P 1) (h2 : P 2) (h3 : P 3) (h4 : P 4) : ∀ j, j < 5 → P j := by
  intro j hj
  match j, hj with
  | 0, _ => exact h0
  | 1, _ => exact h1
  | 2, _ => exact h2
  | 3, _ => exact h3
  | 4, _ => exact h4
  | j + 5, hj => exact absurd hj (by omega)
