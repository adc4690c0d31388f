/-! the start: the classes as the tables have them -/
theorem inst_ok : ∀ (c : Nat) (q : vw_C), classes[c]? = some q → Cond.instantiable q.1 q.2.2 ∈ gT := by
  intro c q hq
  match c, hq with
  | 0, hq => cases hq; exact q_12
  | 1, hq => cases hq; exact q_20
  | 2, hq => cases hq; exact q_45
  | 3, hq => cases hq; exact q_64
  | 4, hq => cases hq; exact q_89
  | 5, hq => cases hq; exact q_129
  | 6, hq => cases hq; exact q_145
  | 7, hq => cases hq; exact q_158
  | 8, hq => cases hq; exact q_659
  | k + 9, hq => simp [classes] at hq
theorem k_start {s : State} {args : Array Value} (hts : ∀ w ∈ gT, w.before args s = true) (hAO : va_AO "WindowCopies$State" s) : ∃ (dC : Nat → ClassId) (dI : Nat → Nat → Nat) (gi gs : ClassId), va_K (dC, dI) classes [(gi, .int), (gs, .object "WindowCopies$State")] s := by
  have h : ∀ c : Nat, ∃ p : ClassId × (Nat → Nat), ∀ q, classes[c]? = some q → u_Kn s q.1 q.2.1 q.2.2 p.1 p.2 := by
    intro c
    cases hq : classes[c]? with
    | none => exact ⟨(0, fun _ => 0), fun q hq' => by cases hq'⟩
    | some q =>
      obtain ⟨-, hin, -, -⟩ := cf_ok c q hq
      obtain ⟨cC, iS, hK⟩ := u_known (ws := gT) hts hin (hts _ (inst_ok c q hq))
      exact ⟨(cC, iS), fun q' hq' => by cases hq'; exact hK⟩
  obtain ⟨f, hf⟩ := Classical.axiomOfChoice h
  obtain ⟨cA, kA, comp, a1, a2, a3⟩ := Cond.arrayClass_spec (hts _ q_43)
  obtain ⟨comp2, c2, k2, b1, b2, b3, b4, b5⟩ := Cond.arrayOver_spec hAO
  refine ⟨fun c => (f c).1, fun c => (f c).2, cA, c2, fun c q hq => hf c q hq, fun k q hq => ?_⟩
  match k, hq with
  | 0, hq => cases hq; exact ⟨fun n z => ⟨fun k h => (by cases h), kA, a2, comp, a3⟩, a1⟩
  | 1, hq => cases hq; exact ⟨fun n z => ⟨fun k h => (by cases h), k2, b3, comp2, b4⟩, ⟨k2, comp2, b3, b4, b1, b5⟩⟩
  | k + 2, hq => simp at hq
