/-! THE WHOLE STATE and what each call answers -/
abbrev sG : Type := sS × List sS × Option sS × List Int
def okS (s : sS) : Prop := (0 ≤ s.1 ∧ s.1 ≤ 60) ∧ Og s.2.2 ∧ ∀ j, 0 ≤ j → j < s.1 → 0 ≤ s.2.1 j ∧ s.2.1 j ≤ 7
def OkV (σ : sG) : Prop := okS σ.1 ∧ (∀ s ∈ σ.2.1, okS s) ∧ (∀ s, σ.2.2.1 = some s → okS s) ∧ Tc σ.2.2.2
def CR (M : mI) (σ : sG) : Prop := Sv M 1 σ.1.1 σ.1.2.1 σ.1.2.2 ∧ Hv M σ.2.1 ∧ M 0 2 = (if σ.2.2.1.isSome = true then 1 else 0) ∧ (∀ s, σ.2.2.1 = some s → Sv M 4 s.1 s.2.1 s.2.2) ∧ Tv M σ.2.2.2
theorem CR.to {M M' : mI} {σ : sG} (h : CR M σ) (he : ∀ a, a ≤ 20 ∨ a = 31 ∨ a = 32 → M' a = M a) : CR M' σ := by
  obtain ⟨h1, h2, h3, h4, h5⟩ := h
  exact ⟨h1.to (he 1 (by omega)) (he 2 (by omega)) (he 3 (by omega)), h2.to (fun a u v => he a (by omega)), by rw [he 0 (by omega)]; exact h3, fun s hs => (h4 s hs).to (he 4 (by omega)) (he 5 (by omega)) (he 6 (by omega)), h5.to (he 31 (by omega)) (he 32 (by omega))⟩
/-- the state with another row or other settings, the one before being recorded -/
def chg (σ : sG) (s : sS) : sG := (s, hPush σ.2.1 σ.1, σ.2.2.1, σ.2.2.2)
def isPl (σ : sG) (p : Int) : Prop := 0 ≤ p ∧ p < σ.1.1
def q_put (σ : sG) (c : Int) : Int × sG :=
  if ¬ (0 ≤ c ∧ c ≤ 7) then (-10001, σ) else if 60 ≤ σ.1.1 then (-10003, σ)
  else (σ.1.1 + 1, chg σ (σ.1.1 + 1, (fun j => if j = σ.1.1 then c else σ.1.2.1 j), σ.1.2.2))
def q_drop (σ : sG) (m : Int) : Int × sG :=
  if ¬ (1 ≤ m ∧ m ≤ 60) then (-10001, σ) else if σ.1.1 < m then (-10002, σ) else (σ.1.1 - m, chg σ (σ.1.1 - m, σ.1.2.1, σ.1.2.2))
def q_mend (σ : sG) (p c : Int) : Int × sG :=
  if ¬ ((0 ≤ p ∧ p < σ.1.1) ∧ (0 ≤ c ∧ c ≤ 7)) then (-10001, σ) else (σ.1.2.1 p, chg σ (σ.1.1, (fun j => if j = p then c else σ.1.2.1 j), σ.1.2.2))
def q_set (σ : sG) (w v : Int) : Int × sG :=
  if ¬ ((0 ≤ w ∧ w ≤ 4) ∧ (fLow w ≤ v ∧ v ≤ fHigh w)) then (-10001, σ) else (σ.1.2.2 w, chg σ (σ.1.1, σ.1.2.1, (fun j => if j = w then v else σ.1.2.2 j)))
def q_letter (σ : sG) (p : Int) : Int := if 0 ≤ p ∧ p < σ.1.1 then σ.1.2.1 p else -10001
def q_candidate (σ : sG) (p i w : Int) : Int :=
  if ¬ ((0 ≤ p ∧ p < σ.1.1) ∧ 0 ≤ i ∧ (0 ≤ w ∧ w ≤ 1)) then -10001
  else if ((cs σ.1.1 σ.1.2.1 σ.1.2.2 p).length : Int) ≤ i then -10004
  else if w = 0 then (cs σ.1.1 σ.1.2.1 σ.1.2.2 p).getD i.toNat 0 else rc σ.1.1 σ.1.2.1 p ((cs σ.1.1 σ.1.2.1 σ.1.2.2 p).getD i.toNat 0)
def q_found (σ : sG) (p w : Int) : Int :=
  if ¬ ((0 ≤ p ∧ p < σ.1.1) ∧ (0 ≤ w ∧ w ≤ 3)) then -10001
  else if w = 3 then cNum σ.1.1 σ.1.2.1 σ.1.2.2 p
  else if bD σ.1.1 σ.1.2.1 σ.1.2.2 p = -10004 then -10004
  else if w = 0 then bD σ.1.1 σ.1.2.1 σ.1.2.2 p
  else if w = 1 then rc σ.1.1 σ.1.2.1 p (bD σ.1.1 σ.1.2.1 σ.1.2.2 p) else sv σ.1.1 σ.1.2.1 σ.1.2.2 p
def q_isCopy (σ : sG) (p d c : Int) : Int :=
  if ¬ (0 ≤ p ∧ p < σ.1.1) then -10001
  else if (1 ≤ d ∧ d ≤ min (σ.1.2.2 0) p) ∧ (σ.1.2.2 1 ≤ c ∧ c ≤ 20) ∧ c ≤ lk σ.1.1 σ.1.2.1 p d then 1 else 0
abbrev bg (σ : sG) (w : Int) : List Int := bgs σ.1.1 σ.1.2.1 σ.1.2.2 w
abbrev lP (σ : sG) (w p : Int) : Int := pL σ.1.1 σ.1.2.1 σ.1.2.2 w p
abbrev dP (σ : sG) (w p : Int) : Int := pD σ.1.1 σ.1.2.1 σ.1.2.2 w p
def q_part (σ : sG) (w i k : Int) : Int :=
  if ¬ ((0 ≤ w ∧ w ≤ 2) ∧ 0 ≤ i ∧ (0 ≤ k ∧ k ≤ 3)) then -10001
  else if ((bg σ w).length : Int) ≤ i then -10004
  else if k = 0 then (bg σ w).getD i.toNat 0
  else if k = 1 then lP σ w ((bg σ w).getD i.toNat 0)
  else if k = 2 then dP σ w ((bg σ w).getD i.toNat 0)
  else if dP σ w ((bg σ w).getD i.toNat 0) = 0 then σ.1.2.2 3 else σ.1.2.2 4
def tS (σ : sG) (w : Int) : Int × Int × Int := sts σ.1.1 σ.1.2.1 σ.1.2.2 w
def cS (σ : sG) (w : Int) : Int := cst σ.1.1 σ.1.2.1 σ.1.2.2 w
def q_total (σ : sG) (w k : Int) : Int :=
  if ¬ ((0 ≤ w ∧ w ≤ 2) ∧ (0 ≤ k ∧ k ≤ 5)) then -10001
  else if k = 0 then ((bg σ w).length : Int)
  else if k = 1 then (tS σ w).1
  else if k = 2 then cS σ w
  else if k = 3 then σ.1.1 * σ.1.2.2 3 - cS σ w
  else if k = 4 then (tS σ w).2.1 else (tS σ w).2.2
def q_partAt (σ : sG) (w p : Int) : Int := if ¬ ((0 ≤ w ∧ w ≤ 2) ∧ (0 ≤ p ∧ p < σ.1.1)) then -10001 else ixP σ.1.1 σ.1.2.1 σ.1.2.2 w p
def q_parting (σ : sG) (v w : Int) : Int :=
  if ¬ ((0 ≤ v ∧ v ≤ 2) ∧ (0 ≤ w ∧ w ≤ 2)) then -10001
  else if fuP σ.1.1 σ.1.2.1 σ.1.2.2 v w = -1 then -10004 else fuP σ.1.1 σ.1.2.1 σ.1.2.2 v w
def q_repeat (σ : sG) (k : Int) : Int :=
  if ¬ (0 ≤ k ∧ k ≤ 2) then -10001
  else if (rep σ.1.1 σ.1.2.1).1 = 0 then -10004
  else if k = 0 then (rep σ.1.1 σ.1.2.1).1 else if k = 1 then (rep σ.1.1 σ.1.2.1).2.1 else (rep σ.1.1 σ.1.2.1).2.2
def chW (σ : sG) : Int := if cS σ 1 < cS σ 0 then (if cS σ 2 < cS σ 1 then 2 else 1) else (if cS σ 2 < cS σ 0 then 2 else 0)
def q_count (σ : sG) (k : Int) : Int :=
  if k = 0 then σ.1.1 else if k = 1 then unl σ.1.1 σ.1.2.1 else if k = 2 then chW σ else if k = 3 then (σ.2.1.length : Int)
  else if k = 4 then (σ.2.2.2.length : Int) else if k = 5 then (if σ.2.2.1.isSome = true then 1 else 0)
  else if 10 ≤ k ∧ k ≤ 14 then σ.1.2.2 (k - 10) else -10001
def q_keep (σ : sG) : Int × sG := (σ.1.1, (σ.1, σ.2.1, some σ.1, σ.2.2.2))
def q_restore (σ : sG) : Int × sG :=
  if h : σ.2.2.1.isSome = true then ((σ.2.2.1.get h).1, chg σ (σ.2.2.1.get h)) else (-10002, σ)
def q_undo (σ : sG) : Int × sG :=
  if h : σ.2.1 ≠ [] then ((σ.2.1.length : Int) - 1, (σ.2.1.getLast h, σ.2.1.dropLast, σ.2.2.1, σ.2.2.2)) else (-10002, σ)
def q_type (σ : sG) (c : Int) : Int × sG :=
  if ¬ (32 ≤ c ∧ c ≤ 126) then (-10001, σ) else if 120 ≤ σ.2.2.2.length then (-10003, σ)
  else ((σ.2.2.2.length : Int) + 1, (σ.1, σ.2.1, σ.2.2.1, σ.2.2.2 ++ [c]))
def q_clearText (σ : sG) : Int × sG := ((σ.2.2.2.length : Int), (σ.1, σ.2.1, σ.2.2.1, []))
/-- a part as a text -/
def pTx (σ : sG) (w p : Int) : List Int := if dP σ w p = 0 then [97 + σ.1.2.1 p] else cpS (dP σ w p) (lP σ w p)
def wTx (σ : sG) (w : Int) : List Int := ((bg σ w).map (pTx σ w)).flatten
def q_write (σ : sG) (w : Int) : Int × sG :=
  if ¬ (0 ≤ w ∧ w ≤ 2) then (-10001, σ) else if 120 < (wTx σ w).length then (-10003, σ)
  else (((wTx σ w).length : Int), (σ.1, σ.2.1, σ.2.2.1, wTx σ w))
def q_fault (σ : sG) (k : Int) : Int :=
  if ¬ (0 ≤ k ∧ k ≤ 1) then -10001 else if (prT σ.2.2.2 σ.1.2.2).2.2.1 = 0 then -10004
  else if k = 0 then (prT σ.2.2.2 σ.1.2.2).2.1 else (prT σ.2.2.2 σ.1.2.2).2.2.1
def q_read (σ : sG) : Int × sG :=
  if (prT σ.2.2.2 σ.1.2.2).2.2.1 ≠ 0 then (-10002, σ)
  else ((prT σ.2.2.2 σ.1.2.2).2.2.2.1, chg σ ((prT σ.2.2.2 σ.1.2.2).2.2.2.1, (prT σ.2.2.2 σ.1.2.2).2.2.2.2, σ.1.2.2))
theorem hPush_ok {h : List sS} {s : sS} (hh : ∀ s ∈ h, okS s) (hs : okS s) : ∀ s' ∈ hPush h s, okS s' := by
  intro s' hm
  unfold hPush at hm
  rcases List.mem_append.mp hm with hm | hm
  · split at hm
    · exact hh s' (List.mem_of_mem_tail hm)
    · exact hh s' hm
  · rw [List.mem_singleton.mp hm]; exact hs
theorem chg_ok {σ : sG} {s : sS} (h : OkV σ) (hs : okS s) : OkV (chg σ s) := ⟨hs, hPush_ok h.2.1 h.1, h.2.2.1, h.2.2.2⟩
