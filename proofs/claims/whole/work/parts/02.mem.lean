/-! THE MEMORY of the two systems. All cells are made by the two constructors, one behind another, from the law's first heap on: cell k lies at b + k. A cell holds whole numbers (fields, elements) and references (to cells); the latter stay once they are set. -/
abbrev mI : Type := Nat → Int → Int
abbrev mR : Type := Nat → Nat → Option Nat
abbrev gX : Type := (Nat → ClassId) × (Nat → Nat → Nat) × ClassId × ClassId × Nat × Nat × Nat × Nat
abbrev gD (Γ : gX) : va_G := (Γ.1, Γ.2.1)
abbrev gI (Γ : gX) : ClassId := Γ.2.2.1
abbrev gS (Γ : gX) : ClassId := Γ.2.2.2.1
abbrev gb (Γ : gX) : Nat := Γ.2.2.2.2.1
abbrev gtL (Γ : gX) : Nat := Γ.2.2.2.2.2.1
abbrev gtH (Γ : gX) : Nat := Γ.2.2.2.2.2.2.1
abbrev gtF (Γ : gX) : Nat := Γ.2.2.2.2.2.2.2
def vI (z : Int) : Value := .int (Int32.ofInt z)
abbrev iR (z : Int) : Prop := -2147483648 ≤ z ∧ z < 2147483648
def rV (b : Nat) (o : Option Nat) : Value := va_rf (o.map (fun k => b + k))
def mU (M : mI) (k : Nat) (j v : Int) : mI := fun a i => if a = k ∧ i = j then v else M a i
def rU (R : mR) (k j : Nat) (v : Option Nat) : mR := fun a i => if a = k ∧ i = j then v else R a i
theorem mU_self (M : mI) (k : Nat) (j v : Int) : mU M k j v k j = v := by simp [mU]
theorem mU_cell {M : mI} {k a : Nat} {j v : Int} (h : a ≠ k) : mU M k j v a = M a := by funext i; simp [mU, h]
theorem mU_slot {M : mI} {k a : Nat} {j v i : Int} (h : i ≠ j) : mU M k j v a i = M a i := by simp [mU, h]
theorem mU_if (M : mI) (k : Nat) (j v i : Int) : mU M k j v k i = if i = j then v else M k i := by simp [mU]
theorem iR_mU {M : mI} {k : Nat} {j v : Int} (h : ∀ a i, iR (M a i)) (hv : iR v) : ∀ a i, iR (mU M k j v a i) := by
  intro a i
  unfold mU
  split
  · exact hv
  · exact h a i
/-- which cell is what: (0, n) a row of n ints, (1, ci) an object of class ci, (2, n) a row of n States -/
def dsL : List (Nat × Nat) := [(1, 0), (1, 1), (0, 60), (0, 5), (1, 1), (0, 60), (0, 5), (1, 2), (2, 4), (1, 1), (0, 60), (0, 5), (1, 1), (0, 60), (0, 5), (1, 1), (0, 60), (0, 5), (1, 1), (0, 60), (0, 5), (1, 3), (0, 61), (0, 60), (1, 4), (0, 180), (0, 180), (0, 62), (0, 61), (0, 60), (1, 5), (1, 6), (0, 120), (1, 7), (1, 1), (0, 60), (0, 5), (1, 8), (0, 66), (0, 264), (0, 66), (0, 120), (0, 60), (0, 60), (0, 60), (0, 61), (0, 60), (0, 60), (0, 60), (0, 60), (0, 60)]
def isR (ci j : Nat) : Bool := (isRL.getD ci []).getD j false
def r0L : List (List (Option Nat)) := [[some 1, some 4, none, some 7, some 21, some 24, some 30, some 31, some 33], [some 2, some 3], [], [], [some 5, some 6], [], [], [some 8], [some 9, some 12, some 15, some 18], [some 10, some 11], [], [], [some 13, some 14], [], [], [some 16, some 17], [], [], [some 19, some 20], [], [], [some 1, some 22, some 23], [], [], [some 1, some 21, some 25, some 26, some 27, some 28, some 29], [], [], [], [], [], [], [some 32], [], [some 31, some 1, some 34], [some 35, some 36], [], [], [some 38, some 39, some 40, none, none, some 41, none, some 42, some 43, some 44, none, some 45, some 46, some 47, some 48, some 49, none, none, none, none, some 50]]
def R0 : mR := fun k j => (r0L.getD k []).getD j none
def cV (Γ : gX) (R : mR) (M : mI) (ci k j : Nat) : Value := if isR ci j = true then rV (gb Γ) (R k j) else vI (M k j)
def cE (Γ : gX) (R : mR) (M : mI) (H : Heap) (k : Nat) : Prop :=
  (∀ n : Nat, dsL[k]? = some (0, n) → H[gb Γ + k]? = some (arrV (gI Γ) n (fun j => vI (M k j)))) ∧
  (∀ ci : Nat, dsL[k]? = some (1, ci) → ∃ r : vw_C, classes[ci]? = some r ∧ t_OB (gb Γ + k) (Γ.1 ci) r.2.2 (Γ.2.1 ci) H (cV Γ R M ci k)) ∧
  (∀ n : Nat, dsL[k]? = some (2, n) → H[gb Γ + k]? = some (arrV (gS Γ) n (fun j => rV (gb Γ) (R k j))))
def Hp (Γ : gX) (R : mR) (K : Nat) (M : mI) (H : Heap) : Prop := H.size = gb Γ + K ∧ (∀ k i, iR (M k i)) ∧ ∀ k : Nat, k < K → cE Γ R M H k
def gA (Γ : gX) : Nat → Prop := fun q => gb Γ ≤ q
/-- a static row of five ints that nobody writes -/
def sT (Γ : gX) (t : Nat) (n : String) (f : Int → Int) (U : State) : Prop := va_Z "WindowCopies" n "[I" (.ref t) (gA Γ) U U.heap ∧ va_T .int t 5 (fun j => vI (f j)) (gA Γ) U U.heap
def fLow (j : Int) : Int := if j = 1 then 2 else 1
def fHigh (j : Int) : Int := if j = 1 then 6 else if j = 3 then 20 else 60
def fFirst (j : Int) : Int := if j = 0 then 20 else if j = 1 then 3 else if j = 4 then 18 else 8
def Vf (Γ : gX) (U : State) : Prop := va_K (gD Γ) classes [(gI Γ, .int), (gS Γ, .object "WindowCopies$State")] U ∧ (∀ w ∈ nestWs, va_Nw w U) ∧ va_AO "WindowCopies$State" U ∧ sT Γ (gtL Γ) "LOWEST_VALUES" fLow U ∧ sT Γ (gtH Γ) "HIGHEST_VALUES" fHigh U ∧ sT Γ (gtF Γ) "FIRST_VALUES" fFirst U
theorem sT.moved {Γ : gX} {t : Nat} {n : String} {f : Int → Int} {u U : State} (h : sT Γ t n f u) (hvm : u.vm.Alike U.vm) (hh : ∀ q, q < gb Γ → U.heap[q]? = u.heap[q]?) : sT Γ t n f U := by
  have hq : ∀ a : Nat, a < u.heap.size → ¬ gA Γ a → U.heap[a]? = u.heap[a]? := fun a _ ha => hh a (Nat.not_le.mp ha)
  exact ⟨(va_Z.moved hvm h.1).kept hq, (va_T.moved hvm h.2).kept hq⟩
theorem nest_moved {s U : State} (hW : s.WarmedH U.vm) (h : ∀ w ∈ nestWs, va_Nw w s) : ∀ w ∈ nestWs, va_Nw w U := by
  intro w hw
  have h1 := h w hw
  unfold nestWs at hw
  simp only [List.mem_cons, List.not_mem_nil, or_false] at hw
  rcases hw with rfl | rfl | rfl | rfl | rfl | rfl | rfl | rfl | rfl | rfl | rfl | rfl | rfl
  all_goals first | exact va_Nw.warmF hW h1 | exact va_Nw.warmM hW h1
theorem Vf.moved {Γ : gX} {s U : State} (h : Vf Γ s) (hW : s.WarmedH U.vm) (hh : ∀ q, q < gb Γ → U.heap[q]? = s.heap[q]?) : Vf Γ U := by
  obtain ⟨h1, h2, h3, h4, h5, h6⟩ := h
  exact ⟨va_K.moved hW.alike h1, nest_moved hW h2, va_AO.moved hW.alike h3, h4.moved hW.alike hh, h5.moved hW.alike hh, h6.moved hW.alike hh⟩
theorem Vf.same {Γ : gX} {s U : State} (h : Vf Γ s) (hv : s.vm = U.vm) (hh : U.heap = s.heap) : Vf Γ U := by
  obtain ⟨h1, h2, h3, h4, h5, h6⟩ := h
  have ha : s.vm.Alike U.vm := by rw [hv]; exact Vm.Alike.refl _
  have hq : ∀ q, q < gb Γ → U.heap[q]? = s.heap[q]? := fun q _ => by rw [hh]
  refine ⟨va_K.moved ha h1, fun w hw => ?_, va_AO.moved ha h3, h4.moved ha hq, h5.moved ha hq, h6.moved ha hq⟩
  have h7 := h2 w hw
  unfold nestWs at hw
  simp only [List.mem_cons, List.not_mem_nil, or_false] at hw
  rcases hw with rfl | rfl | rfl | rfl | rfl | rfl | rfl | rfl | rfl | rfl | rfl | rfl | rfl
  all_goals exact va_Nw.same rfl hv h7
/-! the judgement: at pc, with the locals L (all of one slot), the operand stack st and the memory M, the machine comes to the end -/
abbrev XT : Type := Program × Launch × Env × Room × State × MethodId × Array Value × List Frame × Method × Code × (State → Prop)
abbrev xp (X : XT) : Program := X.1
abbrev xl (X : XT) : Launch := X.2.1
abbrev xe (X : XT) : Env := X.2.2.1
abbrev xR (X : XT) : Room := X.2.2.2.1
abbrev xs (X : XT) : State := X.2.2.2.2.1
abbrev xm (X : XT) : MethodId := X.2.2.2.2.2.1
abbrev xa (X : XT) : Array Value := X.2.2.2.2.2.2.1
abbrev xw (X : XT) : List Frame := X.2.2.2.2.2.2.2.1
abbrev xt (X : XT) : Method := X.2.2.2.2.2.2.2.2.1
abbrev xc (X : XT) : Code := X.2.2.2.2.2.2.2.2.2.1
abbrev xQ (X : XT) : State → Prop := X.2.2.2.2.2.2.2.2.2.2
abbrev ZT : Type := mR × Nat × Nat × Nat
def lh (ls : Array Slot) (nL : Nat) (L : List (Option Value)) : Prop := ls.size = nL ∧ (∀ (i : Nat) (v : Value), L[i]? = some (some v) → ls[i]? = some (.val v)) ∧ ∀ i : Nat, ls[i]? ≠ some .second ∧ ∀ v : Value, ls[i]? = some (.val v) → v.category = 1
theorem lh_store {ls : Array Slot} {nL : Nat} {L : List (Option Value)} {i : Nat} {v : Value} (h : lh ls nL L) (hi : i < nL) (hc : v.category = 1) : ∃ ls', storeLocals ls i v = some ls' ∧ lh ls' nL (L.set i (some v)) := by
  obtain ⟨h1, h2, h3⟩ := h
  have hi' : i < ls.size := by omega
  have hx : ls[i]? = some ls[i] := Array.getElem?_eq_getElem hi'
  refine ⟨ls.setIfInBounds i (.val v), ?_, by simp [h1], ?_, ?_⟩
  · have h3i := h3 i
    generalize ls[i] = x at hx
    refine storeLocals_cat1 hx hc ?_
    cases x with
    | second => exact absurd hx h3i.1
    | val old => exact h3i.2 old hx
    | unset => trivial
  · intro j w hw
    by_cases hj : i = j
    · subst hj
      by_cases hl : i < L.length
      · rw [List.getElem?_set_self hl] at hw
        cases hw
        simp [hi']
      · rw [List.getElem?_eq_none (by simpa using hl)] at hw
        cases hw
    · rw [List.getElem?_set_ne hj] at hw
      rw [Array.getElem?_setIfInBounds_ne hj]
      exact h2 j w hw
  · intro j
    by_cases hj : i = j
    · subst hj
      refine ⟨by simp [hi'], fun w hw => ?_⟩
      simp [hi'] at hw
      rw [← hw]
      exact hc
    · rw [Array.getElem?_setIfInBounds_ne hj]
      exact h3 j
theorem lh_entry (av : List Value) (n : Nat) (hc : ∀ v ∈ av, v.category = 1) (hn : av.length ≤ n) : lh ((lg_sl av ++ List.replicate (n - (lg_sl av).length) Slot.unset).toArray) n (av.map some ++ List.replicate (n - av.length) none) := by
  have e : lg_sl av = av.map Slot.val := by
    clear hn
    induction av with
    | nil => rfl
    | cons v t ih =>
      have hv : v.category = 1 := hc v List.mem_cons_self
      have ht := ih (fun w hw => hc w (List.mem_cons_of_mem _ hw))
      unfold lg_sl at ht ⊢
      simp [hv, ht]
  rw [e]
  refine ⟨by simp; omega, fun i v hv => ?_, fun i => ?_⟩
  · simp only [List.getElem?_toArray]
    by_cases hi : i < av.length
    · rw [List.getElem?_append_left (by simpa using hi)] at hv ⊢
      rw [List.getElem?_map] at hv ⊢
      cases hw : av[i]? with
      | none => rw [hw] at hv; cases hv
      | some w => rw [hw] at hv; cases hv; rfl
    · rw [List.getElem?_append_right (by simpa using hi)] at hv
      have := List.eq_of_mem_replicate (List.mem_of_getElem? hv)
      cases this
  · simp only [List.getElem?_toArray]
    by_cases hi : i < av.length
    · rw [List.getElem?_append_left (by simpa using hi), List.getElem?_map]
      cases hw : av[i]? with
      | none => exact ⟨by simp, fun v hv => by simp at hv⟩
      | some w =>
        refine ⟨by simp, fun v hv => ?_⟩
        simp at hv
        rw [← hv]
        exact hc w (List.mem_of_getElem? hw)
    · rw [List.getElem?_append_right (by simpa using hi)]
      refine ⟨fun h => ?_, fun v hv => ?_⟩
      · have := List.eq_of_mem_replicate (List.mem_of_getElem? h)
        cases this
      · have := List.eq_of_mem_replicate (List.mem_of_getElem? hv)
        cases this
def G (Γ : gX) (X : XT) (nL : Nat) (Z : ZT) (pc : Nat) (L : List (Option Value)) (st : List Value) (M : mI) : Prop :=
  ∀ (H : Heap) (locs : List Loc) (ls : Array Slot), Hp Γ Z.1 Z.2.1 M H → (∀ q, q < gb Γ → H[q]? = (xs X).heap[q]?) → (∀ q ∈ locs, gb Γ ≤ q.base) → lh ls nL L → W (xp X) (xl X) (xe X) (xR X) (xs X) (xm X) (xa X) (xw X) (xt X) (xc X) H locs Z.2.2.1 Z.2.2.2 (xQ X) (F0 (xm X) pc ls st)
def Cx (Γ : gX) (X : XT) (nL h : Nat) (cc : ByteArray) (own : String) : Prop := (xp X).tables.exec = Jvm.exec ∧ (xc X).code = cc ∧ (xc X).maxLocals = nL ∧ (xs X).vm.findClass own = some (xm X).cls ∧ (∀ w ∈ gT, w.before (xa X) (xs X) = true) ∧ (xt X).locks = false ∧ Vf Γ (xs X) ∧ h ≤ (xR X).frames ∧ 40 * h ≤ (xR X).locals
theorem i32_toInt {z : Int} (h : iR z) : (Int32.ofInt z).toInt = z := Int32.toInt_ofInt_of_le (by omega) (by omega)
theorem i32_lt {x y : Int} (hx : iR x) (hy : iR y) : Int32.ofInt x < Int32.ofInt y ↔ x < y := by rw [Int32.lt_iff_toInt_lt, i32_toInt hx, i32_toInt hy]
theorem i32_le {x y : Int} (hx : iR x) (hy : iR y) : Int32.ofInt x ≤ Int32.ofInt y ↔ x ≤ y := by rw [Int32.le_iff_toInt_le, i32_toInt hx, i32_toInt hy]
theorem i32_eq {x y : Int} (hx : iR x) (hy : iR y) : Int32.ofInt x = Int32.ofInt y ↔ x = y := by rw [← Int32.toInt_inj, i32_toInt hx, i32_toInt hy]
theorem i32_0 : (0 : Int32) = Int32.ofInt 0 := rfl
theorem i32_of (x : Int32) : vI x.toInt = .int x := by unfold vI; rw [Int32.ofInt_toInt]
theorem i32_clamp {z : Int} (h0 : 0 ≤ z) (h : z < 2147483648) : (Int32.ofInt z).toNatClampNeg = z.toNat := by
  show (Int32.ofInt z).toInt.toNat = _
  rw [i32_toInt ⟨by omega, h⟩]
theorem i32_in {z : Int} {n : Nat} (h0 : 0 ≤ z) (h : z < n) (hn : n < 2147483648) : ¬ (Int32.ofInt z < 0 ∨ n ≤ (Int32.ofInt z).toNatClampNeg) := by
  rw [i32_clamp h0 (by omega), i32_0, i32_lt ⟨by omega, by omega⟩ ⟨by omega, by omega⟩]
  omega
