/-! WHAT THE DOCUMENT SAYS, in whole numbers: n letters x 0, x 1 .., the settings g 0 .. g 4 -/
/-- how many letters from place n - k on are the same as those d places ahead -/
def lkF (n : Int) (x : Int → Int) (d : Int) : Nat → Int
  | 0 => 0
  | k + 1 => if x (n - (k + 1)) = x (n - (k + 1) - d) then lkF n x d k + 1 else 0
def lk (n : Int) (x : Int → Int) (p d : Int) : Int := lkF n x d (n - p).toNat
theorem lk_end {n : Int} {x : Int → Int} {p d : Int} (h : n ≤ p) : lk n x p d = 0 := by
  unfold lk
  rw [show (n - p).toNat = 0 by omega]
  rfl
theorem lk_step {n : Int} {x : Int → Int} {p d : Int} (h : p < n) : lk n x p d = if x p = x (p - d) then lk n x (p + 1) d + 1 else 0 := by
  unfold lk
  obtain ⟨k, hk⟩ : ∃ k : Nat, n - p = k + 1 := ⟨(n - p - 1).toNat, by omega⟩
  rw [show (n - p).toNat = k + 1 by omega, show (n - (p + 1)).toNat = k by omega]
  show (if x (n - (k + 1)) = x (n - (k + 1) - d) then lkF n x d k + 1 else 0) = _
  rw [show n - ((k : Int) + 1) = p by omega]
theorem lkF_bound (n : Int) (x : Int → Int) (d : Int) (k : Nat) : 0 ≤ lkF n x d k ∧ lkF n x d k ≤ k := by
  induction k with
  | zero => exact ⟨Int.le_refl _, Int.le_refl _⟩
  | succ k ih =>
    unfold lkF
    split <;> omega
theorem lk_nonneg (n : Int) (x : Int → Int) (p d : Int) : 0 ≤ lk n x p d := (lkF_bound n x d _).1
theorem lk_le {n : Int} {x : Int → Int} {p d : Int} (h : p ≤ n) : lk n x p d ≤ n - p := by
  have := (lkF_bound n x d (n - p).toNat).2
  unfold lk
  omega
theorem lk_eq {n : Int} {x : Int → Int} {p d : Int} (h : p < n) (he : x p = x (p - d)) : lk n x p d = lk n x (p + 1) d + 1 := by rw [lk_step h, if_pos he]
theorem lk_ne {n : Int} {x : Int → Int} {p d : Int} (h : p < n) (he : x p ≠ x (p - d)) : lk n x p d = 0 := by rw [lk_step h, if_neg he]
def b2i (b : Bool) : Int := if b = true then 1 else 0
/-- whether letter v is among the first k -/
def hasF (x : Int → Int) (v : Int) : Nat → Bool
  | 0 => false
  | k + 1 => hasF x v k || decide (x k = v)
theorem hasF_iff (x : Int → Int) (v : Int) (k : Nat) : hasF x v k = true ↔ ∃ j : Int, 0 ≤ j ∧ j < k ∧ x j = v := by
  induction k with
  | zero => exact ⟨fun h => absurd (show false = true from h) (by decide), fun ⟨j, h1, h2, _⟩ => absurd h2 (by omega)⟩
  | succ k ih =>
    unfold hasF
    rw [Bool.or_eq_true, ih, decide_eq_true_eq]
    constructor
    · rintro (⟨j, h1, h2, h3⟩ | h)
      · exact ⟨j, h1, by omega, h3⟩
      · exact ⟨k, by omega, by omega, h⟩
    · rintro ⟨j, h1, h2, h3⟩
      by_cases hj : j = k
      · subst hj; exact Or.inr h3
      · exact Or.inl ⟨j, h1, by omega, h3⟩
/-- how many of the letters below v are among the first k -/
def unlV (x : Int → Int) (k : Nat) : Nat → Int
  | 0 => 0
  | v + 1 => unlV x k v + b2i (hasF x v k)
def unl (n : Int) (x : Int → Int) : Int := unlV x n.toNat 8
theorem b2i_01 (b : Bool) : b2i b = 0 ∨ b2i b = 1 := by cases b <;> simp [b2i]
theorem unlV_bound (x : Int → Int) (k v : Nat) : 0 ≤ unlV x k v ∧ unlV x k v ≤ v := by
  induction v with
  | zero => exact ⟨Int.le_refl _, Int.le_refl _⟩
  | succ v ih =>
    unfold unlV
    have := b2i_01 (hasF x v k)
    omega
/-- the State at the cells k, k + 1, k + 2 holds n letters x and the settings g -/
def Sv (M : mI) (k : Nat) (n : Int) (x g : Int → Int) : Prop := M k 2 = n ∧ 0 ≤ n ∧ n ≤ 60 ∧ (∀ j, 0 ≤ j → j < n → M (k + 1) j = x j) ∧ ∀ j, 0 ≤ j → j < 5 → M (k + 2) j = g j
theorem Sv.to {M M' : mI} {k : Nat} {n : Int} {x g : Int → Int} (h : Sv M k n x g) (h0 : M' k = M k) (h1 : M' (k + 1) = M (k + 1)) (h2 : M' (k + 2) = M (k + 2)) : Sv M' k n x g := by
  obtain ⟨a, b, c, d, e⟩ := h
  exact ⟨by rw [h0]; exact a, b, c, fun j u v => by rw [h1]; exact d j u v, fun j u v => by rw [h2]; exact e j u v⟩
theorem St.kl {k : Nat} (h : St k) : k + 1 < 51 := by have := h.2.2.2.2.2; omega
theorem St.kg {k : Nat} (h : St k) : k + 2 < 51 := h.2.2.2.2.2
