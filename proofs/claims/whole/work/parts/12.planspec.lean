/-! parts: three ways -/
def sv (n : Int) (x g : Int → Int) (p : Int) : Int := if bD n x g p = -10004 then 0 else rc n x p (bD n x g p) * g 3 - g 4
theorem cl_past (n : Int) (x g : Int → Int) {p : Int} (h : n ≤ p) (d : Nat) : cl n x g p d = [] := by
  induction d with
  | zero => rfl
  | succ d ih => rw [cl_succ, if_neg (by rw [lk_end h]; omega), ih]
theorem bD_past (n : Int) (x g : Int → Int) {p : Int} (h : n ≤ p) : bD n x g p = -10004 := by
  unfold bD bP cs
  rw [cl_past n x g h]
  rfl
theorem sv_past (n : Int) (x g : Int → Int) {p : Int} (h : n ≤ p) : sv n x g p = 0 := by
  unfold sv
  rw [if_pos (bD_past n x g h)]
/-- a copy with distance d at p, of length l, l - 1 .. (k lengths), against the best so far: cost, length, distance -/
def wI (T : Int → Int) (c p d : Int) : Int × Int × Int → Int → Nat → Int × Int × Int
  | s, _, 0 => s
  | s, l, k + 1 => wI T c p d (if c + T (p + l) < s.1 then (c + T (p + l), l, d) else s) (l - 1) k
def w2 (n : Int) (x g T : Int → Int) (p : Int) : Int × Int × Int := (cs n x g p).foldl (fun s d => wI T (g 4) p d s (rc n x p d) (rc n x p d - g 1 + 1).toNat) (g 3 + T (p + 1), 1, 0)
def dpT (n : Int) (x g : Int → Int) : Nat → Int → Int
  | 0 => fun _ => 0
  | k + 1 => fun q => if q = n - (k + 1) then (w2 n x g (dpT n x g k) (n - (k + 1))).1 else dpT n x g k q
/-- what the cheapest parts from q on cost -/
def cC (n : Int) (x g : Int → Int) : Int → Int := dpT n x g n.toNat
theorem wI_succ (T : Int → Int) (c p d : Int) (s : Int × Int × Int) (l : Int) (k : Nat) : wI T c p d s l (k + 1) = wI T c p d (if c + T (p + l) < s.1 then (c + T (p + l), l, d) else s) (l - 1) k := rfl
theorem wI_congr {T T' : Int → Int} {c p d : Int} (k : Nat) : ∀ (s : Int × Int × Int) (l : Int), (∀ j : Int, l - k < j → j ≤ l → T (p + j) = T' (p + j)) → wI T c p d s l k = wI T' c p d s l k := by
  induction k with
  | zero => intro s l h; rfl
  | succ k ih =>
    intro s l h
    rw [wI_succ, wI_succ, h l (by omega) (by omega)]
    exact ih _ _ (fun j h1 h2 => h j (by omega) (by omega))
theorem foldl_congr {α β : Type} {f f' : α → β → α} (l : List β) : ∀ s, (∀ b ∈ l, ∀ s, f s b = f' s b) → l.foldl f s = l.foldl f' s := by
  induction l with
  | nil => intro s h; rfl
  | cons b l ih =>
    intro s h
    rw [List.foldl_cons, List.foldl_cons, h b List.mem_cons_self s]
    exact ih _ (fun b' hb' => h b' (List.mem_cons_of_mem _ hb'))
theorem rc_b {n : Int} {x : Int → Int} {p d : Int} (hp : p ≤ n) : 0 ≤ rc n x p d ∧ rc n x p d ≤ 20 ∧ p + rc n x p d ≤ n := by
  have h1 := lk_nonneg n x p d
  have h2 := @lk_le n x p d hp
  unfold rc
  omega
theorem cs_mem {n : Int} {x g : Int → Int} {p d : Int} (h : d ∈ cs n x g p) (hp : 0 ≤ p) : 1 ≤ d ∧ d ≤ p ∧ d ≤ g 0 ∧ 2 ≤ lk n x p d := by
  obtain ⟨i, hi⟩ := List.getElem?_of_mem h
  exact cs_at hi hp
theorem w2_congr {n : Int} {x g T T' : Int → Int} {p : Int} (hg : Og g) (hp : p < n) (h : ∀ q, p < q → q ≤ n → T q = T' q) : w2 n x g T p = w2 n x g T' p := by
  unfold w2
  rw [h (p + 1) (by omega) (by omega)]
  refine foldl_congr _ _ fun d hd s => ?_
  have hb := @rc_b n x p d (by omega)
  obtain ⟨⟨g0, g0'⟩, ⟨g1, g1'⟩, ⟨g2, g2'⟩, ⟨g3, g3'⟩, ⟨g4, g4'⟩⟩ := hg
  refine wI_congr _ _ _ fun j h1 h2 => h (p + j) (by omega) (by omega)
theorem dpT_keep (n : Int) (x g : Int → Int) (k : Nat) (m : Nat) (q : Int) (h : n - k ≤ q) : dpT n x g (k + m) q = dpT n x g k q := by
  induction m with
  | zero => rfl
  | succ m ih =>
    show (if q = n - ((k + m : Nat) + 1) then _ else dpT n x g (k + m) q) = _
    rw [if_neg (by omega), ih]
theorem cC_end (n : Int) (x g : Int → Int) (hn : 0 ≤ n) : cC n x g n = 0 := by
  unfold cC
  have := dpT_keep n x g 0 n.toNat n (by omega)
  rw [Nat.zero_add] at this
  rw [this]
  rfl
theorem cC_at {n : Int} {x g : Int → Int} {p : Int} (hg : Og g) (h0 : 0 ≤ p) (hp : p < n) : cC n x g p = (w2 n x g (cC n x g) p).1 := by
  obtain ⟨k, hk⟩ : ∃ k : Nat, n - p = k + 1 := ⟨(n - p - 1).toNat, by omega⟩
  obtain ⟨m, hm⟩ : ∃ m : Nat, n.toNat = (k + 1) + m := ⟨n.toNat - (k + 1), by omega⟩
  have e1 : cC n x g p = dpT n x g (k + 1) p := by
    unfold cC
    rw [hm]
    exact dpT_keep n x g (k + 1) m p (by omega)
  rw [e1]
  show (if p = n - (k + 1) then (w2 n x g (dpT n x g k) (n - (k + 1))).1 else dpT n x g k p) = _
  rw [if_pos (by omega), show n - ((k : Int) + 1) = p by omega]
  rw [w2_congr (T' := cC n x g) hg hp]
  intro q h1 h2
  unfold cC
  rw [hm, show k + 1 + m = k + (1 + m) by omega]
  exact (dpT_keep n x g k (1 + m) q (by omega)).symm
/-- the part that a way tells at p, if one begins there: its distance and its length -/
def wt (n : Int) (x g : Int → Int) (p : Int) : Prop := 0 < sv n x g p ∧ sv n x g (p + 1) ≤ sv n x g p ∧ sv n x g (p + 2) ≤ sv n x g p
def pP (n : Int) (x g : Int → Int) (w p : Int) : Int × Int :=
  if w = 2 then (w2 n x g (cC n x g) p).2
  else if bD n x g p = -10004 then (1, 0)
  else if w = 0 then (rc n x p (bD n x g p), bD n x g p)
  else if 0 < sv n x g p ∧ sv n x g (p + 1) ≤ sv n x g p ∧ sv n x g (p + 2) ≤ sv n x g p then (rc n x p (bD n x g p), bD n x g p)
  else (1, 0)
def pL (n : Int) (x g : Int → Int) (w p : Int) : Int := (pP n x g w p).1
def pD (n : Int) (x g : Int → Int) (w p : Int) : Int := (pP n x g w p).2
/-- l is the length, d the distance of a part that may stand at p -/
def okP (n : Int) (g : Int → Int) (p : Int) (s : Int × Int) : Prop := 1 ≤ s.1 ∧ s.1 ≤ 20 ∧ p + s.1 ≤ n ∧ 0 ≤ s.2 ∧ s.2 ≤ p ∧ s.2 ≤ g 0 ∧ (s.2 = 0 → s.1 = 1) ∧ (s.2 ≠ 0 → g 1 ≤ s.1)
theorem wI_ok {n : Int} {g T : Int → Int} {p d : Int} (hd : 1 ≤ d ∧ d ≤ p ∧ d ≤ g 0) (h1 : 2 ≤ g 1) (k : Nat) : ∀ (s : Int × Int × Int) (l : Int), okP n g p s.2 → l ≤ 20 → p + l ≤ n → g 1 ≤ l - k + 1 → okP n g p (wI T (g 4) p d s l k).2 := by
  induction k with
  | zero => intro s l hs _ _ _; exact hs
  | succ k ih =>
    intro s l hs h2 h3 h4
    rw [wI_succ]
    refine ih _ _ ?_ (by omega) (by omega) (by omega)
    split
    · exact ⟨by show 1 ≤ l; omega, h2, h3, by show 0 ≤ d; omega, hd.2.1, hd.2.2, fun h => absurd (show d = 0 from h) (by omega), fun _ => by show g 1 ≤ l; omega⟩
    · exact hs
theorem wI_b {T : Int → Int} {c p d : Int} (hc : 0 ≤ c) (k : Nat) : ∀ (s : Int × Int × Int) (l : Int), 0 ≤ s.1 → (∀ j : Int, l - k < j → j ≤ l → 0 ≤ T (p + j)) → 0 ≤ (wI T c p d s l k).1 ∧ (wI T c p d s l k).1 ≤ s.1 := by
  induction k with
  | zero => intro s l hs _; exact ⟨hs, Int.le_refl _⟩
  | succ k ih =>
    intro s l hs hT
    rw [wI_succ]
    have zt1 := hT l (by omega) (by omega)
    have ze1 : 0 ≤ (if c + T (p + l) < s.1 then (c + T (p + l), l, d) else s).1 ∧ (if c + T (p + l) < s.1 then (c + T (p + l), l, d) else s).1 ≤ s.1 := by
      split
      · exact ⟨by show 0 ≤ c + T (p + l); omega, by show c + T (p + l) ≤ s.1; omega⟩
      · exact ⟨hs, Int.le_refl _⟩
    have zh1 := ih _ (l - 1) ze1.1 (fun j h1 h2 => hT j (by omega) (by omega))
    exact ⟨zh1.1, Int.le_trans zh1.2 ze1.2⟩
theorem w2_fold_ok {n : Int} {x g T : Int → Int} {p : Int} (hg : Og g) (hp : 0 ≤ p) (hn : p < n) (l : List Int) : ∀ (s : Int × Int × Int), (∀ d ∈ l, d ∈ cs n x g p) → okP n g p s.2 → okP n g p (l.foldl (fun s d => wI T (g 4) p d s (rc n x p d) (rc n x p d - g 1 + 1).toNat) s).2 := by
  induction l with
  | nil => intro s _ hs; exact hs
  | cons d l ih =>
    intro s hl hs
    rw [List.foldl_cons]
    refine ih _ (fun e he => hl e (List.mem_cons_of_mem _ he)) ?_
    have hd := cs_mem (hl d List.mem_cons_self) hp
    have hb := @rc_b n x p d (by omega)
    have h1 := hg.2.1.1
    by_cases hq : g 1 ≤ rc n x p d
    · exact wI_ok ⟨hd.1, hd.2.1, hd.2.2.1⟩ h1 _ _ _ hs (by omega) (by omega) (by omega)
    · rw [show (rc n x p d - g 1 + 1).toNat = 0 by omega]
      exact hs
theorem w2_fold_b {n : Int} {x g T : Int → Int} {p : Int} (hg : Og g) (hn : p < n) (hT : ∀ q, p < q → q ≤ n → 0 ≤ T q) (l : List Int) : ∀ (s : Int × Int × Int), 0 ≤ s.1 → 0 ≤ (l.foldl (fun s d => wI T (g 4) p d s (rc n x p d) (rc n x p d - g 1 + 1).toNat) s).1 ∧ (l.foldl (fun s d => wI T (g 4) p d s (rc n x p d) (rc n x p d - g 1 + 1).toNat) s).1 ≤ s.1 := by
  induction l with
  | nil => intro s hs; exact ⟨hs, Int.le_refl _⟩
  | cons d l ih =>
    intro s hs
    rw [List.foldl_cons]
    have hb := @rc_b n x p d (by omega)
    have h1 := hg.2.1.1
    have h2 := wI_b (T := T) (c := g 4) (p := p) (d := d) (by have := hg.2.2.2.2.1; omega) (rc n x p d - g 1 + 1).toNat s (rc n x p d) hs (fun j h1 h2 => hT (p + j) (by omega) (by omega))
    have h3 := ih _ h2.1
    omega
theorem w2_ok {n : Int} {x g T : Int → Int} {p : Int} (hg : Og g) (hp : 0 ≤ p) (hn : p < n) : okP n g p (w2 n x g T p).2 := by
  unfold w2
  refine w2_fold_ok hg hp hn _ _ (fun _ h => h) ?_
  have := hg.1.1
  exact ⟨by show (1 : Int) ≤ 1; omega, by show (1 : Int) ≤ 20; omega, by show p + 1 ≤ n; omega, Int.le_refl _, hp, by show (0 : Int) ≤ g 0; omega, fun _ => rfl, fun h => absurd rfl h⟩
theorem cC_b {n : Int} {x g : Int → Int} (hg : Og g) (hn : 0 ≤ n) (k : Nat) : ∀ p : Int, 0 ≤ p → n - p = k → 0 ≤ cC n x g p ∧ cC n x g p ≤ 20 * k := by
  induction k using Nat.strongRecOn with
  | ind k ih =>
    intro p hp hk
    by_cases hz : k = 0
    · subst hz
      rw [show p = n by omega, cC_end n x g hn]
      omega
    · have h1 := ih (k - 1) (by omega) (p + 1) (by omega) (by omega)
      have h3 := hg.2.2.2.1
      have h2 := w2_fold_b (x := x) (T := cC n x g) hg (show p < n by omega) (fun q h1 h2 => (ih (n - q).toNat (by omega) q (by omega) (by omega)).1) (cs n x g p) (g 3 + cC n x g (p + 1), 1, 0) (by show 0 ≤ g 3 + cC n x g (p + 1); omega)
      rw [cC_at hg hp (by omega)]
      unfold w2
      have h4 : (g 3 + cC n x g (p + 1), (1 : Int), (0 : Int)).1 = g 3 + cC n x g (p + 1) := rfl
      rw [h4] at h2
      omega
theorem cC_bound {n : Int} {x g : Int → Int} (hg : Og g) {p : Int} (hp : 0 ≤ p) (hn : p ≤ n) (h60 : n ≤ 60) : 0 ≤ cC n x g p ∧ cC n x g p ≤ 1200 := by
  have zb1 := cC_b (n := n) (x := x) hg (by omega) (n - p).toNat p hp (by omega)
  omega
theorem pP_ok {n : Int} {x g : Int → Int} {w p : Int} (hg : Og g) (hp : 0 ≤ p) (hn : p < n) : okP n g p (pP n x g w p) := by
  have h0 := hg.1.1
  have hl : okP n g p (1, 0) := ⟨by show (1 : Int) ≤ 1; omega, by show (1 : Int) ≤ 20; omega, by show p + 1 ≤ n; omega, Int.le_refl _, hp, by show (0 : Int) ≤ g 0; omega, fun _ => rfl, fun h => absurd rfl h⟩
  unfold pP
  split
  · exact w2_ok hg hp hn
  · split
    · exact hl
    · rename_i h1 h2
      have hc : okP n g p (rc n x p (bD n x g p), bD n x g p) := by
        rcases bD_cases (x := x) hg hp with h | ⟨h3, h4, h5, h6, h7⟩
        · exact absurd h h2
        · have hb := @rc_b n x p (bD n x g p) (by omega)
          have := hg.2.1.1
          exact ⟨by show 1 ≤ rc n x p (bD n x g p); omega, hb.2.1, hb.2.2, by show 0 ≤ bD n x g p; omega, h4, h5, fun h => absurd (show bD n x g p = 0 from h) (by omega), fun _ => h7⟩
      split
      · exact hc
      · split
        · exact hc
        · exact hl
theorem wI_add {T : Int → Int} {c p d : Int} (a b : Nat) : ∀ (s : Int × Int × Int) (l : Int), wI T c p d s l (a + b) = wI T c p d (wI T c p d s l a) (l - a) b := by
  induction a with
  | zero => intro s l; rw [Nat.zero_add, show l - ((0 : Nat) : Int) = l by omega]; rfl
  | succ a ih =>
    intro s l
    rw [show a + 1 + b = (a + b) + 1 by omega, wI_succ, wI_succ, ih, show l - 1 - (a : Int) = l - ((a + 1 : Nat) : Int) by omega]
theorem wI_none {T : Int → Int} {c p d : Int} (k : Nat) : ∀ (s : Int × Int × Int) (l : Int), (∀ j : Int, l - k < j → j ≤ l → s.1 ≤ c + T (p + j)) → wI T c p d s l k = s := by
  induction k with
  | zero => intro s l _; rfl
  | succ k ih =>
    intro s l h
    rw [wI_succ, if_neg (by have := h l (by omega) (by omega); omega)]
    exact ih s (l - 1) (fun j h1 h2 => h j (by omega) (by omega))
theorem wI_least {T : Int → Int} {c p d : Int} (k : Nat) : ∀ (s : Int × Int × Int) (l : Int), (wI T c p d s l k).1 ≤ s.1 ∧ ∀ j : Int, l - k < j → j ≤ l → (wI T c p d s l k).1 ≤ c + T (p + j) := by
  induction k with
  | zero => intro s l; exact ⟨Int.le_refl _, fun j h1 h2 => by omega⟩
  | succ k ih =>
    intro s l
    rw [wI_succ]
    have h := ih (if c + T (p + l) < s.1 then (c + T (p + l), l, d) else s) (l - 1)
    have h1 : (if c + T (p + l) < s.1 then (c + T (p + l), l, d) else s).1 ≤ s.1 ∧ (if c + T (p + l) < s.1 then (c + T (p + l), l, d) else s).1 ≤ c + T (p + l) := by
      split
      · exact ⟨by show c + T (p + l) ≤ s.1; omega, Int.le_refl _⟩
      · omega
    refine ⟨by omega, fun j h2 h3 => ?_⟩
    by_cases hj : j = l
    · subst hj; omega
    · exact h.2 j (by omega) (by omega)
/-- lengths that a nearer candidate has already need not be looked at again -/
theorem wI_skip {T : Int → Int} {c p d : Int} {s : Int × Int × Int} {r lo sh : Int} (h1 : lo ≤ sh) (h : ∀ j : Int, lo ≤ j → j < sh → s.1 ≤ c + T (p + j)) : wI T c p d s r (r - lo + 1).toNat = wI T c p d s r (r - sh + 1).toNat := by
  by_cases h2 : sh ≤ r + 1
  · have e : (r - lo + 1).toNat = (r - sh + 1).toNat + (sh - lo).toNat := by omega
    rw [e, wI_add]
    refine wI_none _ _ _ fun j h3 h4 => ?_
    have h5 := (wI_least (T := T) (c := c) (p := p) (d := d) (r - sh + 1).toNat s r).1
    have h6 := h j (by omega) (by omega)
    omega
  · rw [show (r - sh + 1).toNat = 0 by omega]
    exact wI_none _ _ _ fun j h3 h4 => h j (by omega) (by omega)
/-! rows of parts: where they begin -/
def ly (L : Int → Int) (n : Int) : Nat → Int → List Int
  | 0, _ => []
  | k + 1, p => if p < n then p :: ly L n k (p + L p) else []
theorem ly_succ (L : Int → Int) (n : Int) (k : Nat) (p : Int) : ly L n (k + 1) p = if p < n then p :: ly L n k (p + L p) else [] := rfl
theorem ly_end (L : Int → Int) (n : Int) (k : Nat) (p : Int) (h : n ≤ p) : ly L n k p = [] := by
  cases k with
  | zero => rfl
  | succ k => rw [ly_succ, if_neg (by omega)]
theorem ly_more {L : Int → Int} {n : Int} (hL : ∀ q, 0 ≤ q → q < n → 1 ≤ L q) (k : Nat) : ∀ (m : Nat) (p : Int), 0 ≤ p → n - p ≤ k → ly L n (k + m) p = ly L n k p := by
  induction k with
  | zero => intro m p h0 h; rw [ly_end L n _ p (by omega), ly_end L n _ p (by omega)]
  | succ k ih =>
    intro m p h0 h
    rw [show k + 1 + m = (k + m) + 1 by omega, ly_succ, ly_succ]
    by_cases hp : p < n
    · rw [if_pos hp, if_pos hp, ih m (p + L p) (by have := hL p h0 hp; omega) (by have := hL p h0 hp; omega)]
    · rw [if_neg hp, if_neg hp]
/-- the places at which the parts begin -/
def bgs (n : Int) (x g : Int → Int) (w : Int) : List Int := ly (pL n x g w) n n.toNat 0
/-- copies, letters told by copies, the longest copy -/
def stS (D L : Int → Int) (s : Int × Int × Int) (q : Int) : Int × Int × Int := if D q ≠ 0 then (s.1 + 1, s.2.1 + L q, max s.2.2 (L q)) else s
def stF (D L : Int → Int) (l : List Int) : Int × Int × Int := l.foldl (stS D L) (0, 0, 0)
def sts (n : Int) (x g : Int → Int) (w : Int) : Int × Int × Int := stF (pD n x g w) (pL n x g w) (bgs n x g w)
def cst (n : Int) (x g : Int → Int) (w : Int) : Int := (((bgs n x g w).length : Int) - (sts n x g w).1) * g 3 + (sts n x g w).1 * g 4
theorem stF_app (D L : Int → Int) (l : List Int) (q : Int) : stF D L (l ++ [q]) = stS D L (stF D L l) q := by
  unfold stF
  rw [List.foldl_append]
  rfl
