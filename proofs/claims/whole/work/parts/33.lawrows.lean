/-! the law: its script, the map of what was made -/
section GS
variable {Γ : gX} {X : XT} {nL h : Nat} {Z : ZT} {pc : Nat} {L : List (Option Value)} {st : List Value} {M : mI} {cc : ByteArray} {own : String}
theorem i32_R (x : Int32) : iR x.toInt := ⟨Int32.le_toInt x, Int32.toInt_lt x⟩
theorem g_sld {b N : Nat} {f : Nat → Int32} {i : Int} (hX : Cx Γ X nL h cc own) (hS : va_X b N f (xs X) (xs X).heap) (hbg : b < gb Γ) (hN : N ≤ 2048) (hdg : decode cc pc = .ok (.iaload, 1)) (hi : 0 ≤ i ∧ i < N) (kk : G Γ X nL Z (pc + 1) L (vI (f i.toNat).toInt :: st) M) : G Γ X nL Z pc L (vI i :: .ref b :: st) M := by
  intro H locs ls h1 h2 h3 h4
  obtain ⟨q1, q2, hml, hown, hts, hlk, hV, hf, hlo⟩ := hX
  obtain ⟨scr, z1, z2, z3, z4, z5⟩ := hS
  have hcl := i32_clamp hi.1 (show i < 2147483648 by omega)
  have k' := kk H locs ls h1 h2 h3 h4
  rw [i32_of] at k'
  exact W.iald (v := .int (f i.toNat)) q1 q2 (by rw [h2 b hbg]; exact z1) z2 z3 (by rw [hcl, z4, i32_0, i32_lt ⟨by omega, by omega⟩ ⟨by omega, by omega⟩]; omega) (by rw [hcl]; exact z5 _ (by omega)) rfl rfl hdg k'
theorem g_slen {b N : Nat} {f : Nat → Int32} (hX : Cx Γ X nL h cc own) (hS : va_X b N f (xs X) (xs X).heap) (hbg : b < gb Γ) (hdg : decode cc pc = .ok (.arraylength, 1)) (kk : G Γ X nL Z (pc + 1) L (vI N :: st) M) : G Γ X nL Z pc L (.ref b :: st) M := by
  intro H locs ls h1 h2 h3 h4
  obtain ⟨q1, q2, hml, hown, hts, hlk, hV, hf, hlo⟩ := hX
  obtain ⟨scr, z1, z2, z3, z4, z5⟩ := hS
  exact W.alen (n := Int32.ofInt N) q1 q2 (by rw [h2 b hbg]; exact z1) z2 (by rw [z4]; rfl) rfl rfl hdg (kk H locs ls h1 h2 h3 h4)
end GS
