/-! the law, from its entry -/
theorem whole_start {p : Program} {e : Env} {s : State} {m : MethodId} {below : List Frame} {meth : Method} {c : Code} (l : Launch) (hflags : l.flags = flags0) {b L : Nat} {xs : Nat → Int32} (hL : L ≤ 2048) (C0 : lw_At p s m meth c b L xs) : W p l e room_1 s m #[Value.ref b] below meth c s.heap [] 0 0 (lw_Z below #[Value.ref b] s) (entryFrame m ([Value.ref b] : List Value).toArray 4) := by
  obtain ⟨hx, hb, hr, hml, hown, hts, hX0, hbl, hlk, hgv⟩ := C0
  obtain ⟨Γ, hgb, hV⟩ := vf_start hts hgv
  have hX : Cx Γ (p, l, e, room_1, s, m, #[Value.ref b], below, meth, c, lw_Z below #[Value.ref b] s) 4 11 code R_law := ⟨hx, hb, hml, hown, fun w hw => hts w (List.mem_filter.mp hw).1, hlk, hV, by show 11 ≤ 12; omega, by show 40 * 11 ≤ 448; omega⟩
  have END : ∀ (M : mI) (L : List (Option Value)), G Γ (p, l, e, room_1, s, m, #[Value.ref b], below, meth, c, lw_Z below #[Value.ref b] s) 4 (R0, 51, 51, 2382) 719 L [vI 1] M := fun M L => g_lawret hX rfl rfl rfl hr hgb (Nat.le_of_ble_eq_true rfl) (Nat.le_of_ble_eq_true rfl) d_law_719
  have g := law_begin (b := b) hX rfl rfl (fun M hC hR => law_loop hX rfl rfl hX0 (by rw [hgb]; exact hbl) hL END _ 0 σ0 M (Nat.le_refl _) (by omega) ok0 hC hR)
  rw [lg_entry_eq]
  exact g s.heap [] _ ⟨hgb.symm, fun _ _ => by show iR 0; omega, fun k hk => absurd hk (Nat.not_lt_zero k)⟩ (fun _ _ => rfl) (fun _ h => by cases h) (lh_entry [Value.ref b] 4 (fun v hv => by simp at hv; subst hv; rfl) (Nat.le_of_ble_eq_true rfl))
