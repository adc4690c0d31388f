/-! rows: an instruction a row, over G -/
section GR
variable {Γ : gX} {X : XT} {nL h : Nat} {Z : ZT} {pc : Nat} {L : List (Option Value)} {st : List Value} {M : mI} {cc : ByteArray} {own : String}
theorem g_iconst {n : Int} (hX : Cx Γ X nL h cc own) (hdg : decode cc pc = .ok (.iconst n, 1)) (k : G Γ X nL Z (pc + 1) L (vI n :: st) M) : G Γ X nL Z pc L st M :=
  fun H locs ls h1 h2 h3 h4 => lv_iconst hX.1 hX.2.1 hdg rfl (k H locs ls h1 h2 h3 h4)
theorem g_bipush {n : Int} (hX : Cx Γ X nL h cc own) (hdg : decode cc pc = .ok (.bipush n, 2)) (hn : (Int8.ofInt n).toInt32 = Int32.ofInt n) (k : G Γ X nL Z (pc + 2) L (vI n :: st) M) : G Γ X nL Z pc L st M :=
  fun H locs ls h1 h2 h3 h4 => lv_bipush hX.1 hX.2.1 hdg hn (k H locs ls h1 h2 h3 h4)
theorem g_sipush {n : Int} (hX : Cx Γ X nL h cc own) (hdg : decode cc pc = .ok (.sipush n, 3)) (hn : (Int16.ofInt n).toInt32 = Int32.ofInt n) (k : G Γ X nL Z (pc + 3) L (vI n :: st) M) : G Γ X nL Z pc L st M :=
  fun H locs ls h1 h2 h3 h4 => lv_sipush hX.1 hX.2.1 hdg hn (k H locs ls h1 h2 h3 h4)
theorem g_iload_n {q : Fin 4} {x : Int} (hX : Cx Γ X nL h cc own) (hdg : decode cc pc = .ok (.iload_n q, 1)) (hl : L[(q : Nat)]? = some (some (vI x))) (k : G Γ X nL Z (pc + 1) L (vI x :: st) M) : G Γ X nL Z pc L st M :=
  fun H locs ls h1 h2 h3 h4 => lv_iload_n hX.1 hX.2.1 hdg rfl (h4.2.1 _ _ hl) (k H locs ls h1 h2 h3 h4)
theorem g_iload {q : Nat} {x : Int} (hX : Cx Γ X nL h cc own) (hdg : decode cc pc = .ok (.iload q, 2)) (hl : L[q]? = some (some (vI x))) (k : G Γ X nL Z (pc + 2) L (vI x :: st) M) : G Γ X nL Z pc L st M :=
  fun H locs ls h1 h2 h3 h4 => lv_iload hX.1 hX.2.1 hdg (h4.2.1 _ _ hl) (k H locs ls h1 h2 h3 h4)
theorem g_aload_n {q : Fin 4} {x : Nat} (hX : Cx Γ X nL h cc own) (hdg : decode cc pc = .ok (.aload_n q, 1)) (hl : L[(q : Nat)]? = some (some (.ref x))) (k : G Γ X nL Z (pc + 1) L (.ref x :: st) M) : G Γ X nL Z pc L st M :=
  fun H locs ls h1 h2 h3 h4 => lv_aload_n hX.1 hX.2.1 hdg rfl (h4.2.1 _ _ hl) (k H locs ls h1 h2 h3 h4)
theorem g_istore_n {q : Fin 4} {x : Int} (hX : Cx Γ X nL h cc own) (hdg : decode cc pc = .ok (.istore_n q, 1)) (hn : (q : Nat) < nL) (k : G Γ X nL Z (pc + 1) (L.set q (some (vI x))) st M) : G Γ X nL Z pc L (vI x :: st) M := by
  intro H locs ls h1 h2 h3 h4
  obtain ⟨ls', e', h'⟩ := lh_store (v := vI x) h4 hn rfl
  intro T hT Y
  obtain ⟨t, a, b⟩ := k H locs ls' h1 h2 h3 h' T hT Y
  refine ⟨t, ?_, b⟩
  have hb := hX.2.1
  have hx := hX.1
  unfold vI at e' ⊢
  jvm_step Y.here [Y.here.top, ↓top_set Y.here.top, hx, hb, hdg, e']
  exact a
theorem g_istore {q : Nat} {x : Int} (hX : Cx Γ X nL h cc own) (hdg : decode cc pc = .ok (.istore q, 2)) (hn : (q : Nat) < nL) (k : G Γ X nL Z (pc + 2) (L.set q (some (vI x))) st M) : G Γ X nL Z pc L (vI x :: st) M := by
  intro H locs ls h1 h2 h3 h4
  obtain ⟨ls', e', h'⟩ := lh_store (v := vI x) h4 hn rfl
  intro T hT Y
  obtain ⟨t, a, b⟩ := k H locs ls' h1 h2 h3 h' T hT Y
  refine ⟨t, ?_, b⟩
  have hb := hX.2.1
  have hx := hX.1
  unfold vI at e' ⊢
  jvm_step Y.here [Y.here.top, ↓top_set Y.here.top, hx, hb, hdg, e']
  exact a
theorem g_astore_n {q : Fin 4} {x : Nat} (hX : Cx Γ X nL h cc own) (hdg : decode cc pc = .ok (.astore_n q, 1)) (hn : (q : Nat) < nL) (k : G Γ X nL Z (pc + 1) (L.set q (some (.ref x))) st M) : G Γ X nL Z pc L (.ref x :: st) M := by
  intro H locs ls h1 h2 h3 h4
  obtain ⟨ls', e', h'⟩ := lh_store (v := .ref x) h4 hn rfl
  intro T hT Y
  obtain ⟨t, a, b⟩ := k H locs ls' h1 h2 h3 h' T hT Y
  refine ⟨t, ?_, b⟩
  have hb := hX.2.1
  have hx := hX.1
  jvm_step Y.here [Y.here.top, ↓top_set Y.here.top, hx, hb, hdg, e', Value.isRef]
  exact a
theorem g_iinc {i : Nat} {n x : Int} (hX : Cx Γ X nL h cc own) (hdg : decode cc pc = .ok (.iinc i n, 3)) (hl : L[i]? = some (some (vI x))) (hn : i < nL) (k : G Γ X nL Z (pc + 3) (L.set i (some (vI (x + n)))) st M) : G Γ X nL Z pc L st M := by
  intro H locs ls h1 h2 h3 h4
  obtain ⟨ls', e', h'⟩ := lh_store (v := vI (x + n)) h4 hn rfl
  have hg : ls[i]? = some (.val (.int (Int32.ofInt x))) := h4.2.1 _ _ hl
  intro T hT Y
  obtain ⟨t, a, b⟩ := k H locs ls' h1 h2 h3 h' T hT Y
  refine ⟨t, ?_, b⟩
  have hb := hX.2.1
  have hx := hX.1
  unfold vI at e'
  rw [Int32.ofInt_add] at e'
  jvm_step Y.here [Y.here.top, ↓top_set Y.here.top, hx, hb, hdg, hg, e']
  exact a
theorem g_iadd {x y : Int} (hX : Cx Γ X nL h cc own) (hdg : decode cc pc = .ok (.iadd, 1)) (k : G Γ X nL Z (pc + 1) L (vI (x + y) :: st) M) : G Γ X nL Z pc L (vI y :: vI x :: st) M := by
  intro H locs ls h1 h2 h3 h4
  have k' := k H locs ls h1 h2 h3 h4
  unfold vI at k'
  rw [Int32.ofInt_add] at k'
  exact lv_iadd hX.1 hX.2.1 hdg k'
theorem g_isub {x y : Int} (hX : Cx Γ X nL h cc own) (hdg : decode cc pc = .ok (.isub, 1)) (k : G Γ X nL Z (pc + 1) L (vI (x - y) :: st) M) : G Γ X nL Z pc L (vI y :: vI x :: st) M := by
  intro H locs ls h1 h2 h3 h4
  have k' := k H locs ls h1 h2 h3 h4
  unfold vI at k'
  rw [Int32.ofInt_sub] at k'
  exact lv_isub hX.1 hX.2.1 hdg k'
theorem g_imul {x y : Int} (hX : Cx Γ X nL h cc own) (hdg : decode cc pc = .ok (.imul, 1)) (k : G Γ X nL Z (pc + 1) L (vI (x * y) :: st) M) : G Γ X nL Z pc L (vI y :: vI x :: st) M := by
  intro H locs ls h1 h2 h3 h4
  have k' := k H locs ls h1 h2 h3 h4
  unfold vI at k'
  rw [Int32.ofInt_mul] at k'
  exact lv_imul hX.1 hX.2.1 hdg k'
theorem i32_div {x y : Int} (hx : 0 ≤ x ∧ x < 2147483648) (hy : 0 < y ∧ y < 2147483648) : Int32.ofInt x / Int32.ofInt y = Int32.ofInt (x / y) := by
  have h1 : 0 ≤ x / y := Int.ediv_nonneg hx.1 (by omega)
  have h2 : x / y ≤ x := Int.ediv_le_self y hx.1
  rw [← Int32.toInt_inj, i32_toInt ⟨by omega, by omega⟩, Int32.toInt_div_of_ne_right _ _ (by rw [Ne, show (-1 : Int32) = Int32.ofInt (-1) from rfl, i32_eq ⟨by omega, by omega⟩ ⟨by omega, by omega⟩]; omega), i32_toInt ⟨by omega, by omega⟩, i32_toInt ⟨by omega, by omega⟩]
  exact Int.tdiv_eq_ediv_of_nonneg hx.1
theorem g_idiv {x y : Int} (hX : Cx Γ X nL h cc own) (hx : 0 ≤ x ∧ x < 2147483648) (hy : 0 < y ∧ y < 2147483648) (hdg : decode cc pc = .ok (.idiv, 1)) (k : G Γ X nL Z (pc + 1) L (vI (x / y) :: st) M) : G Γ X nL Z pc L (vI y :: vI x :: st) M := by
  intro H locs ls h1 h2 h3 h4
  have k' := k H locs ls h1 h2 h3 h4
  unfold vI at k'
  rw [← i32_div hx hy] at k'
  exact lv_idiv hX.1 hX.2.1 hdg (by rw [i32_0, i32_eq ⟨by omega, by omega⟩ ⟨by omega, by omega⟩]; omega) k'
theorem g_irem {x y : Int} (hX : Cx Γ X nL h cc own) (hx : 0 ≤ x ∧ x < 2147483648) (hy : 0 < y ∧ y < 2147483648) (hdg : decode cc pc = .ok (.irem, 1)) (k : G Γ X nL Z (pc + 1) L (vI (x % y) :: st) M) : G Γ X nL Z pc L (vI y :: vI x :: st) M := by
  intro H locs ls h1 h2 h3 h4
  have k' := k H locs ls h1 h2 h3 h4
  unfold vI at k'
  have e : x % y = x - x / y * y := by rw [Int.mul_comm]; exact Int.emod_def x y
  rw [e, Int32.ofInt_sub, Int32.ofInt_mul, ← i32_div hx hy] at k'
  exact lv_irem hX.1 hX.2.1 hdg (by rw [i32_0, i32_eq ⟨by omega, by omega⟩ ⟨by omega, by omega⟩]; omega) k'
theorem g_dup {v : Value} (hX : Cx Γ X nL h cc own) (hdg : decode cc pc = .ok (.dup, 1)) (hc : v.category = 1) (k : G Γ X nL Z (pc + 1) L (v :: v :: st) M) : G Γ X nL Z pc L (v :: st) M :=
  fun H locs ls h1 h2 h3 h4 => lv_dup hX.1 hX.2.1 hdg hc (k H locs ls h1 h2 h3 h4)
theorem g_dup2 {v w : Value} (hX : Cx Γ X nL h cc own) (hdg : decode cc pc = .ok (.dup2, 1)) (hc : v.category = 1) (hd : w.category = 1) (k : G Γ X nL Z (pc + 1) L (v :: w :: v :: w :: st) M) : G Γ X nL Z pc L (v :: w :: st) M :=
  fun H locs ls h1 h2 h3 h4 => lv_dup2_11 hX.1 hX.2.1 hdg hc hd (k H locs ls h1 h2 h3 h4)
theorem g_goto {off : Int} (tgt : Nat) (hX : Cx Γ X nL h cc own) (hdg : decode cc pc = .ok (.goto off, 3)) (ht : (pc : Int) + off = (tgt : Int)) (k : G Γ X nL Z tgt L st M) : G Γ X nL Z pc L st M :=
  fun H locs ls h1 h2 h3 h4 => lv_goto hX.1 hX.2.1 hdg ht (k H locs ls h1 h2 h3 h4)
theorem g_if_eq {x off : Int} (tgt : Nat) (hX : Cx Γ X nL h cc own) (hdg : decode cc pc = .ok (.ifCond .eq off, 3)) (ht : (pc : Int) + off = (tgt : Int)) (hx : iR x) (kt : x = 0 → G Γ X nL Z tgt L st M) (kf : x ≠ 0 → G Γ X nL Z (pc + 3) L st M) : G Γ X nL Z pc L (vI x :: st) M :=
  fun H locs ls h1 h2 h3 h4 => lv_if_eq hX.1 hX.2.1 hdg ht (fun q => kt ((i32_eq hx ⟨by omega, by omega⟩).mp (by rw [q, i32_0])) H locs ls h1 h2 h3 h4) (fun q => kf (fun e => q (by rw [e, i32_0])) H locs ls h1 h2 h3 h4)
theorem g_if_ne {x off : Int} (tgt : Nat) (hX : Cx Γ X nL h cc own) (hdg : decode cc pc = .ok (.ifCond .ne off, 3)) (ht : (pc : Int) + off = (tgt : Int)) (hx : iR x) (kt : x ≠ 0 → G Γ X nL Z tgt L st M) (kf : x = 0 → G Γ X nL Z (pc + 3) L st M) : G Γ X nL Z pc L (vI x :: st) M :=
  fun H locs ls h1 h2 h3 h4 => lv_if_ne hX.1 hX.2.1 hdg ht (fun q => kt (fun e => q (by rw [e, i32_0])) H locs ls h1 h2 h3 h4) (fun q => kf ((i32_eq hx ⟨by omega, by omega⟩).mp (by rw [q, i32_0])) H locs ls h1 h2 h3 h4)
theorem g_if_lt {x off : Int} (tgt : Nat) (hX : Cx Γ X nL h cc own) (hdg : decode cc pc = .ok (.ifCond .lt off, 3)) (ht : (pc : Int) + off = (tgt : Int)) (hx : iR x) (kt : x < 0 → G Γ X nL Z tgt L st M) (kf : 0 ≤ x → G Γ X nL Z (pc + 3) L st M) : G Γ X nL Z pc L (vI x :: st) M :=
  fun H locs ls h1 h2 h3 h4 => lv_if_lt hX.1 hX.2.1 hdg ht (fun q => kt (by rw [i32_0, i32_lt hx ⟨by omega, by omega⟩] at q; exact q) H locs ls h1 h2 h3 h4) (fun q => kf (by rw [i32_0, i32_lt hx ⟨by omega, by omega⟩] at q; omega) H locs ls h1 h2 h3 h4)
theorem g_if_ge {x off : Int} (tgt : Nat) (hX : Cx Γ X nL h cc own) (hdg : decode cc pc = .ok (.ifCond .ge off, 3)) (ht : (pc : Int) + off = (tgt : Int)) (hx : iR x) (kt : 0 ≤ x → G Γ X nL Z tgt L st M) (kf : x < 0 → G Γ X nL Z (pc + 3) L st M) : G Γ X nL Z pc L (vI x :: st) M :=
  fun H locs ls h1 h2 h3 h4 => lv_if_ge hX.1 hX.2.1 hdg ht (fun q => kt (by first | (rw [i32_0, i32_le ⟨by omega, by omega⟩ hx] at q; exact q) | (rw [i32_0, i32_lt hx ⟨by omega, by omega⟩] at q; omega)) H locs ls h1 h2 h3 h4) (fun q => kf (by first | (rw [i32_0, i32_le ⟨by omega, by omega⟩ hx] at q; omega) | (rw [i32_0, i32_lt hx ⟨by omega, by omega⟩] at q; omega)) H locs ls h1 h2 h3 h4)
theorem g_if_gt {x off : Int} (tgt : Nat) (hX : Cx Γ X nL h cc own) (hdg : decode cc pc = .ok (.ifCond .gt off, 3)) (ht : (pc : Int) + off = (tgt : Int)) (hx : iR x) (kt : 0 < x → G Γ X nL Z tgt L st M) (kf : x ≤ 0 → G Γ X nL Z (pc + 3) L st M) : G Γ X nL Z pc L (vI x :: st) M :=
  fun H locs ls h1 h2 h3 h4 => lv_if_gt hX.1 hX.2.1 hdg ht (fun q => kt (by first | (rw [i32_0, i32_lt ⟨by omega, by omega⟩ hx] at q; exact q) | (rw [i32_0, i32_le hx ⟨by omega, by omega⟩] at q; omega)) H locs ls h1 h2 h3 h4) (fun q => kf (by first | (rw [i32_0, i32_lt ⟨by omega, by omega⟩ hx] at q; omega) | (rw [i32_0, i32_le hx ⟨by omega, by omega⟩] at q; omega)) H locs ls h1 h2 h3 h4)
theorem g_if_le {x off : Int} (tgt : Nat) (hX : Cx Γ X nL h cc own) (hdg : decode cc pc = .ok (.ifCond .le off, 3)) (ht : (pc : Int) + off = (tgt : Int)) (hx : iR x) (kt : x ≤ 0 → G Γ X nL Z tgt L st M) (kf : 0 < x → G Γ X nL Z (pc + 3) L st M) : G Γ X nL Z pc L (vI x :: st) M :=
  fun H locs ls h1 h2 h3 h4 => lv_if_le hX.1 hX.2.1 hdg ht (fun q => kt (by first | (rw [i32_0, i32_le hx ⟨by omega, by omega⟩] at q; omega) | (rw [i32_0, i32_lt ⟨by omega, by omega⟩ hx] at q; omega)) H locs ls h1 h2 h3 h4) (fun q => kf (by first | (rw [i32_0, i32_le hx ⟨by omega, by omega⟩] at q; omega) | (rw [i32_0, i32_lt ⟨by omega, by omega⟩ hx] at q; omega)) H locs ls h1 h2 h3 h4)
theorem g_icmp_eq {x y off : Int} (tgt : Nat) (hX : Cx Γ X nL h cc own) (hdg : decode cc pc = .ok (.if_icmp .eq off, 3)) (ht : (pc : Int) + off = (tgt : Int)) (hx : iR x) (hy : iR y) (kt : x = y → G Γ X nL Z tgt L st M) (kf : x ≠ y → G Γ X nL Z (pc + 3) L st M) : G Γ X nL Z pc L (vI y :: vI x :: st) M :=
  fun H locs ls h1 h2 h3 h4 => lv_icmp_eq hX.1 hX.2.1 hdg ht (fun q => kt ((i32_eq hx hy).mp q) H locs ls h1 h2 h3 h4) (fun q => kf (fun e => q (by rw [e])) H locs ls h1 h2 h3 h4)
theorem g_icmp_ne {x y off : Int} (tgt : Nat) (hX : Cx Γ X nL h cc own) (hdg : decode cc pc = .ok (.if_icmp .ne off, 3)) (ht : (pc : Int) + off = (tgt : Int)) (hx : iR x) (hy : iR y) (kt : x ≠ y → G Γ X nL Z tgt L st M) (kf : x = y → G Γ X nL Z (pc + 3) L st M) : G Γ X nL Z pc L (vI y :: vI x :: st) M :=
  fun H locs ls h1 h2 h3 h4 => lv_icmp_ne hX.1 hX.2.1 hdg ht (fun q => kt (fun e => q (by rw [e])) H locs ls h1 h2 h3 h4) (fun q => kf ((i32_eq hx hy).mp q) H locs ls h1 h2 h3 h4)
theorem g_icmp_lt {x y off : Int} (tgt : Nat) (hX : Cx Γ X nL h cc own) (hdg : decode cc pc = .ok (.if_icmp .lt off, 3)) (ht : (pc : Int) + off = (tgt : Int)) (hx : iR x) (hy : iR y) (kt : x < y → G Γ X nL Z tgt L st M) (kf : y ≤ x → G Γ X nL Z (pc + 3) L st M) : G Γ X nL Z pc L (vI y :: vI x :: st) M :=
  fun H locs ls h1 h2 h3 h4 => lv_icmp_lt hX.1 hX.2.1 hdg ht (fun q => kt ((i32_lt hx hy).mp q) H locs ls h1 h2 h3 h4) (fun q => kf (by rw [i32_lt hx hy] at q; omega) H locs ls h1 h2 h3 h4)
theorem g_icmp_ge {x y off : Int} (tgt : Nat) (hX : Cx Γ X nL h cc own) (hdg : decode cc pc = .ok (.if_icmp .ge off, 3)) (ht : (pc : Int) + off = (tgt : Int)) (hx : iR x) (hy : iR y) (kt : y ≤ x → G Γ X nL Z tgt L st M) (kf : x < y → G Γ X nL Z (pc + 3) L st M) : G Γ X nL Z pc L (vI y :: vI x :: st) M :=
  fun H locs ls h1 h2 h3 h4 => lv_icmp_ge hX.1 hX.2.1 hdg ht (fun q => kt (by first | exact (i32_le hy hx).mp q | (rw [i32_lt hx hy] at q; omega)) H locs ls h1 h2 h3 h4) (fun q => kf (by first | (rw [i32_lt hx hy] at q; omega) | (rw [i32_le hy hx] at q; omega)) H locs ls h1 h2 h3 h4)
theorem g_icmp_gt {x y off : Int} (tgt : Nat) (hX : Cx Γ X nL h cc own) (hdg : decode cc pc = .ok (.if_icmp .gt off, 3)) (ht : (pc : Int) + off = (tgt : Int)) (hx : iR x) (hy : iR y) (kt : y < x → G Γ X nL Z tgt L st M) (kf : x ≤ y → G Γ X nL Z (pc + 3) L st M) : G Γ X nL Z pc L (vI y :: vI x :: st) M :=
  fun H locs ls h1 h2 h3 h4 => lv_icmp_gt hX.1 hX.2.1 hdg ht (fun q => kt (by first | exact (i32_lt hy hx).mp q | (rw [i32_le hx hy] at q; omega)) H locs ls h1 h2 h3 h4) (fun q => kf (by first | (rw [i32_lt hy hx] at q; omega) | (rw [i32_le hx hy] at q; omega)) H locs ls h1 h2 h3 h4)
theorem g_icmp_le {x y off : Int} (tgt : Nat) (hX : Cx Γ X nL h cc own) (hdg : decode cc pc = .ok (.if_icmp .le off, 3)) (ht : (pc : Int) + off = (tgt : Int)) (hx : iR x) (hy : iR y) (kt : x ≤ y → G Γ X nL Z tgt L st M) (kf : y < x → G Γ X nL Z (pc + 3) L st M) : G Γ X nL Z pc L (vI y :: vI x :: st) M :=
  fun H locs ls h1 h2 h3 h4 => lv_icmp_le hX.1 hX.2.1 hdg ht (fun q => kt (by first | exact (i32_le hx hy).mp q | (rw [i32_lt hy hx] at q; omega)) H locs ls h1 h2 h3 h4) (fun q => kf (by first | (rw [i32_le hx hy] at q; omega) | (rw [i32_lt hy hx] at q; omega)) H locs ls h1 h2 h3 h4)
/-- the memory's numbers are ints -/
theorem g_rng (k : (∀ a i, iR (M a i)) → G Γ X nL Z pc L st M) : G Γ X nL Z pc L st M := fun H locs ls h1 h2 h3 h4 => k h1.2.1 H locs ls h1 h2 h3 h4
def DS (Z : ZT) (k : Nat) (q : Nat × Nat) : Prop := dsL[k]? = some q ∧ k < Z.2.1
def FL (own : String) (idx ci j : Nat) : Prop := ∃ r : vw_C, classes[ci]? = some r ∧ j < r.2.2 ∧ Cond.fieldLink own idx r.1 (r.2.1 j).2.1 (r.2.1 j).2.2.1 ∈ gT
def CF (q : vw_C) (ci : Nat) : Prop := (∀ k, k < q.2.2 → (q.2.1 k).1 = q.1) ∧ (∀ w ∈ u_ws q.1 q.2.1 q.2.2, w ∈ gT) ∧ (∀ k, k < q.2.2 → parseFieldDescriptor (q.2.1 k).2.2.1 = some ((tyL.getD ci []).getD k .int)) ∧ ∀ a, a < q.2.2 → ∀ b, b < q.2.2 → a ≠ b → (q.2.1 a).2.1 ≠ (q.2.1 b).2.1
theorem cf_ok : ∀ (ci : Nat) (q : vw_C), classes[ci]? = some q → CF q ci := by
  intro ci q hq
  match ci, hq with
  | 0, hq => cases hq; exact ⟨by decide +kernel, u_WC, by decide +kernel, by decide +kernel⟩
  | 1, hq => cases hq; exact ⟨by decide +kernel, u_State, by decide +kernel, by decide +kernel⟩
  | 2, hq => cases hq; exact ⟨by decide +kernel, u_History, by decide +kernel, by decide +kernel⟩
  | 3, hq => cases hq; exact ⟨by decide +kernel, u_Cand, by decide +kernel, by decide +kernel⟩
  | 4, hq => cases hq; exact ⟨by decide +kernel, u_Plan, by decide +kernel, by decide +kernel⟩
  | 5, hq => cases hq; exact ⟨by decide +kernel, u_Stretch, by decide +kernel, by decide +kernel⟩
  | 6, hq => cases hq; exact ⟨by decide +kernel, u_Text, by decide +kernel, by decide +kernel⟩
  | 7, hq => cases hq; exact ⟨by decide +kernel, u_Reader, by decide +kernel, by decide +kernel⟩
  | 8, hq => cases hq; exact ⟨by decide +kernel, u_Mo, by decide +kernel, by decide +kernel⟩
  | k + 9, hq => simp [classes] at hq
theorem g_get {k ci j idx : Nat} (hX : Cx Γ X nL h cc own) (hd : DS Z k (1, ci)) (hF : FL own idx ci j) (hdg : decode cc pc = .ok (.getfield idx, 3)) (kk : G Γ X nL Z (pc + 3) L (cV Γ Z.1 M ci k j :: st) M) : G Γ X nL Z pc L (.ref (gb Γ + k) :: st) M := by
  intro H locs ls h1 h2 h3 h4
  obtain ⟨q, hc, hj, hl⟩ := hF
  obtain ⟨hdec, hin, -, -⟩ := cf_ok ci q hc
  obtain ⟨r, hr, cell, q1, q2, q3, q4⟩ := (h1.2.2 k hd.2).2.1 ci hd.1
  have erq : r = q := Option.some.inj (hr.symm.trans hc)
  subst erq
  obtain ⟨hx, hb, hml, hown, hts, hlk, hV, -⟩ := hX
  obtain ⟨hS, hfc, kC, hkC, hkind⟩ := hV.1.1 ci _ hc
  obtain ⟨cf, kf, fi, f, hi, hsl⟩ := hS j hj
  have hts' : ∀ w ∈ u_ws r.1 r.2.1 r.2.2, w.before (xa X) (xs X) = true := fun w hw => hts w (hin w hw)
  refine W.getf hx hb hown (hts _ hl) (by rw [← hdec j hj]; exact hi) (u_facts hfc hkC (u_lays hts' (fun _ w => w) hj) hi).1 q1 (by rw [q3]; exact fun h => by cases h) (v := cV Γ Z.1 M ci k j) ?_ rfl rfl hdg (kk H locs ls h1 h2 h3 h4)
  rw [hsl]
  exact q4 j hj
theorem g_getI {k ci j idx : Nat} (hX : Cx Γ X nL h cc own) (hF : FL own idx ci j) (hdg : decode cc pc = .ok (.getfield idx, 3)) (jj : Int) (hd : DS Z k (1, ci)) (hjj : ((j : Nat) : Int) = jj) (hr : isR ci j = false) (kk : iR (M k jj) → G Γ X nL Z (pc + 3) L (vI (M k jj) :: st) M) : G Γ X nL Z pc L (.ref (gb Γ + k) :: st) M :=
  g_rng fun hr' => g_get hX hd hF hdg (by subst hjj; have e : cV Γ Z.1 M ci k j = vI (M k j) := by (unfold cV; rw [hr]; rfl)
                                          rw [e]; exact kk (hr' _ _))
theorem g_getR {k ci j idx k' : Nat} (hX : Cx Γ X nL h cc own) (hF : FL own idx ci j) (hdg : decode cc pc = .ok (.getfield idx, 3)) (hd : DS Z k (1, ci)) (hk : Z.1 k j = some k') (hr : isR ci j = true) (kk : G Γ X nL Z (pc + 3) L (.ref (gb Γ + k') :: st) M) : G Γ X nL Z pc L (.ref (gb Γ + k) :: st) M :=
  g_get hX hd hF hdg (by have e : cV Γ Z.1 M ci k j = .ref (gb Γ + k') := by (unfold cV; rw [hr, hk]; rfl)
                         rw [e]; exact kk)
theorem cE_other {R : mR} {M M' : mI} {H H' : Heap} {k : Nat} (hE : cE Γ R M H k) (hM : M' k = M k) (hH : H'[gb Γ + k]? = H[gb Γ + k]?) : cE Γ R M' H' k := by
  refine ⟨fun n hn => ?_, fun ci hc => ?_, fun n hn => ?_⟩
  · rw [hH, hM]; exact hE.1 n hn
  · obtain ⟨r, h1, h2⟩ := hE.2.1 ci hc
    refine ⟨r, h1, ?_⟩
    have e : cV Γ R M' ci k = cV Γ R M ci k := by funext j; unfold cV; rw [hM]
    rw [e]
    exact h2.kept hH
  · rw [hH]; exact hE.2.2 n hn
theorem Hp_put {R : mR} {K : Nat} {M : mI} {H H' : Heap} {k : Nat} {j v : Int} (h1 : Hp Γ R K M H) (hv : iR v) (hsz : H'.size = H.size) (oq : ∀ q, q ≠ gb Γ + k → H'[q]? = H[q]?) (hE : cE Γ R (mU M k j v) H' k) : Hp Γ R K (mU M k j v) H' := by
  refine ⟨by rw [hsz]; exact h1.1, iR_mU h1.2.1 hv, fun a ha => ?_⟩
  by_cases hk : a = k
  · subst hk; exact hE
  · exact cE_other (h1.2.2 a ha) (mU_cell hk) (oq _ (by omega))
theorem loc_put {locs : List Loc} {k : Nat} {i : Nat} (h3 : ∀ q ∈ locs, gb Γ ≤ q.base) : ∀ q ∈ locs ++ [⟨gb Γ + k, i⟩], gb Γ ≤ q.base := by
  intro q hq
  rcases List.mem_append.mp hq with h | h
  · exact h3 q h
  · rw [List.mem_singleton.mp h]
    exact Nat.le_add_right _ _
theorem g_put {k ci j idx : Nat} {x jj : Int} (hX : Cx Γ X nL h cc own) (hF : FL own idx ci j) (hdg : decode cc pc = .ok (.putfield idx, 3)) (hd : DS Z k (1, ci)) (hjj : ((j : Nat) : Int) = jj) (hr : isR ci j = false) (hfin : ∀ q : vw_C, classes[ci]? = some q → (q.2.1 j).2.2.2 = false) {ty : FieldType} (hty : (tyL.getD ci []).getD j .int = ty) (hn : narrow ty (vI x) = vI x) (hfit : fits ty (vI x) = true) (hv : iR x) (kk : G Γ X nL Z (pc + 3) L st (mU M k jj x)) : G Γ X nL Z pc L (vI x :: .ref (gb Γ + k) :: st) M := by
  intro H locs ls h1 h2 h3 h4
  subst hjj
  obtain ⟨q, hc, hj, hl⟩ := hF
  obtain ⟨hdec, hin, hpd, hnm⟩ := cf_ok ci q hc
  obtain ⟨r, hr', cell, q1, q2, q3, q4⟩ := (h1.2.2 k hd.2).2.1 ci hd.1
  have erq : r = q := Option.some.inj (hr'.symm.trans hc)
  subst erq
  obtain ⟨hx, hb, hml, hown, hts, hlk, hV, -⟩ := hX
  have hts' : ∀ w ∈ u_ws r.1 r.2.1 r.2.2, w.before (xa X) (xs X) = true := fun w hw => hts w (hin w hw)
  have hap := va_apart (own := own) hts' (fun _ w => w) (fun k => (tyL.getD ci []).getD k .int) hpd hnm hV.1 hc
  obtain ⟨hS, hfc, kC, hkC, hkind⟩ := hV.1.1 ci _ hc
  obtain ⟨cf, kf, fi, f, hi, hsl⟩ := hS j hj
  have hlay := hts' _ (u_in_lay hj)
  unfold u_lay at hlay
  rw [if_neg (by rw [hfin r hc]; decide)] at hlay
  have hst := (u_facts hfc hkC (u_lays hts' (fun _ w => w) hj) hi).1
  have h6 := u_store hfc hkC hkind hlay hi (hpd j hj) (by rw [hty]; exact hn) (by rw [hty]; exact hfit)
  refine W.putK hx hb (f := f) ⟨hown, hts _ hl, ⟨_, _, _, by rw [← hdec j hj]; exact hi⟩, hst⟩ (by rw [q2]; exact h6) q1 q3 (by rw [hsl]; exact k2_hasslot (q4 j hj)) rfl rfl hdg fun H' e1 e2 e3 => ?_
  rw [hsl] at e1 ⊢
  refine kk H' _ ls (Hp_put h1 hv e2 e3 ⟨fun n hn' => ?_, fun ci' hc' => ?_, fun n hn' => ?_⟩) (fun q hq => by rw [e3 q (Nat.ne_of_lt (Nat.lt_of_lt_of_le hq (Nat.le_add_right _ _)))]; exact h2 q hq) (loc_put h3) h4
  · cases hd.1.symm.trans hn'
  · cases hd.1.symm.trans hc'
    refine ⟨_, hc, t_OB.to (V := updV (cV Γ Z.1 M ci k) j (vI x)) ⟨_, e1, q2, q3, t_set q4 hap hj (vI x)⟩ (fun i hi => ?_)⟩
    unfold updV cV
    by_cases hij : i = j
    · subst hij
      rw [if_pos rfl, hr]
      rw [if_neg (by decide), mU_self]
    · rw [if_neg hij, mU_slot (by omega)]
  · cases hd.1.symm.trans hn'
theorem g_putI {k ci j idx : Nat} {x : Int} (hX : Cx Γ X nL h cc own) (hF : FL own idx ci j) (hdg : decode cc pc = .ok (.putfield idx, 3)) (jj : Int) (hd : DS Z k (1, ci)) (hjj : ((j : Nat) : Int) = jj) (hr : isR ci j = false) (hfin : ∀ q : vw_C, classes[ci]? = some q → (q.2.1 j).2.2.2 = false) (hty : (tyL.getD ci []).getD j .int = .int) (hv : iR x) (kk : G Γ X nL Z (pc + 3) L st (mU M k jj x)) : G Γ X nL Z pc L (vI x :: .ref (gb Γ + k) :: st) M :=
  g_put hX hF hdg hd hjj hr hfin hty rfl rfl hv kk
theorem g_putZ {k ci j idx : Nat} {x : Int} (hX : Cx Γ X nL h cc own) (hF : FL own idx ci j) (hdg : decode cc pc = .ok (.putfield idx, 3)) (jj : Int) (hd : DS Z k (1, ci)) (hjj : ((j : Nat) : Int) = jj) (hr : isR ci j = false) (hfin : ∀ q : vw_C, classes[ci]? = some q → (q.2.1 j).2.2.2 = false) (hty : (tyL.getD ci []).getD j .int = .boolean) (hv : x = 0 ∨ x = 1) (kk : G Γ X nL Z (pc + 3) L st (mU M k jj x)) : G Γ X nL Z pc L (vI x :: .ref (gb Γ + k) :: st) M :=
  g_put hX hF hdg hd hjj hr hfin hty (by rcases hv with rfl | rfl <;> rfl) (by rcases hv with rfl | rfl <;> rfl) (by omega) kk
theorem ds_small : ∀ k n : Nat, dsL[k]? = some (0, n) → n < 2147483648 := by
  intro k n hk
  have h : ∀ q ∈ dsL, q.2 < 2147483648 := by decide +kernel
  exact h _ (List.mem_of_getElem? hk)
theorem g_iald {k n : Nat} {i : Int} (hX : Cx Γ X nL h cc own) (hdg : decode cc pc = .ok (.iaload, 1)) (hd : DS Z k (0, n)) (hi : 0 ≤ i ∧ i < n) (kk : iR (M k i) → G Γ X nL Z (pc + 1) L (vI (M k i) :: st) M) : G Γ X nL Z pc L (vI i :: .ref (gb Γ + k) :: st) M := by
  intro H locs ls h1 h2 h3 h4
  have hn := ds_small k n hd.1
  have hE := (h1.2.2 k hd.2).1 n hd.1
  have hj : i.toNat < n := by omega
  have hz : ((i.toNat : Nat) : Int) = i := by omega
  obtain ⟨hx, hb, hml, hown, hts, hlk, hV, -⟩ := hX
  have hcl := i32_clamp hi.1 (show i < 2147483648 by omega)
  refine W.iald (v := vI (M k i)) hx hb hE ((hV.1.2 0 _ rfl).1 n (fun j => vI (M k j))) (fun q => by cases q) (by rw [arrV_size]; exact i32_in hi.1 hi.2 hn) (by rw [hcl, arrV_read _ _ hj, hz]) rfl rfl hdg (kk (h1.2.1 k i) H locs ls h1 h2 h3 h4)
theorem g_iast {k n : Nat} {i x : Int} (hX : Cx Γ X nL h cc own) (hdg : decode cc pc = .ok (.iastore, 1)) (hd : DS Z k (0, n)) (hi : 0 ≤ i ∧ i < n) (hv : iR x) (kk : G Γ X nL Z (pc + 1) L st (mU M k i x)) : G Γ X nL Z pc L (vI x :: vI i :: .ref (gb Γ + k) :: st) M := by
  intro H locs ls h1 h2 h3 h4
  have hn := ds_small k n hd.1
  have hE := (h1.2.2 k hd.2).1 n hd.1
  have hj : i.toNat < n := by omega
  have hz : ((i.toNat : Nat) : Int) = i := by omega
  obtain ⟨hx, hb, hml, hown, hts, hlk, hV, -⟩ := hX
  have hcl := i32_clamp hi.1 (show i < 2147483648 by omega)
  refine W.iast hx hb hE ((hV.1.2 0 _ rfl).1 n (fun j => vI (M k j))) (fun q => by cases q) (by rw [arrV_size]; exact i32_in hi.1 hi.2 hn) rfl rfl hdg fun H' e1 e2 e3 => ?_
  refine kk H' _ ls (Hp_put h1 hv e2 e3 ⟨fun n' hn' => ?_, fun ci' hc' => ?_, fun n' hn' => ?_⟩) (fun q hq => by rw [e3 q (Nat.ne_of_lt (Nat.lt_of_lt_of_le hq (Nat.le_add_right _ _)))]; exact h2 q hq) (loc_put h3) h4
  · cases hd.1.symm.trans hn'
    rw [e1, hcl, arrV_store]
    congr 2
    funext j
    unfold updV
    by_cases hij : j = i.toNat
    · subst hij
      rw [if_pos rfl, hz, mU_self]
      rfl
    · rw [if_neg hij, mU_slot (by omega)]
  · cases hd.1.symm.trans hc'
  · cases hd.1.symm.trans hn'
theorem g_alen {k n : Nat} (hX : Cx Γ X nL h cc own) (hdg : decode cc pc = .ok (.arraylength, 1)) (hd : DS Z k (0, n)) (kk : G Γ X nL Z (pc + 1) L (vI n :: st) M) : G Γ X nL Z pc L (.ref (gb Γ + k) :: st) M := by
  intro H locs ls h1 h2 h3 h4
  have hE := (h1.2.2 k hd.2).1 n hd.1
  obtain ⟨hx, hb, hml, hown, hts, hlk, hV, -⟩ := hX
  exact W.alen (n := Int32.ofInt n) hx hb hE ((hV.1.2 0 _ rfl).1 n (fun j => vI (M k j))) (by rw [arrV_size]; rfl) rfl rfl hdg (kk H locs ls h1 h2 h3 h4)
theorem g_alenS {k n : Nat} (hX : Cx Γ X nL h cc own) (hdg : decode cc pc = .ok (.arraylength, 1)) (hd : DS Z k (2, n)) (kk : G Γ X nL Z (pc + 1) L (vI n :: st) M) : G Γ X nL Z pc L (.ref (gb Γ + k) :: st) M := by
  intro H locs ls h1 h2 h3 h4
  have hE := (h1.2.2 k hd.2).2.2 n hd.1
  obtain ⟨hx, hb, hml, hown, hts, hlk, hV, -⟩ := hX
  exact W.alen (n := Int32.ofInt n) hx hb hE ((hV.1.2 1 _ rfl).1 n (fun j => rV (gb Γ) (Z.1 k j))) (by rw [arrV_size]; rfl) rfl rfl hdg (kk H locs ls h1 h2 h3 h4)
theorem ds_small2 : ∀ k n : Nat, dsL[k]? = some (2, n) → n < 2147483648 := by
  intro k n hk
  have h : ∀ q ∈ dsL, q.2 < 2147483648 := by decide +kernel
  exact h _ (List.mem_of_getElem? hk)
theorem g_aald {k n k' : Nat} {i : Int} (hX : Cx Γ X nL h cc own) (hdg : decode cc pc = .ok (.aaload, 1)) (hd : DS Z k (2, n)) (hi : 0 ≤ i ∧ i < n) (hr : Z.1 k i.toNat = some k') (kk : G Γ X nL Z (pc + 1) L (.ref (gb Γ + k') :: st) M) : G Γ X nL Z pc L (vI i :: .ref (gb Γ + k) :: st) M := by
  intro H locs ls h1 h2 h3 h4
  have hn := ds_small2 k n hd.1
  have hE := (h1.2.2 k hd.2).2.2 n hd.1
  have hj : i.toNat < n := by omega
  obtain ⟨hx, hb, hml, hown, hts, hlk, hV, -⟩ := hX
  have hcl := i32_clamp hi.1 (show i < 2147483648 by omega)
  exact W.aald (v := .ref (gb Γ + k')) (ty := .object "WindowCopies$State") hx hb hE ((hV.1.2 1 _ rfl).1 n (fun j => rV (gb Γ) (Z.1 k j))) rfl (fun q => by cases q) (by rw [arrV_size]; exact i32_in hi.1 hi.2 hn) (by rw [hcl, arrV_read _ _ hj, hr]; rfl) rfl rfl hdg (kk H locs ls h1 h2 h3 h4)
theorem g_null (hX : Cx Γ X nL h cc own) (hdg : decode cc pc = .ok (.aconst_null, 1)) (k : G Γ X nL Z (pc + 1) L (.null :: st) M) : G Γ X nL Z pc L st M :=
  fun H locs ls h1 h2 h3 h4 => lv_null hX.1 hX.2.1 hdg (k H locs ls h1 h2 h3 h4)
theorem g_ifnull {a : Nat} {off : Int} (hX : Cx Γ X nL h cc own) (hdg : decode cc pc = .ok (.ifnull off, 3)) (k : G Γ X nL Z (pc + 3) L st M) : G Γ X nL Z pc L (.ref a :: st) M :=
  fun H locs ls h1 h2 h3 h4 => lv_ifnull hX.1 hX.2.1 hdg (k H locs ls h1 h2 h3 h4)
theorem g_ifnullN {off : Int} (tgt : Nat) (hX : Cx Γ X nL h cc own) (hdg : decode cc pc = .ok (.ifnull off, 3)) (ht : (pc : Int) + off = (tgt : Int)) (k : G Γ X nL Z tgt L st M) : G Γ X nL Z pc L (.null :: st) M :=
  fun H locs ls h1 h2 h3 h4 => lv_ifnullN hX.1 hX.2.1 hdg ht (k H locs ls h1 h2 h3 h4)
end GR
