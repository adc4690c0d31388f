/-! contracts over the memory, calls, ends -/
abbrev yT : Type := MethodName × ByteArray × Nat × Option FieldType × Nat × Nat
def rmh (h : Nat) : Room := { frames := h, cells := 0, slots := 0, locals := 40 * h }
def PN (Γ : gX) (R : mR) (K : Nat) (av : List Value) (M : mI) : Array Value → State → Prop := fun v U => v = av.toArray ∧ Hp Γ R K M U.heap ∧ Vf Γ U
def QN (Γ : gX) (R : mR) (K : Nat) (P : Option Value → mI → Prop) : Array Value → State → Outcome → State → Prop := fun _ st o t => ∃ (v : Option Value) (M' : mI), o = .returned v ∧ P v M' ∧ Hp Γ R K M' t.heap ∧ ∀ q, q < gb Γ → t.heap[q]? = st.heap[q]?
/-- what method i does: from the memory M with the arguments av it returns, and P says of its answer and the memory behind it -/
def Cn (Γ : gX) (l : Launch) (i : yT) (R : mR) (K : Nat) (av : List Value) (M : mI) (P : Option Value → mI → Prop) : Prop := Met l i.1 (.code i.1 i.2.1 i.2.2.1 i.2.2.2.1 :: gT) (rmh i.2.2.2.2.2) (PN Γ R K av M) (QN Γ R K P) 0 0 (fun q => gb Γ ≤ q)
def pI (P : Int → mI → Prop) : Option Value → mI → Prop := fun v M' => ∃ r : Int, v = some (vI r) ∧ iR r ∧ P r M'
def pV (P : mI → Prop) : Option Value → mI → Prop := fun v M' => v = none ∧ P M'
def pR (Γ : gX) (P : Nat → mI → Prop) : Option Value → mI → Prop := fun v M' => ∃ o : Nat, v = some (.ref (gb Γ + o)) ∧ P o M'
def Ym (i : yT) : Prop := Cond.code i.1 i.2.1 i.2.2.1 i.2.2.2.1 ∈ gT ∧ Cond.initialized i.1.cls ∈ gT ∧ (i.1.cls ≠ "java/lang/invoke/MethodHandle" ∧ i.1.cls ≠ "java/lang/invoke/VarHandle" ∧ (parseMethodDescriptor i.1.desc).map (fun d => d.parameters.length) = some i.2.2.2.2.1) ∧ plainName i.1.cls = true ∧ i.2.2.1 ≤ 21
def Yv (i : yT) : Prop := Ym i ∧ Cond.instanceMethod i.1 ∈ gT ∧ Cond.selects i.1.cls i.1 i.1 ∈ gT
def Ys (i : yT) : Prop := Ym i ∧ Cond.static i.1 ∈ gT
def Rt (Γ : gX) (X : XT) (R : mR) (K : Nat) (ret : Option FieldType) (P : Option Value → mI → Prop) : Prop := xQ X = MQ (xw X) (QN Γ R K P) (xa X) (xs X) 0 0 (fun q => gb Γ ≤ q) ∧ (xt X).sig.returnType = ret
theorem gT_sub {i : yT} (hy : Ym i) : ∀ w ∈ (Cond.code i.1 i.2.1 i.2.2.1 i.2.2.2.1 :: gT), w ∈ gT := by
  intro w hw
  rcases List.mem_cons.mp hw with rfl | hw
  · exact hy.1
  · exact hw
theorem gT_goodIn {i : yT} (hy : Ym i) : GoodIn gT (Cond.code i.1 i.2.1 i.2.2.1 i.2.2.2.1 :: gT) := fun w hw => ⟨gT_sub hy w hw, gT_good (gT_sub hy w hw)⟩
theorem cn_intro {Γ : gX} {l : Launch} {i : yT} {R : mR} {K : Nat} {av : List Value} {M : mI} {P : Option Value → mI → Prop} {L : List (Option Value)} (hy : Ym i) (hc : av.all (fun v => v.category == 1) = true) (hn : av.length ≤ i.2.2.1) (hL : av.map some ++ List.replicate (i.2.2.1 - av.length) none = L)
    (body : ∀ X : XT, Cx Γ X i.2.2.1 i.2.2.2.2.2 i.2.1 i.1.cls → Rt Γ X R K i.2.2.2.1 P → G Γ X i.2.2.1 (R, K, 0, 0) 0 L [] M) : Cn Γ l i R K av M P := by
  refine Met.ofW (cc := i.2.1) (maxL := i.2.2.1) (ret := i.2.2.2.1) hy.2.2.2.1 rfl ?_
  intro p e s m args below meth c s₁ B hml hv
  obtain ⟨rfl, hH, hV⟩ := hv
  have hts := atoms_spec (ws := Cond.code i.1 i.2.1 i.2.2.1 i.2.2.2.1 :: gT) B.pre
  have hown : s.vm.findClass i.1.cls = some m.cls := findClass_of_methodNamed B.named
  have g := body (p, l, e, (headSpec (Cond.code i.1 i.2.1 i.2.2.1 i.2.2.2.1 :: gT) (rmh i.2.2.2.2.2)).room, s, m, av.toArray, below, meth, c, MQ below (QN Γ R K P) av.toArray s 0 0 (fun q => gb Γ ≤ q))
    ⟨B.exec, B.bytes, hml, hown, fun w hw => hts w (List.mem_cons_of_mem _ hw), B.notSynchronized, hV, Nat.le_refl _, Nat.le_refl _⟩ ⟨rfl, B.returns⟩
  rw [lg_entry_eq]
  have hl := lh_entry av i.2.2.1 (fun v hv => by simpa using List.all_eq_true.mp hc v hv) hn
  rw [hL] at hl
  exact g s.heap [] _ hH (fun _ _ => rfl) (fun _ h => by cases h) hl
theorem PN_blind {Γ : gX} {R : mR} {K : Nat} {av : List Value} {M : mI} : FrameBlind (PN Γ R K av M) := fun a U g mk h => ⟨h.1, h.2.1, h.2.2.same rfl rfl⟩
section GC
variable {Γ : gX} {X : XT} {nL h : Nat} {Z : ZT} {pc : Nat} {L : List (Option Value)} {st0 rest : List Value} {M : mI} {cc : ByteArray} {own : String} {P : Option Value → mI → Prop} {i : yT} {As : List Value}
theorem g_run {a : Array Value} (hrun : ∀ (H : Heap) (locs : List Loc) (ls : Array Slot), Hp Γ Z.1 Z.2.1 M H → (∀ q, q < gb Γ → H[q]? = (xs X).heap[q]?) → lh ls nL L → va_Run (xp X) (xl X) (xe X) (xR X) (xs X) (xm X) (xa X) (xw X) (xt X) (xc X) H locs Z.2.2.1 Z.2.2.2 0 0 (F0 (xm X) pc ls st0) rest (QN Γ Z.1 Z.2.1 P a) (fun q => gb Γ ≤ q))
    (kk : ∀ (v : Option Value) (M' : mI), P v M' → G Γ X nL Z (pc + 3) L (v.toList ++ rest) M') : G Γ X nL Z pc L st0 M := by
  intro H locs ls h1 h2 h3 h4 T hT Y
  obtain ⟨v, st₀, t, T', locs', h0, Y', hL, e1, e2, ⟨v', M', hv, hP, hH, hF⟩, stp⟩ := hrun H locs ls h1 h2 h4 T hT Y
  cases hv
  obtain ⟨t2, a1, b1⟩ := kk v M' hP T'.heap (locs ++ locs') ls (by rw [e1]; exact hH) (fun q hq => by rw [e1, hF q hq, h0]; exact h2 q hq) (fun q hq => by
    rcases List.mem_append.mp hq with h | h
    · exact h3 q h
    · exact hL q h) h4 T' rfl Y'
  exact ⟨t2, stp t2 a1, b1⟩
theorem pay_gT (hX : Cx Γ X nL h cc own) (hy : Ym i) : ∀ w ∈ (Cond.code i.1 i.2.1 i.2.2.1 i.2.2.2.1 :: gT), ∀ (a' : Array Value) (U : State), (xs X).WarmedH U.vm → w.before a' U = true := pay_in hX.2.2.2.2.1 (gT_goodIn hy)
theorem callB_g (hX : Cx Γ X nL h cc own) (hy : Ym i) {idx : Nat} (hl : Cond.methodLink own idx i.1 ∈ gT) (hh : i.2.2.2.2.2 < h) : CallB (xR X) (xs X) (xa X) own idx i.1 i.2.1 i.2.2.1 i.2.2.2.1 (Cond.code i.1 i.2.1 i.2.2.1 i.2.2.2.1 :: gT) (rmh i.2.2.2.2.2) 0 0 i.2.2.2.2.1 := by
  obtain ⟨hx, hb, hml, hown, hts, hlk, hV, hf, hlo⟩ := hX
  obtain ⟨y1, y2, ⟨y3, y4, y5⟩, y6, y7⟩ := hy
  refine ⟨rfl, rfl, by show i.2.2.2.2.2 + 1 ≤ _; omega, by show 8 + (i.2.2.1 + 11) + 40 * i.2.2.2.2.2 ≤ _; omega, pay_in hts (gT_goodIn ⟨y1, y2, ⟨y3, y4, y5⟩, y6, y7⟩), List.mem_cons_self, hts _ y1, hts _ y2, ⟨y3, y4⟩, fun sig hs => ?_, hts _ hl⟩
  rw [hs] at y5
  exact (Option.some.inj y5).symm
theorem Hp_recv {R : mR} {K : Nat} {H : Heap} {k ci : Nat} {q : vw_C} {s : State} (h1 : Hp Γ R K M H) (hk : k < K) (hd : dsL[k]? = some (1, ci)) (hc : classes[ci]? = some q) (hV : Vf Γ s) : ∃ cell : Cell, H[gb Γ + k]? = some cell ∧ cell.vm.isStatics = false ∧ s.vm.findClass q.1 = some cell.cls := by
  obtain ⟨r, hr, cell, q1, q2, q3, q4⟩ := (h1.2.2 k hk).2.1 ci hd
  exact ⟨cell, q1, by rw [q3]; rfl, by rw [q2]; exact (hV.1.1 ci q hc).2.1⟩
theorem g_callV {k ci idx : Nat} (hX : Cx Γ X nL h cc own) (hy : Yv i) (hl : Cond.methodLink own idx i.1 ∈ gT) (hdg : decode cc pc = .ok (.invokevirtual idx, 3)) (hc : Cn Γ (xl X) i Z.1 Z.2.1 (.ref (gb Γ + k) :: As) M P) (hst : st0 = As.reverse ++ .ref (gb Γ + k) :: rest) (hlen : As.length = i.2.2.2.2.1) (hd : DS Z k (1, ci)) (hcn : (classes[ci]?).map (fun q => q.1) = some i.1.cls) (hh : i.2.2.2.2.2 < h) (hroom : (rest.map fun v => v.category).sum ≤ 8) (hz : Z.2.2.1 ≤ (xR X).cells ∧ Z.2.2.2 ≤ (xR X).slots)
    (kk : ∀ (v : Option Value) (M' : mI), P v M' → G Γ X nL Z (pc + 3) L (v.toList ++ rest) M') : G Γ X nL Z pc L st0 M := by
  refine g_run (a := (Value.ref (gb Γ + k) :: As).toArray) (fun H locs ls h1 h2 h4 => ?_) kk
  obtain ⟨hx, hb, hml, hown, hts, hlk, hV, hf, hlo⟩ := id hX
  cases hq : classes[ci]? with
  | none => rw [hq] at hcn; cases hcn
  | some q =>
    rw [hq] at hcn
    have hcn' : q.1 = i.1.cls := Option.some.inj hcn
    refine va_runV (C := i.1.cls) (As := As) (rest := rest) ⟨hx, hb, hml, hown, hts⟩ hc ⟨callB_g hX hy.1 hl hh, hts _ hy.2.1, hts _ hy.2.2⟩ ⟨PN_blind, ?_, fun U hU hW => ⟨rfl, by rw [hU]; exact h1, hV.moved hW (fun q hq => by rw [hU]; exact h2 q hq)⟩⟩ rfl hlen h4.1 hst (lv_room hroom) hdg ⟨hz.1, hz.2⟩
    rw [← hcn']
    exact Hp_recv h1 hd.2 hd.1 hq hV
theorem g_callS {idx : Nat} (hX : Cx Γ X nL h cc own) (hy : Ys i) (hl : Cond.methodLink own idx i.1 ∈ gT) (hdg : decode cc pc = .ok (.invokestatic idx, 3)) (hc : Cn Γ (xl X) i Z.1 Z.2.1 As M P) (hst : st0 = As.reverse ++ rest) (hlen : As.length = i.2.2.2.2.1) (hh : i.2.2.2.2.2 < h) (hroom : (rest.map fun v => v.category).sum ≤ 8) (hz : Z.2.2.1 ≤ (xR X).cells ∧ Z.2.2.2 ≤ (xR X).slots)
    (kk : ∀ (v : Option Value) (M' : mI), P v M' → G Γ X nL Z (pc + 3) L (v.toList ++ rest) M') : G Γ X nL Z pc L st0 M := by
  refine g_run (a := As.toArray) (fun H locs ls h1 h2 h4 => ?_) kk
  obtain ⟨hx, hb, hml, hown, hts, hlk, hV, hf, hlo⟩ := id hX
  exact va_runS (As := As) (rest := rest) ⟨hx, hb, hml, hown, hts⟩ hc ⟨callB_g hX hy.1 hl hh, hts _ hy.2⟩ ⟨PN_blind, fun U hU hW => ⟨rfl, by rw [hU]; exact h1, hV.moved hW (fun q hq => by rw [hU]; exact h2 q hq)⟩⟩ rfl hlen h4.1 hst (lv_room hroom) hdg ⟨hz.1, hz.2⟩
theorem g_callSN {idx : Nat} {host : String} (hX : Cx Γ X nL h cc own) (hy : Ys i) (hl : Cond.methodLinkNest own idx i.1 host ∈ nestWs) (hdg : decode cc pc = .ok (.invokestatic idx, 3)) (hc : Cn Γ (xl X) i Z.1 Z.2.1 As M P) (hst : st0 = As.reverse ++ rest) (hlen : As.length = i.2.2.2.2.1) (hh : i.2.2.2.2.2 < h) (hroom : (rest.map fun v => v.category).sum ≤ 8) (hz : Z.2.2.1 ≤ (xR X).cells ∧ Z.2.2.2 ≤ (xR X).slots)
    (kk : ∀ (v : Option Value) (M' : mI), P v M' → G Γ X nL Z (pc + 3) L (v.toList ++ rest) M') : G Γ X nL Z pc L st0 M := by
  refine g_run (a := As.toArray) (fun H locs ls h1 h2 h4 => ?_) kk
  obtain ⟨hx, hb, hml, hown, hts, hlk, hV, hf, hlo⟩ := id hX
  obtain ⟨y1, y2, ⟨y3, y4, y5⟩, y6, y7⟩ := id hy.1
  refine va_runSN (host := host) (As := As) (rest := rest) ⟨hx, hb, hml, hown, hts⟩ hc ⟨⟨⟨rfl, rfl, by show i.2.2.2.2.2 + 1 ≤ _; omega, by show 8 + (i.2.2.1 + 11) + 40 * i.2.2.2.2.2 ≤ _; omega, pay_gT hX hy.1, List.mem_cons_self⟩, hts _ y1, hts _ y2, ⟨y3, y4⟩, fun sig hs => ?_, va_Nw.use rfl (hV.2.1 _ hl)⟩, hts _ hy.2, trivial⟩ ⟨PN_blind, fun U hU hW => ⟨rfl, by rw [hU]; exact h1, hV.moved hW (fun q hq => by rw [hU]; exact h2 q hq)⟩⟩ rfl hlen h4.1 hst (lv_room hroom) hdg ⟨hz.1, hz.2⟩
  rw [hs] at y5
  exact (Option.some.inj y5).symm
theorem k_int {P : Int → mI → Prop} (kk : ∀ (r : Int) (M' : mI), iR r → P r M' → G Γ X nL Z pc L (vI r :: rest) M') : ∀ (v : Option Value) (M' : mI), pI P v M' → G Γ X nL Z pc L (v.toList ++ rest) M' := by
  rintro v M' ⟨r, rfl, hr, hp⟩
  exact kk r M' hr hp
theorem k_void {P : mI → Prop} (kk : ∀ (M' : mI), P M' → G Γ X nL Z pc L rest M') : ∀ (v : Option Value) (M' : mI), pV P v M' → G Γ X nL Z pc L (v.toList ++ rest) M' := by
  rintro v M' ⟨rfl, hp⟩
  exact kk M' hp
theorem k_ref {P : Nat → mI → Prop} (kk : ∀ (o : Nat) (M' : mI), P o M' → G Γ X nL Z pc L (.ref (gb Γ + o) :: rest) M') : ∀ (v : Option Value) (M' : mI), pR Γ P v M' → G Γ X nL Z pc L (v.toList ++ rest) M' := by
  rintro v M' ⟨o, rfl, hp⟩
  exact kk o M' hp
theorem g_iret {R : mR} {K : Nat} {P : Int → mI → Prop} {r : Int} (hX : Cx Γ X nL h cc own) (hR : Rt Γ X R K (some .int) (pI P)) (hdg : decode cc pc = .ok (.ireturn, 1)) (hr : iR r) (hP : P r M) : G Γ X nL (R, K, 0, 0) pc L [vI r] M := by
  intro H locs ls h1 h2 h3 h4
  rw [hR.1]
  exact W.iret hX.1 hX.2.1 hR.2 (fun t ht hW => ⟨_, M, rfl, ⟨r, rfl, hr, hP⟩, by rw [ht]; exact h1, fun q hq => by rw [ht]; exact h2 q hq⟩) h3 hdg hX.2.2.2.2.2.1
theorem g_zret {R : mR} {K : Nat} {P : Int → mI → Prop} {r : Int} (hX : Cx Γ X nL h cc own) (hR : Rt Γ X R K (some .boolean) (pI P)) (hdg : decode cc pc = .ok (.ireturn, 1)) (hr : r = 0 ∨ r = 1) (hP : P r M) : G Γ X nL (R, K, 0, 0) pc L [vI r] M := by
  intro H locs ls h1 h2 h3 h4
  rw [hR.1]
  exact W.zret hX.1 hX.2.1 hR.2 (by rcases hr with rfl | rfl <;> rfl) (fun t ht hW => ⟨_, M, rfl, ⟨r, rfl, by omega, hP⟩, by rw [ht]; exact h1, fun q hq => by rw [ht]; exact h2 q hq⟩) h3 hdg hX.2.2.2.2.2.1
theorem g_vret {R : mR} {K : Nat} {P : mI → Prop} (hX : Cx Γ X nL h cc own) (hR : Rt Γ X R K none (pV P)) (hdg : decode cc pc = .ok (.return_, 1)) (hP : P M) : G Γ X nL (R, K, 0, 0) pc L [] M := by
  intro H locs ls h1 h2 h3 h4
  rw [hR.1]
  exact W.vret hX.1 hX.2.1 hR.2 (fun t ht hW => ⟨_, M, rfl, ⟨rfl, hP⟩, by rw [ht]; exact h1, fun q hq => by rw [ht]; exact h2 q hq⟩) h3 hdg hX.2.2.2.2.2.1
theorem g_aret {R : mR} {K : Nat} {P : Nat → mI → Prop} {o : Nat} {n : String} (hX : Cx Γ X nL h cc own) (hR : Rt Γ X R K (some (.object n)) (pR Γ P)) (hdg : decode cc pc = .ok (.areturn, 1)) (hP : P o M) : G Γ X nL (R, K, 0, 0) pc L [.ref (gb Γ + o)] M := by
  intro H locs ls h1 h2 h3 h4
  rw [hR.1]
  exact W.aret hX.1 hX.2.1 hR.2 (Or.inl ⟨n, rfl⟩) (Or.inr ⟨_, rfl⟩) (fun t ht hW => ⟨_, M, rfl, ⟨o, rfl, hP⟩, by rw [ht]; exact h1, fun q hq => by rw [ht]; exact h2 q hq⟩) h3 hdg hX.2.2.2.2.2.1
end GC
/-! Math.max, Math.min; the static rows -/
section GM
variable {Γ : gX} {X : XT} {nL h : Nat} {Z : ZT} {pc : Nat} {L : List (Option Value)} {st : List Value} {M : mI} {cc : ByteArray} {own : String}
theorem g_max {x y : Int} {idx : Nat} (hX : Cx Γ X nL h cc own) (hdg : decode cc pc = .ok (.invokestatic idx, 3)) (hl : Cond.methodLink own idx ⟨"java/lang/Math", "max", "(II)I"⟩ ∈ gT) (hx : iR x) (hy : iR y) (hh : 0 < h) (hroom : (st.map fun v => v.category).sum ≤ 8) (hz : Z.2.2.1 ≤ (xR X).cells ∧ Z.2.2.2 ≤ (xR X).slots) (kk : G Γ X nL Z (pc + 3) L (vI (max x y) :: st) M) : G Γ X nL Z pc L (vI y :: vI x :: st) M := by
  intro H locs ls h1 h2 h3 h4
  obtain ⟨q1, q2, hml, hown, hts, hlk, hV, hf, hlo⟩ := hX
  refine va_mmax q1 q2 (by rw [hml, h4.1]) hown (hts _ hl) (hts _ q_276) (hts _ q_10) (hts _ (gT_t 277 rfl rfl)) (by omega) (by omega) hz.1 hz.2 hdg ?_
  have e : (if Int32.ofInt x < Int32.ofInt y then Int32.ofInt y else Int32.ofInt x) = Int32.ofInt (max x y) := by
    by_cases hq : x < y
    · rw [if_pos ((i32_lt hx hy).mpr hq), Int.max_eq_right (by omega)]
    · rw [if_neg (fun z => hq ((i32_lt hx hy).mp z)), Int.max_eq_left (by omega)]
  rw [e]
  exact kk H locs ls h1 h2 h3 h4
theorem g_min {x y : Int} {idx : Nat} (hX : Cx Γ X nL h cc own) (hdg : decode cc pc = .ok (.invokestatic idx, 3)) (hl : Cond.methodLink own idx ⟨"java/lang/Math", "min", "(II)I"⟩ ∈ gT) (hx : iR x) (hy : iR y) (hh : 0 < h) (hroom : (st.map fun v => v.category).sum ≤ 8) (hz : Z.2.2.1 ≤ (xR X).cells ∧ Z.2.2.2 ≤ (xR X).slots) (kk : G Γ X nL Z (pc + 3) L (vI (min x y) :: st) M) : G Γ X nL Z pc L (vI y :: vI x :: st) M := by
  intro H locs ls h1 h2 h3 h4
  obtain ⟨q1, q2, hml, hown, hts, hlk, hV, hf, hlo⟩ := hX
  refine va_mmin q1 q2 (by rw [hml, h4.1]) hown (hts _ hl) (hts _ q_323) (hts _ q_10) (hts _ (gT_t 324 rfl rfl)) (by omega) (by omega) hz.1 hz.2 hdg ?_
  have e : (if Int32.ofInt y < Int32.ofInt x then Int32.ofInt y else Int32.ofInt x) = Int32.ofInt (min x y) := by
    by_cases hq : y < x
    · rw [if_pos ((i32_lt hy hx).mpr hq), Int.min_eq_right (by omega)]
    · rw [if_neg (fun z => hq ((i32_lt hy hx).mp z)), Int.min_eq_left (by omega)]
  rw [e]
  exact kk H locs ls h1 h2 h3 h4
theorem g_getsL {idx : Nat} (hX : Cx Γ X nL h cc own) (hdg : decode cc pc = .ok (.getstatic idx, 3)) (hl : Cond.fieldLink own idx "WindowCopies" "LOWEST_VALUES" "[I" ∈ gT) (kk : G Γ X nL Z (pc + 3) L (.ref (gtL Γ) :: st) M) : G Γ X nL Z pc L st M := by
  intro H locs ls h1 h2 h3 h4
  obtain ⟨q1, q2, hml, hown, hts, hlk, hV, hf, hlo⟩ := hX
  obtain ⟨cf, kf, fi, f, a, cell, z1, z2, z3, z4, z5, z6, z7, z8⟩ := hV.2.2.2.1.1
  exact W.gets q1 q2 hown (hts _ hl) z1 z2 z3 z4 (by rw [h2 a (Nat.not_le.mp z8)]; exact z5) (fun e => by rw [e] at z6; cases z6) z7 rfl hdg (kk H locs ls h1 h2 h3 h4)
theorem g_getsH {idx : Nat} (hX : Cx Γ X nL h cc own) (hdg : decode cc pc = .ok (.getstatic idx, 3)) (hl : Cond.fieldLink own idx "WindowCopies" "HIGHEST_VALUES" "[I" ∈ gT) (kk : G Γ X nL Z (pc + 3) L (.ref (gtH Γ) :: st) M) : G Γ X nL Z pc L st M := by
  intro H locs ls h1 h2 h3 h4
  obtain ⟨q1, q2, hml, hown, hts, hlk, hV, hf, hlo⟩ := hX
  obtain ⟨cf, kf, fi, f, a, cell, z1, z2, z3, z4, z5, z6, z7, z8⟩ := hV.2.2.2.2.1.1
  exact W.gets q1 q2 hown (hts _ hl) z1 z2 z3 z4 (by rw [h2 a (Nat.not_le.mp z8)]; exact z5) (fun e => by rw [e] at z6; cases z6) z7 rfl hdg (kk H locs ls h1 h2 h3 h4)
theorem g_tlen {t : Nat} {n : String} {f : Int → Int} (hX : Cx Γ X nL h cc own) (hT : sT Γ t n f (xs X)) (hdg : decode cc pc = .ok (.arraylength, 1)) (kk : G Γ X nL Z (pc + 1) L (vI 5 :: st) M) : G Γ X nL Z pc L (.ref t :: st) M := by
  intro H locs ls h1 h2 h3 h4
  obtain ⟨q1, q2, hml, hown, hts, hlk, hV, hf, hlo⟩ := hX
  obtain ⟨cell, z1, z2, z3, z4, z5, z6, z7⟩ := hT.2
  exact W.alen (n := Int32.ofInt 5) q1 q2 (by rw [h2 t (Nat.not_le.mp z7)]; exact z1) z2 z5 rfl rfl hdg (kk H locs ls h1 h2 h3 h4)
theorem g_tald {t : Nat} {n : String} {f : Int → Int} {i : Int} (hX : Cx Γ X nL h cc own) (hT : sT Γ t n f (xs X)) (hdg : decode cc pc = .ok (.iaload, 1)) (hi : 0 ≤ i ∧ i < 5) (kk : G Γ X nL Z (pc + 1) L (vI (f i) :: st) M) : G Γ X nL Z pc L (vI i :: .ref t :: st) M := by
  intro H locs ls h1 h2 h3 h4
  obtain ⟨q1, q2, hml, hown, hts, hlk, hV, hf, hlo⟩ := hX
  obtain ⟨cell, z1, z2, z3, z4, z5, z6, z7⟩ := hT.2
  have hcl := i32_clamp hi.1 (show i < 2147483648 by omega)
  have hz : ((i.toNat : Nat) : Int) = i := by omega
  refine W.iald (v := vI (f i)) q1 q2 (by rw [h2 t (Nat.not_le.mp z7)]; exact z1) z2 z3 (by rw [hcl, i32_0, i32_lt ⟨by omega, by omega⟩ ⟨by omega, by omega⟩]; omega) (by rw [hcl, z6 i.toNat (by omega)]; show some (vI (f (i.toNat : Int))) = _; rw [hz]) rfl rfl hdg (kk H locs ls h1 h2 h3 h4)
end GM
