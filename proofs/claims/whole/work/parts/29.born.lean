/-! things made: rows over a memory that grows -/
def rmC (h mc ms : Nat) : Room := { frames := h, cells := mc, slots := ms, locals := 40 * h }
def QC (Γ : gX) (R : mR) (K : Nat) (P : mI → Prop) : Array Value → State → Outcome → State → Prop := fun _ st o t => ∃ (M' : mI), o = .returned none ∧ P M' ∧ Hp Γ R K M' t.heap ∧ ∀ q, q < gb Γ → t.heap[q]? = st.heap[q]?
/-- what the constructor i does: R and K before, R' and K' after it -/
def CnC (Γ : gX) (l : Launch) (i : yT) (R : mR) (K : Nat) (R' : mR) (K' mc ms : Nat) (av : List Value) (M : mI) (P : mI → Prop) : Prop := Met l i.1 (.code i.1 i.2.1 i.2.2.1 i.2.2.2.1 :: gT) (rmC i.2.2.2.2.2 mc ms) (PN Γ R K av M) (QC Γ R' K' P) mc ms (fun q => gb Γ ≤ q)
def RtC (Γ : gX) (X : XT) (R' : mR) (K' mc ms : Nat) (nm : String) (P : mI → Prop) : Prop := xQ X = MQ (xw X) (QC Γ R' K' P) (xa X) (xs X) mc ms (fun q => gb Γ ≤ q) ∧ (xt X).sig.returnType = none ∧ (xR X).cells = mc ∧ (xR X).slots = ms ∧ (xt X).name = nm
theorem cnC_intro {Γ : gX} {l : Launch} {i : yT} {R R' : mR} {K K' mc ms : Nat} {av : List Value} {M : mI} {P : mI → Prop} {L : List (Option Value)} (hy : Ym i) (hr : i.2.2.2.1 = none) (hc : av.all (fun v => v.category == 1) = true) (hn : av.length ≤ i.2.2.1) (hL : av.map some ++ List.replicate (i.2.2.1 - av.length) none = L)
    (body : ∀ X : XT, Cx Γ X i.2.2.1 i.2.2.2.2.2 i.2.1 i.1.cls → RtC Γ X R' K' mc ms i.1.name P → G Γ X i.2.2.1 (R, K, 0, 0) 0 L [] M) : CnC Γ l i R K R' K' mc ms av M P := by
  refine Met.ofW (cc := i.2.1) (maxL := i.2.2.1) (ret := i.2.2.2.1) hy.2.2.2.1 rfl ?_
  intro p e s m args below meth c s₁ B hml hv
  obtain ⟨rfl, hH, hV⟩ := hv
  have hts := atoms_spec (ws := Cond.code i.1 i.2.1 i.2.2.1 i.2.2.2.1 :: gT) B.pre
  have hown : s.vm.findClass i.1.cls = some m.cls := findClass_of_methodNamed B.named
  have g := body (p, l, e, (headSpec (Cond.code i.1 i.2.1 i.2.2.1 i.2.2.2.1 :: gT) (rmC i.2.2.2.2.2 mc ms)).room, s, m, av.toArray, below, meth, c, MQ below (QC Γ R' K' P) av.toArray s mc ms (fun q => gb Γ ≤ q))
    ⟨B.exec, B.bytes, hml, hown, fun w hw => hts w (List.mem_cons_of_mem _ hw), B.notSynchronized, hV, Nat.le_refl _, Nat.le_refl _⟩ ⟨rfl, B.returns.trans hr, rfl, rfl, (name_of_methodNamed B.named B.method).1⟩
  rw [lg_entry_eq]
  have hl := lh_entry av i.2.2.1 (fun v hv => by simpa using List.all_eq_true.mp hc v hv) hn
  rw [hL] at hl
  exact g s.heap [] _ hH (fun _ _ => rfl) (fun _ h => by cases h) hl
section GB
variable {Γ : gX} {X : XT} {nL h K cells slots : Nat} {R : mR} {pc : Nat} {L : List (Option Value)} {st : List Value} {M : mI} {cc : ByteArray} {own : String}
theorem Hp_push {H H1 : Heap} (h1 : Hp Γ R K M H) (z1 : H1.size = gb Γ + K + 1) (o1 : ∀ q, q < gb Γ + K → H1[q]? = H[q]?) (hE : cE Γ R M H1 K) : Hp Γ R (K + 1) M H1 := by
  refine ⟨by rw [z1]; omega, h1.2.1, fun a ha => ?_⟩
  by_cases hk : a = K
  · subst hk; exact hE
  · exact cE_other (h1.2.2 a (by omega)) rfl (o1 _ (by omega))
theorem g_newa {n : Nat} {z : Int} (hX : Cx Γ X nL h cc own) (hdg : decode cc pc = .ok (.newarray .int, 2)) (hz : z = n) (hd : dsL[K]? = some (0, n)) (hM : ∀ j, M K j = 0) (hr : cells + 1 ≤ (xR X).cells ∧ slots + n ≤ (xR X).slots) (kk : G Γ X nL (R, K + 1, cells + 1, slots + n) (pc + 2) L (.ref (gb Γ + K) :: st) M) : G Γ X nL (R, K, cells, slots) pc L (vI z :: st) M := by
  intro H locs ls h1 h2 h3 h4
  have hn := ds_small _ _ hd
  obtain ⟨hx, hb, hml, hown, hts, hlk, hV, -⟩ := hX
  subst hz
  have hsz : H.size = gb Γ + K := h1.1
  have hn2 : n ≤ 1000 := by
    have hall : ∀ q ∈ dsL, q.2 ≤ 1000 := by decide
    exact hall _ (List.mem_of_getElem? hd)
  refine va_newaK (atype := .int) hx hb (hts _ q_43) rfl hdg rfl (N := n) (fun q => absurd q (by rw [i32_0, i32_lt (by omega) (by omega)]; omega)) (by rw [i32_clamp (by omega) (by omega)]; omega) (by show n * 4 ≤ 536870912; omega) hr.1 hr.2 hsz fun H1 cA e1 z1 o1 hAr hNm => ?_
  have hcA : cA = gI Γ := by
    have e := (hV.1.2 0 _ rfl).2
    exact Option.some.inj (hNm.symm.trans e)
  subst hcA
  refine kk H1 locs ls (Hp_push h1 z1 o1 ⟨fun n' hn' => ?_, fun ci' hc' => ?_, fun n' hn' => ?_⟩) (fun q hq => by rw [o1 q (by omega)]; exact h2 q hq) h3 h4
  · cases hd.symm.trans hn'
    rw [e1]
    have ef : (fun _ : Nat => defaultValue FieldType.int) = fun j : Nat => vI (M K j) := by
      funext j
      rw [hM]
      rfl
    show some (arrV (gI Γ) n (fun _ => defaultValue FieldType.int)) = _
    rw [ef]
  · cases hd.symm.trans hc'
  · cases hd.symm.trans hn'
theorem df_ok : ∀ (ci : Nat) (q : vw_C), classes[ci]? = some q → ∀ j, j < q.2.2 → defaultValue ((tyL.getD ci []).getD j .int) = if isR ci j = true then .null else vI 0 := by
  intro ci q hq
  match ci, hq with
  | 0, hq => cases hq; decide +kernel
  | 1, hq => cases hq; decide +kernel
  | 2, hq => cases hq; decide +kernel
  | 3, hq => cases hq; decide +kernel
  | 4, hq => cases hq; decide +kernel
  | 5, hq => cases hq; decide +kernel
  | 6, hq => cases hq; decide +kernel
  | 7, hq => cases hq; decide +kernel
  | 8, hq => cases hq; decide +kernel
  | k + 9, hq => simp [classes] at hq
theorem g_new {ci idx N : Nat} {r : vw_C} (hX : Cx Γ X nL h cc own) (hc : classes[ci]? = some r) (hcl : Cond.classLink own idx r.1 ∈ gT) (hin : Cond.instantiable r.1 r.2.2 ∈ gT) (hini : Cond.initialized r.1 ∈ gT) (hdg : decode cc pc = .ok (.new idx, 3)) (hN : r.2.2 = N) (hd : dsL[K]? = some (1, ci)) (hM : ∀ j, M K j = 0) (hR : ∀ j, R K j = none) (hr : cells + 1 ≤ (xR X).cells ∧ slots + N ≤ (xR X).slots) (kk : G Γ X nL (R, K + 1, cells + 1, slots + N) (pc + 3) L (.ref (gb Γ + K) :: st) M) : G Γ X nL (R, K, cells, slots) pc L st M := by
  intro H locs ls h1 h2 h3 h4
  subst hN
  obtain ⟨hx, hb, hml, hown, hts, hlk, hV, -⟩ := hX
  obtain ⟨hdec, hinw, hpd, hnm⟩ := cf_ok ci r hc
  have hts' : ∀ w ∈ u_ws r.1 r.2.1 r.2.2, w.before (xa X) (xs X) = true := fun w hw => hts w (hinw w hw)
  have hKn := hV.1.1 ci _ hc
  refine W.newcK hx hb hown (hts _ hcl) (hts _ hin) (hts _ hini) rfl hdg hr.1 hr.2 hKn.2.1 h1.1 fun H1 kC hkC e1 z1 o1 => ?_
  have hB := u_born (fun k => (tyL.getD ci []).getD k .int) hts' (fun _ w => w) hKn hkC e1 hpd
  refine kk H1 locs ls (Hp_push h1 z1 o1 ⟨fun n' hn' => ?_, fun ci' hc' => ?_, fun n' hn' => ?_⟩) (fun q hq => by rw [o1 q (by omega)]; exact h2 q hq) h3 h4
  · cases hd.symm.trans hn'
  · cases hd.symm.trans hc'
    refine ⟨r, hc, hB.to fun j hj => ?_⟩
    show defaultValue ((tyL.getD ci []).getD j .int) = cV Γ R M ci K j
    rw [df_ok ci r hc j hj]
    unfold cV
    rw [hR, hM]
    rfl
  · cases hd.symm.trans hn'
theorem g_anew {idx n : Nat} {z : Int} (hX : Cx Γ X nL h cc own) (hcl : Cond.classLink own idx "WindowCopies$State" ∈ gT) (hdg : decode cc pc = .ok (.anewarray idx, 3)) (hz : z = n) (hd : dsL[K]? = some (2, n)) (hR : ∀ j, R K j = none) (hr : cells + 1 ≤ (xR X).cells ∧ slots + n ≤ (xR X).slots) (kk : G Γ X nL (R, K + 1, cells + 1, slots + n) (pc + 3) L (.ref (gb Γ + K) :: st) M) : G Γ X nL (R, K, cells, slots) pc L (vI z :: st) M := by
  intro H locs ls h1 h2 h3 h4
  obtain ⟨hx, hb, hml, hown, hts, hlk, hV, -⟩ := hX
  subst hz
  have hsz : H.size = gb Γ + K := h1.1
  have hn2 : n ≤ 1000 := by
    have hall : ∀ q ∈ dsL, q.2 ≤ 1000 := by decide
    exact hall _ (List.mem_of_getElem? hd)
  have hcl2 : (Int32.ofInt (n : Int)).toNatClampNeg = n := by rw [i32_clamp (by omega) (by omega)]; omega
  refine W.anew hx hb hown (hts _ hcl) (va_AO.use hV.2.2.1) rfl hdg rfl (fun q => absurd q (by rw [i32_0, i32_lt (by omega) (by omega)]; omega)) (by rw [hcl2]; omega) hr.1 (by rw [hcl2]; exact hr.2) fun cA kA comp f1 f2 f3 f4 => ?_
  rw [hcl2]
  generalize hH1 : H.push ({ cls := cA, slots := Array.replicate n .null, vm := .none } : Cell) = H1
  have z1 : H1.size = gb Γ + K + 1 := by rw [← hH1, Array.size_push, hsz]
  have e1 : H1[gb Γ + K]? = some (arrV cA n (fun _ => .null)) := by rw [← hH1, ← hsz, Array.getElem?_push_size, ← arrV_new]
  have o1 : ∀ q : Nat, q < gb Γ + K → H1[q]? = H[q]? := fun q hq => by rw [← hH1, Array.getElem?_push, if_neg (by omega)]
  have hcA : cA = gS Γ := by
    obtain ⟨-, kA', comp', -, -, -, e⟩ := hV.1.2 1 _ rfl
    exact Option.some.inj (f1.symm.trans e)
  subst hcA
  rw [hsz]
  refine kk H1 locs ls (Hp_push h1 z1 o1 ⟨fun n' hn' => ?_, fun ci' hc' => ?_, fun n' hn' => ?_⟩) (fun q hq => by rw [o1 q (by omega)]; exact h2 q hq) h3 h4
  · cases hd.symm.trans hn'
  · cases hd.symm.trans hc'
  · cases hd.symm.trans hn'
    rw [e1]
    have ef : (fun _ : Nat => Value.null) = fun j : Nat => rV (gb Γ) (R K j) := by
      funext j
      rw [hR]
      rfl
    rw [ef]
theorem cE_rU {R' : mR} {H H' : Heap} {a : Nat} (hE : cE Γ R M H a) (hR : R' a = R a) (hH : H'[gb Γ + a]? = H[gb Γ + a]?) : cE Γ R' M H' a := by
  refine ⟨fun n hn => ?_, fun ci hc => ?_, fun n hn => ?_⟩
  · rw [hH]; exact hE.1 n hn
  · obtain ⟨r, h1, h2⟩ := hE.2.1 ci hc
    refine ⟨r, h1, ?_⟩
    have e : cV Γ R' M ci a = cV Γ R M ci a := by funext j; unfold cV; rw [hR]
    rw [e]
    exact h2.kept hH
  · rw [hH, hR]; exact hE.2.2 n hn
theorem rU_cell {k a j : Nat} {v : Option Nat} (h : a ≠ k) : rU R k j v a = R a := by funext i; simp [rU, h]
theorem Hp_rput {H H' : Heap} {k j : Nat} {v : Option Nat} (h1 : Hp Γ R K M H) (hsz : H'.size = H.size) (oq : ∀ q, q ≠ gb Γ + k → H'[q]? = H[q]?) (hE : cE Γ (rU R k j v) M H' k) : Hp Γ (rU R k j v) K M H' := by
  refine ⟨by rw [hsz]; exact h1.1, h1.2.1, fun a ha => ?_⟩
  by_cases hk : a = k
  · subst hk; exact hE
  · exact cE_rU (h1.2.2 a ha) (rU_cell hk) (oq _ (by omega))
theorem g_putR {k k' ci j idx : Nat} (hX : Cx Γ X nL h cc own) (hF : FL own idx ci j) (hdg : decode cc pc = .ok (.putfield idx, 3)) (hd : dsL[k]? = some (1, ci)) (hk : k < K) (hr : isR ci j = true) (hfin : ∀ q : vw_C, classes[ci]? = some q → (q.2.1 j).2.2.2 = true) (hown2 : ∀ q : vw_C, classes[ci]? = some q → (q.2.1 j).1 = own) (hnm2 : (xt X).name = "<init>") {ty : FieldType} (hty : (tyL.getD ci []).getD j .int = ty) (hn : ∀ a, narrow ty (.ref a) = .ref a) (hfit : ∀ a, fits ty (.ref a) = true) (kk : G Γ X nL (rU R k j (some k'), K, cells, slots) (pc + 3) L st M) : G Γ X nL (R, K, cells, slots) pc L (.ref (gb Γ + k') :: .ref (gb Γ + k) :: st) M := by
  intro H locs ls h1 h2 h3 h4
  obtain ⟨q, hc, hj, hl⟩ := hF
  obtain ⟨hdec, hin, hpd, hnm⟩ := cf_ok ci q hc
  obtain ⟨r, hr', cell, q1, q2, q3, q4⟩ := (h1.2.2 k hk).2.1 ci hd
  have erq : r = q := Option.some.inj (hr'.symm.trans hc)
  subst erq
  obtain ⟨hx, hb, hml, hown, hts, hlk, hV, -⟩ := hX
  have hts' : ∀ w ∈ u_ws r.1 r.2.1 r.2.2, w.before (xa X) (xs X) = true := fun w hw => hts w (hin w hw)
  have hap := va_apart (own := own) hts' (fun _ w => w) (fun k => (tyL.getD ci []).getD k .int) hpd hnm hV.1 hc
  obtain ⟨hS, hfc, kC, hkC, hkind⟩ := hV.1.1 ci _ hc
  obtain ⟨cf, kf, fi, f, hi, hsl⟩ := hS j hj
  have hlay := hts' _ (u_in_lay hj)
  unfold u_lay at hlay
  rw [if_pos (hfin r hc)] at hlay
  have hst := (u_facts hfc hkC (u_lays hts' (fun _ w => w) hj) hi).1
  have hcf : (xm X).cls = cf := by
    obtain ⟨_, _, c', _, _, _, -, -, hf', -, -, -, hown3, -⟩ := Cond.laysFinal_spec hlay
    have e1 : c' = cf := by have := hi.symm.trans hf'; simp at this; exact this.1.symm
    rw [hown2 r hc] at hown3
    rw [← e1]; exact Option.some.inj (hown.symm.trans hown3)
  have h6 := u_fits (v := .ref (gb Γ + k')) hfc hkC hkind (Or.inr hlay) hi (hpd j hj) (by rw [hty]; exact hn _) (by rw [hty]; exact hfit _)
  refine W.putFinK hx hb hown (hts _ hl) (by rw [← hdec j hj]; exact hi) hst hcf hnm2 (by rw [q2]; exact h6) q1 q3 (by rw [hsl]; exact k2_hasslot (q4 j hj)) rfl rfl hdg fun H' e1 e2 e3 => ?_
  rw [hsl] at e1 ⊢
  refine kk H' _ ls (Hp_rput h1 e2 e3 ⟨fun n hn' => ?_, fun ci' hc' => ?_, fun n hn' => ?_⟩) (fun q hq => by rw [e3 q (Nat.ne_of_lt (Nat.lt_of_lt_of_le hq (Nat.le_add_right _ _)))]; exact h2 q hq) (loc_put h3) h4
  · cases hd.symm.trans hn'
  · cases hd.symm.trans hc'
    refine ⟨_, hc, t_OB.to (V := updV (cV Γ R M ci k) j (.ref (gb Γ + k'))) ⟨_, e1, q2, q3, t_set q4 hap hj (.ref (gb Γ + k'))⟩ (fun i hi => ?_)⟩
    unfold updV cV
    by_cases hij : i = j
    · subst hij
      rw [if_pos rfl, hr, if_pos rfl]
      simp [rU, rV, va_rf]
    · rw [if_neg hij]
      have e : rU R k j (some k') k i = R k i := by simp [rU, hij]
      rw [e]
  · cases hd.symm.trans hn'
theorem g_retC {R' : mR} {K' mc ms : Nat} {nm : String} {P : mI → Prop} (hX : Cx Γ X nL h cc own) (hR : RtC Γ X R' K' mc ms nm P) (hdg : decode cc pc = .ok (.return_, 1)) (hP : P M) : G Γ X nL (R', K', mc, ms) pc L [] M := by
  intro H locs ls h1 h2 h3 h4
  rw [hR.1]
  exact W.vret hX.1 hX.2.1 hR.2.1 (fun t ht hW => ⟨M, rfl, hP, by rw [ht]; exact h1, fun q hq => by rw [ht]; exact h2 q hq⟩) h3 hdg hX.2.2.2.2.2.1
end GB
theorem q_18 : (.code ⟨"java/lang/Object", "<init>", "()V"⟩ ⟨#[0xb1]⟩ 1 none : Cond) ∈ gT := gT_t 18 (by decide +kernel) rfl
section GBC
variable {Γ : gX} {X : XT} {nL h K K' cells slots mc ms : Nat} {R R' : mR} {pc : Nat} {L : List (Option Value)} {st0 rest : List Value} {M : mI} {cc : ByteArray} {own : String} {i : yT} {As : List Value} {P : mI → Prop}
theorem g_obj {idx k : Nat} {hl : Cond.methodLink own idx ⟨"java/lang/Object", "<init>", "()V"⟩ ∈ gT} (hX : Cx Γ X nL h cc own) (hdg : decode cc pc = .ok (.invokespecial idx, 3)) (hh : 1 ≤ h) (hroom : (rest.map fun v => v.category).sum ≤ 8) (kk : G Γ X nL (R, K, cells, slots) (pc + 3) L rest M) : G Γ X nL (R, K, cells, slots) pc L (.ref k :: rest) M := by
  intro H locs ls h1 h2 h3 h4
  obtain ⟨hx, hb, hml, hown, hts, hlk, hV, hf, hlo⟩ := id hX
  exact W.objInit hx hb hown (hts _ hl) (hts _ q_17) (hts _ q_18) rfl (h4.1.trans hml.symm) rfl hdg (by omega) (by show 2 * 0 + (rest.map fun v => v.category).sum + 12 ≤ _; omega) (kk H locs ls h1 h2 h3 h4)
theorem g_runC {a : Array Value} (hrun : ∀ (H : Heap) (locs : List Loc) (ls : Array Slot), Hp Γ R K M H → (∀ q, q < gb Γ → H[q]? = (xs X).heap[q]?) → lh ls nL L → va_Run (xp X) (xl X) (xe X) (xR X) (xs X) (xm X) (xa X) (xw X) (xt X) (xc X) H locs cells slots mc ms (F0 (xm X) pc ls st0) rest (QC Γ R' K' P a) (fun q => gb Γ ≤ q))
    (kk : ∀ M' : mI, P M' → G Γ X nL (R', K', cells + mc, slots + ms) (pc + 3) L rest M') : G Γ X nL (R, K, cells, slots) pc L st0 M := by
  intro H locs ls h1 h2 h3 h4 T hT Y
  obtain ⟨v, st₀, t, T', locs', h0, Y', hL, e1, e2, ⟨M', hv, hP, hH, hF⟩, stp⟩ := hrun H locs ls h1 h2 h4 T hT Y
  cases hv
  obtain ⟨t2, a1, b1⟩ := kk M' hP T'.heap (locs ++ locs') ls (by rw [e1]; exact hH) (fun q hq => by rw [e1, hF q hq, h0]; exact h2 q hq) (fun q hq => by
    rcases List.mem_append.mp hq with h | h
    · exact h3 q h
    · exact hL q h) h4 T' rfl Y'
  exact ⟨t2, stp t2 a1, b1⟩
theorem g_init {idx k : Nat} (hX : Cx Γ X nL h cc own) (hy : Ym i) (hr : i.2.2.2.1 = none) (hy1 : i.1.name = "<init>") (hyi : Cond.instanceMethod i.1 ∈ gT) (hl : Cond.methodLink own idx i.1 ∈ gT) (hdg : decode cc pc = .ok (.invokespecial idx, 3)) (hc : CnC Γ (xl X) i R K R' K' mc ms (.ref (gb Γ + k) :: As) M P) (hst : st0 = As.reverse ++ .ref (gb Γ + k) :: rest) (hlen : As.length = i.2.2.2.2.1) (hh : i.2.2.2.2.2 < h) (hroom : (rest.map fun v => v.category).sum ≤ 8) (hz : cells + mc ≤ (xR X).cells ∧ slots + ms ≤ (xR X).slots)
    (kk : ∀ M' : mI, P M' → G Γ X nL (R', K', cells + mc, slots + ms) (pc + 3) L rest M') : G Γ X nL (R, K, cells, slots) pc L st0 M := by
  refine g_runC (a := (Value.ref (gb Γ + k) :: As).toArray) (fun H locs ls h1 h2 h4 => ?_) kk
  obtain ⟨hx, hb, hml, hown, hts, hlk, hV, hf, hlo⟩ := id hX
  obtain ⟨y1, y2, ⟨y3, y4, y5⟩, y6, y7⟩ := id hy
  refine va_runI (As := As) (rest := rest) ⟨hx, hb, hml, hown, hts⟩ hc ⟨⟨rfl, rfl, by show i.2.2.2.2.2 + 1 ≤ _; omega, by show 8 + (i.2.2.1 + 11) + 40 * i.2.2.2.2.2 ≤ _; omega, pay_gT hX hy, by rw [hr]; exact List.mem_cons_self, by rw [← hr]; exact hts _ y1, hts _ y2, ⟨y3, y4⟩, fun sig hs => ?_, hts _ hl⟩, hy1, hts _ hyi⟩ ⟨PN_blind, fun U hU hW => ⟨rfl, by rw [hU]; exact h1, hV.moved hW (fun q hq => by rw [hU]; exact h2 q hq)⟩⟩ rfl hlen h4.1 hst (lv_room hroom) hdg hz
  rw [hs] at y5
  exact (Option.some.inj y5).symm
theorem g_initN {idx k : Nat} {host : String} (hX : Cx Γ X nL h cc own) (hy : Ym i) (hr : i.2.2.2.1 = none) (hy1 : i.1.name = "<init>") (hyi : Cond.instanceMethod i.1 ∈ gT) (hl : Cond.methodLinkNest own idx i.1 host ∈ nestWs) (hdg : decode cc pc = .ok (.invokespecial idx, 3)) (hc : CnC Γ (xl X) i R K R' K' mc ms (.ref (gb Γ + k) :: As) M P) (hst : st0 = As.reverse ++ .ref (gb Γ + k) :: rest) (hlen : As.length = i.2.2.2.2.1) (hh : i.2.2.2.2.2 < h) (hroom : (rest.map fun v => v.category).sum ≤ 8) (hz : cells + mc ≤ (xR X).cells ∧ slots + ms ≤ (xR X).slots)
    (kk : ∀ M' : mI, P M' → G Γ X nL (R', K', cells + mc, slots + ms) (pc + 3) L rest M') : G Γ X nL (R, K, cells, slots) pc L st0 M := by
  refine g_runC (a := (Value.ref (gb Γ + k) :: As).toArray) (fun H locs ls h1 h2 h4 => ?_) kk
  obtain ⟨hx, hb, hml, hown, hts, hlk, hV, hf, hlo⟩ := id hX
  obtain ⟨y1, y2, ⟨y3, y4, y5⟩, y6, y7⟩ := id hy
  refine va_runIN (host := host) (As := As) (rest := rest) ⟨hx, hb, hml, hown, hts⟩ hc ⟨⟨⟨rfl, rfl, by show i.2.2.2.2.2 + 1 ≤ _; omega, by show 8 + (i.2.2.1 + 11) + 40 * i.2.2.2.2.2 ≤ _; omega, pay_gT hX hy, by rw [hr]; exact List.mem_cons_self⟩, by rw [← hr]; exact hts _ y1, hts _ y2, ⟨y3, y4⟩, fun sig hs => ?_, va_Nw.use rfl (hV.2.1 _ hl)⟩, hy1, hts _ hyi⟩ ⟨PN_blind, fun U hU hW => ⟨rfl, by rw [hU]; exact h1, hV.moved hW (fun q hq => by rw [hU]; exact h2 q hq)⟩⟩ rfl hlen h4.1 hst (lv_room hroom) hdg hz
  rw [hs] at y5
  exact (Option.some.inj y5).symm
theorem g_aast {k k' n : Nat} {z : Int} {j : Nat} (hX : Cx Γ X nL h cc own) (hdg : decode cc pc = .ok (.aastore, 1)) (hd : dsL[k]? = some (2, n)) (hk : k < K) (hd' : dsL[k']? = some (1, 1)) (hk' : k' < K) (hz : z = j) (hj : j < n) (kk : G Γ X nL (rU R k j (some k'), K, cells, slots) (pc + 1) L rest M) : G Γ X nL (R, K, cells, slots) pc L (.ref (gb Γ + k') :: vI z :: .ref (gb Γ + k) :: rest) M := by
  intro H locs ls h1 h2 h3 h4
  obtain ⟨hx, hb, hml, hown, hts, hlk, hV, -⟩ := hX
  subst hz
  have hn := ds_small2 _ _ hd
  have hc1 := (h1.2.2 k hk).2.2 n hd
  obtain ⟨r, hr, cellV, g1, g2, g3, -⟩ := (h1.2.2 k' hk').2.1 1 hd'
  have hcls := (hV.1.1 1 r hr).2
  obtain ⟨-, kA, comp, k1, k2, k3, -⟩ := hV.1.2 1 _ rfl
  have hr2 : r.1 = "WindowCopies$State" := by cases hr; rfl
  have hcomp : comp = Γ.1 1 := by
    have e := hcls.1
    rw [hr2] at e
    exact Option.some.inj (k3.symm.trans e)
  subst hcomp
  obtain ⟨kC, hkC, -⟩ := id hcls.2
  have hcl : (Int32.ofInt (j : Int)).toNatClampNeg = j := by rw [i32_clamp (by omega) (by omega)]; omega
  refine W.aast hx hb hc1 (fun q h => by cases h) (fun h => by cases h) k1 k2 rfl hkC ⟨fun q => absurd q (by rw [i32_0, i32_lt (by omega) (by omega)]; omega), by rw [hcl]; show _ < (arrV _ _ _).slots.size; rw [arrV_size]; exact hj⟩ g1 (fun q h => by rw [g3] at h; cases h) (by rw [g2]; exact hkC) (by rw [g2]; exact va_assign hcls) rfl rfl hdg fun H1 e z oq => ?_
  rw [hcl] at e ⊢
  refine kk H1 _ ls (Hp_rput h1 z oq ⟨fun n hn' => ?_, fun ci' hc' => ?_, fun n' hn' => ?_⟩) (fun q hq => by rw [oq q (Nat.ne_of_lt (Nat.lt_of_lt_of_le hq (Nat.le_add_right _ _)))]; exact h2 q hq) (loc_put h3) h4
  · cases hd.symm.trans hn'
  · cases hd.symm.trans hc'
  · cases hd.symm.trans hn'
    rw [e, arrV_store]
    congr 2
    funext q
    by_cases hq : q = j
    · subst hq
      simp [updV, rU, rV, va_rf]
    · simp [updV, rU, hq]
end GBC
