/-! the start: all of it -/
theorem nw_0 : (.fieldLinkNest "WindowCopies$State" 22 "WindowCopies" "FIRST_VALUES" "[I" "WindowCopies" : Cond) ∈ lw_tbl := List.mem_append_right _ (List.mem_of_getElem? (i := 25) (by decide +kernel))
theorem nw_1 : (.methodLinkNest "WindowCopies$State" 25 ⟨"WindowCopies", "at", "([II)I"⟩ "WindowCopies" : Cond) ∈ lw_tbl := List.mem_append_right _ (List.mem_of_getElem? (i := 27) (by decide +kernel))
theorem nw_2 : (.methodLinkNest "WindowCopies$State" 29 ⟨"WindowCopies", "store", "([III)V"⟩ "WindowCopies" : Cond) ∈ lw_tbl := List.mem_append_right _ (List.mem_of_getElem? (i := 30) (by decide +kernel))
theorem nw_3 : (.methodLinkNest "WindowCopies" 50 ⟨"WindowCopies$Stretch", "<init>", "()V"⟩ "WindowCopies" : Cond) ∈ lw_tbl := List.mem_append_right _ (List.mem_of_getElem? (i := 130) (by decide +kernel))
theorem nw_4 : (.methodLinkNest "WindowCopies" 57 ⟨"WindowCopies$Text", "<init>", "()V"⟩ "WindowCopies" : Cond) ∈ lw_tbl := List.mem_append_right _ (List.mem_of_getElem? (i := 146) (by decide +kernel))
theorem nw_5 : (.methodLinkNest "WindowCopies$Candidates" 38 ⟨"WindowCopies", "store", "([III)V"⟩ "WindowCopies" : Cond) ∈ lw_tbl := List.mem_append_right _ (List.mem_of_getElem? (i := 316) (by decide +kernel))
theorem nw_6 : (.methodLinkNest "WindowCopies$Candidates" 55 ⟨"WindowCopies", "at", "([II)I"⟩ "WindowCopies" : Cond) ∈ lw_tbl := List.mem_append_right _ (List.mem_of_getElem? (i := 326) (by decide +kernel))
theorem nw_7 : (.methodLinkNest "WindowCopies$Plan" 54 ⟨"WindowCopies", "store", "([III)V"⟩ "WindowCopies" : Cond) ∈ lw_tbl := List.mem_append_right _ (List.mem_of_getElem? (i := 381) (by decide +kernel))
theorem nw_8 : (.methodLinkNest "WindowCopies$Plan" 97 ⟨"WindowCopies", "at", "([II)I"⟩ "WindowCopies" : Cond) ∈ lw_tbl := List.mem_append_right _ (List.mem_of_getElem? (i := 404) (by decide +kernel))
theorem nw_9 : (.methodLinkNest "WindowCopies$Text" 23 ⟨"WindowCopies", "store", "([III)V"⟩ "WindowCopies" : Cond) ∈ lw_tbl := List.mem_append_right _ (List.mem_of_getElem? (i := 550) (by decide +kernel))
theorem nw_10 : (.methodLinkNest "WindowCopies$Text" 19 ⟨"WindowCopies", "at", "([II)I"⟩ "WindowCopies" : Cond) ∈ lw_tbl := List.mem_append_right _ (List.mem_of_getElem? (i := 601) (by decide +kernel))
theorem nw_11 : (.methodLinkNest "WindowCopies$TextReader" 92 ⟨"WindowCopies", "isIn", "(III)Z"⟩ "WindowCopies" : Cond) ∈ lw_tbl := List.mem_append_right _ (List.mem_of_getElem? (i := 614) (by decide +kernel))
theorem nw_12 : (.methodLinkNest "WindowCopies$TextReader" 60 ⟨"WindowCopies", "isLetter", "(I)Z"⟩ "WindowCopies" : Cond) ∈ lw_tbl := List.mem_append_right _ (List.mem_of_getElem? (i := 638) (by decide +kernel))
theorem nest_tbl : ∀ w ∈ nestWs, w ∈ lw_tbl := by
  unfold nestWs
  exact List.forall_mem_cons.mpr ⟨nw_0, List.forall_mem_cons.mpr ⟨nw_1, List.forall_mem_cons.mpr ⟨nw_2, List.forall_mem_cons.mpr ⟨nw_3, List.forall_mem_cons.mpr ⟨nw_4, List.forall_mem_cons.mpr ⟨nw_5, List.forall_mem_cons.mpr ⟨nw_6, List.forall_mem_cons.mpr ⟨nw_7, List.forall_mem_cons.mpr ⟨nw_8, List.forall_mem_cons.mpr ⟨nw_9, List.forall_mem_cons.mpr ⟨nw_10, List.forall_mem_cons.mpr ⟨nw_11, List.forall_mem_cons.mpr ⟨nw_12, (fun w h => by cases h)⟩⟩⟩⟩⟩⟩⟩⟩⟩⟩⟩⟩⟩
theorem nest_tabs : ∀ w ∈ nestWs, w.onTables = true := by
  unfold nestWs
  exact List.forall_mem_cons.mpr ⟨rfl, List.forall_mem_cons.mpr ⟨rfl, List.forall_mem_cons.mpr ⟨rfl, List.forall_mem_cons.mpr ⟨rfl, List.forall_mem_cons.mpr ⟨rfl, List.forall_mem_cons.mpr ⟨rfl, List.forall_mem_cons.mpr ⟨rfl, List.forall_mem_cons.mpr ⟨rfl, List.forall_mem_cons.mpr ⟨rfl, List.forall_mem_cons.mpr ⟨rfl, List.forall_mem_cons.mpr ⟨rfl, List.forall_mem_cons.mpr ⟨rfl, List.forall_mem_cons.mpr ⟨rfl, (fun w h => by cases h)⟩⟩⟩⟩⟩⟩⟩⟩⟩⟩⟩⟩⟩
theorem ls_L : (.laysStatic "WindowCopies" "LOWEST_VALUES" "[I" : Cond) ∈ lw_tbl := List.mem_append_right _ (List.mem_of_getElem? (i := 293) (by decide +kernel))
theorem ls_H : (.laysStatic "WindowCopies" "HIGHEST_VALUES" "[I" : Cond) ∈ lw_tbl := List.mem_append_right _ (List.mem_of_getElem? (i := 296) (by decide +kernel))
theorem ls_F : (.laysStatic "WindowCopies" "FIRST_VALUES" "[I" : Cond) ∈ lw_tbl := List.mem_append_right _ (List.mem_of_getElem? (i := 26) (by decide +kernel))
theorem ls_O : (.arrayOver (.object "WindowCopies$State") : Cond) ∈ lw_tbl := List.mem_append_right _ (List.mem_of_getElem? (i := 51) (by decide +kernel))
theorem vf_start {s : State} {b : Nat} (hts : ∀ w ∈ lw_tbl, w.before #[Value.ref b] s = true) (hgv : (Jvm.Cond.and given_1 narrow_1).before #[Value.ref b] s = true) : ∃ Γ : gX, gb Γ = s.heap.size ∧ Vf Γ s := by
  have hq := flat_of_before _ hgv
  have hg : ∀ w ∈ gT, w.before #[Value.ref b] s = true := fun w hw => hts w (List.mem_filter.mp hw).1
  have hAO : va_AO "WindowCopies$State" s := va_AO.of (hts _ ls_O)
  obtain ⟨dC, dI, gi, gs, hK⟩ := k_start hg hAO
  obtain ⟨tL, l1, l2⟩ := sT_start (n := "LOWEST_VALUES") (f := fLow) (hts _ ls_L) (hg _ q_1) (hq _ (by decide +kernel)) (hq _ (by decide +kernel)) (five (hq _ (by decide +kernel)) (hq _ (by decide +kernel)) (hq _ (by decide +kernel)) (hq _ (by decide +kernel)) (hq _ (by decide +kernel)))
  obtain ⟨tH, h1, h2⟩ := sT_start (n := "HIGHEST_VALUES") (f := fHigh) (hts _ ls_H) (hg _ q_1) (hq _ (by decide +kernel)) (hq _ (by decide +kernel)) (five (hq _ (by decide +kernel)) (hq _ (by decide +kernel)) (hq _ (by decide +kernel)) (hq _ (by decide +kernel)) (hq _ (by decide +kernel)))
  obtain ⟨tF, f1, f2⟩ := sT_start (n := "FIRST_VALUES") (f := fFirst) (hts _ ls_F) (hg _ q_1) (hq _ (by decide +kernel)) (hq _ (by decide +kernel)) (five (hq _ (by decide +kernel)) (hq _ (by decide +kernel)) (hq _ (by decide +kernel)) (hq _ (by decide +kernel)) (hq _ (by decide +kernel)))
  exact ⟨(dC, dI, gi, gs, s.heap.size, tL, tH, tF), rfl, hK, fun w hw => va_Nw.of (nest_tabs w hw) (hts w (nest_tbl w hw)), hAO, ⟨l1, l2⟩, ⟨h1, h2⟩, ⟨f1, f2⟩⟩
