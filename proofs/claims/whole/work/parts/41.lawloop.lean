/-! the law: its loop -/
theorem law_loop {Γ : gX} {X : XT} {b N : Nat} {f : Nat → Int32} (hX : Cx Γ X 4 11 code R_law) (hc : (xR X).cells = 600000) (hs : (xR X).slots = 7302250) (hS : va_X b N f (xs X) (xs X).heap) (hbg : b < gb Γ) (hN : N ≤ 2048) (END : ∀ (M : mI) (L : List (Option Value)), G Γ X 4 (R0, 51, 51, 2382) 719 L [vI 1] M) : ∀ (q : Nat) (i : Int) (σ : sG) (M : mI), (N - i + 4).toNat ≤ q → 0 ≤ i ∧ i ≤ 2052 → OkV σ → CR M σ → MR M σ → G Γ X 4 (R0, 51, 51, 2382) 18 [some (.ref b), some (.ref (gb Γ + 0)), some (.ref (gb Γ + 37)), some (vI i)] [] M := by
  intro q
  induction q with
  | zero =>
    intro i σ M hq hi hO hC hR
    refine g_iload_n hX d_law_18 rfl ?_
    refine g_aload_n hX d_law_19 rfl ?_
    refine g_slen hX hS hbg d_law_20 ?_
    refine g_iconst hX d_law_21 ?_
    refine g_isub hX d_law_22 ?_
    refine g_icmp_gt 718 hX d_law_23 (by decide) (by omega) (by omega) (fun h_23 => ?_) (fun h_23 => absurd h_23 (by omega))
    refine g_iconst hX d_law_718 ?_
    exact END _ _
  | succ q ih =>
    intro i σ M hq hi hO hC hR
    refine g_iload_n hX d_law_18 rfl ?_
    refine g_aload_n hX d_law_19 rfl ?_
    refine g_slen hX hS hbg d_law_20 ?_
    refine g_iconst hX d_law_21 ?_
    refine g_isub hX d_law_22 ?_
    refine g_icmp_gt 718 hX d_law_23 (by decide) (by omega) (by omega) (fun h_23 => ?_) (fun h_23 => ?_)
    · refine g_iconst hX d_law_718 ?_
      exact END _ _
    have NEXT : ∀ (σ' : sG) (M' : mI), OkV σ' → CR M' σ' → MR M' σ' → G Γ X 4 (R0, 51, 51, 2382) 712 [some (.ref b), some (.ref (gb Γ + 0)), some (.ref (gb Γ + 37)), some (vI i)] [] M' := by
      intro σ' M' hO' hC' hR'
      refine g_iinc hX d_law_712 rfl (by decide) ?_
      refine g_goto 18 hX d_law_715 (by decide) ?_
      exact ih (i + 4) σ' M' (by omega) (by omega) hO' hC' hR'
    refine g_aload_n hX d_law_26 rfl ?_
    refine g_iload_n hX d_law_27 rfl ?_
    refine g_sld hX hS hbg hN d_law_28 (by omega) ?_
    refine g_bipush hX d_law_29 rfl ?_
    obtain ⟨z, hz, hzr⟩ : ∃ z : Int, (f i.toNat &&& Int32.ofInt 31) = Int32.ofInt z ∧ iR z := ⟨(f i.toNat &&& Int32.ofInt 31).toInt, (Int32.ofInt_toInt _).symm, i32_R _⟩
    rw [i32_of (f i.toNat)]
    refine g_iand (z := z) hX d_law_31 hz ?_
    by_cases z_32_0 : z = 0
    · refine g_tswI 0 136 hX d_law_32 (by omega) (by omega) (by omega) rfl (by decide) ?_
      refine g_aload_n hX d_law_136 rfl ?_
      refine g_aload_n hX d_law_137 rfl ?_
      refine g_iload_n hX d_law_138 rfl ?_
      refine g_iconst hX d_law_139 ?_
      refine g_iadd hX d_law_140 ?_
      refine g_sld hX hS hbg hN d_law_141 (by omega) ?_
      refine g_callV hX yo_WC_put q_212 d_law_142 (c_WC_put hC hO (i32_R _)) rfl rfl ⟨rfl, by decide⟩ rfl (by decide) (Nat.le_of_ble_eq_true rfl) ⟨by rw [hc]; exact Nat.le_of_ble_eq_true rfl, by rw [hs]; exact Nat.le_of_ble_eq_true rfl⟩ (k_int fun r_142 M_142 ir_142 hp_142 => ?_)
      obtain ⟨er1, hC1, f1⟩ := hp_142
      have hM1 := hR.hi f1
      refine g_aload_n hX d_law_145 rfl ?_
      refine g_aload_n hX d_law_146 rfl ?_
      refine g_iload_n hX d_law_147 rfl ?_
      refine g_iconst hX d_law_148 ?_
      refine g_iadd hX d_law_149 ?_
      refine g_sld hX hS hbg hN d_law_150 (by omega) ?_
      refine g_callV hX yo_Mo_put q_728 d_law_151 (c_Mo_put hM1 (i32_R _)) rfl rfl ⟨rfl, by decide⟩ rfl (by decide) (Nat.le_of_ble_eq_true rfl) ⟨by rw [hc]; exact Nat.le_of_ble_eq_true rfl, by rw [hs]; exact Nat.le_of_ble_eq_true rfl⟩ (k_int fun r_151 M_151 ir_151 hp_151 => ?_)
      obtain ⟨er2, hM2, f2⟩ := hp_151
      have hC2 := hC1.lo f2
      refine g_icmp_eq 712 hX d_law_154 (by decide) (by omega) (by omega) (fun h_154 => ?_) (fun h_154 => ?_)
      · exact NEXT _ _ (ok_put hO _) hC2 hM2
      · exact absurd (er1.trans er2.symm) h_154
    by_cases z_32_1 : z = 1
    · refine g_tswI 1 159 hX d_law_32 (by omega) (by omega) (by omega) rfl (by decide) ?_
      refine g_aload_n hX d_law_159 rfl ?_
      refine g_aload_n hX d_law_160 rfl ?_
      refine g_iload_n hX d_law_161 rfl ?_
      refine g_iconst hX d_law_162 ?_
      refine g_iadd hX d_law_163 ?_
      refine g_sld hX hS hbg hN d_law_164 (by omega) ?_
      refine g_callV hX yo_WC_drop q_267 d_law_165 (c_WC_drop hC hO (i32_R _)) rfl rfl ⟨rfl, by decide⟩ rfl (by decide) (Nat.le_of_ble_eq_true rfl) ⟨by rw [hc]; exact Nat.le_of_ble_eq_true rfl, by rw [hs]; exact Nat.le_of_ble_eq_true rfl⟩ (k_int fun r_165 M_165 ir_165 hp_165 => ?_)
      obtain ⟨er1, hC1, f1⟩ := hp_165
      have hM1 := hR.hi f1
      refine g_aload_n hX d_law_168 rfl ?_
      refine g_aload_n hX d_law_169 rfl ?_
      refine g_iload_n hX d_law_170 rfl ?_
      refine g_iconst hX d_law_171 ?_
      refine g_iadd hX d_law_172 ?_
      refine g_sld hX hS hbg hN d_law_173 (by omega) ?_
      refine g_callV hX yo_Mo_drop q_739 d_law_174 (c_Mo_drop hM1 (i32_R _)) rfl rfl ⟨rfl, by decide⟩ rfl (by decide) (Nat.le_of_ble_eq_true rfl) ⟨by rw [hc]; exact Nat.le_of_ble_eq_true rfl, by rw [hs]; exact Nat.le_of_ble_eq_true rfl⟩ (k_int fun r_174 M_174 ir_174 hp_174 => ?_)
      obtain ⟨er2, hM2, f2⟩ := hp_174
      have hC2 := hC1.lo f2
      refine g_icmp_eq 712 hX d_law_177 (by decide) (by omega) (by omega) (fun h_177 => ?_) (fun h_177 => ?_)
      · exact NEXT _ _ (ok_drop hO _) hC2 hM2
      · exact absurd (er1.trans er2.symm) h_177
    by_cases z_32_2 : z = 2
    · refine g_tswI 2 182 hX d_law_32 (by omega) (by omega) (by omega) rfl (by decide) ?_
      refine g_aload_n hX d_law_182 rfl ?_
      refine g_aload_n hX d_law_183 rfl ?_
      refine g_iload_n hX d_law_184 rfl ?_
      refine g_iconst hX d_law_185 ?_
      refine g_iadd hX d_law_186 ?_
      refine g_sld hX hS hbg hN d_law_187 (by omega) ?_
      refine g_aload_n hX d_law_188 rfl ?_
      refine g_iload_n hX d_law_189 rfl ?_
      refine g_iconst hX d_law_190 ?_
      refine g_iadd hX d_law_191 ?_
      refine g_sld hX hS hbg hN d_law_192 (by omega) ?_
      refine g_callV hX yo_WC_mend q_278 d_law_193 (c_WC_mend hC hO (i32_R _) (i32_R _)) rfl rfl ⟨rfl, by decide⟩ rfl (by decide) (Nat.le_of_ble_eq_true rfl) ⟨by rw [hc]; exact Nat.le_of_ble_eq_true rfl, by rw [hs]; exact Nat.le_of_ble_eq_true rfl⟩ (k_int fun r_193 M_193 ir_193 hp_193 => ?_)
      obtain ⟨er1, hC1, f1⟩ := hp_193
      have hM1 := hR.hi f1
      refine g_aload_n hX d_law_196 rfl ?_
      refine g_aload_n hX d_law_197 rfl ?_
      refine g_iload_n hX d_law_198 rfl ?_
      refine g_iconst hX d_law_199 ?_
      refine g_iadd hX d_law_200 ?_
      refine g_sld hX hS hbg hN d_law_201 (by omega) ?_
      refine g_aload_n hX d_law_202 rfl ?_
      refine g_iload_n hX d_law_203 rfl ?_
      refine g_iconst hX d_law_204 ?_
      refine g_iadd hX d_law_205 ?_
      refine g_sld hX hS hbg hN d_law_206 (by omega) ?_
      refine g_callV hX yo_Mo_mend q_743 d_law_207 (c_Mo_mend hM1 (i32_R _) (i32_R _)) rfl rfl ⟨rfl, by decide⟩ rfl (by decide) (Nat.le_of_ble_eq_true rfl) ⟨by rw [hc]; exact Nat.le_of_ble_eq_true rfl, by rw [hs]; exact Nat.le_of_ble_eq_true rfl⟩ (k_int fun r_207 M_207 ir_207 hp_207 => ?_)
      obtain ⟨er2, hM2, f2⟩ := hp_207
      have hC2 := hC1.lo f2
      refine g_icmp_eq 712 hX d_law_210 (by decide) (by omega) (by omega) (fun h_210 => ?_) (fun h_210 => ?_)
      · exact NEXT _ _ (ok_mend hO _ _) hC2 hM2
      · exact absurd (er1.trans er2.symm) h_210
    by_cases z_32_3 : z = 3
    · refine g_tswI 3 215 hX d_law_32 (by omega) (by omega) (by omega) rfl (by decide) ?_
      refine g_aload_n hX d_law_215 rfl ?_
      refine g_aload_n hX d_law_216 rfl ?_
      refine g_iload_n hX d_law_217 rfl ?_
      refine g_iconst hX d_law_218 ?_
      refine g_iadd hX d_law_219 ?_
      refine g_sld hX hS hbg hN d_law_220 (by omega) ?_
      refine g_aload_n hX d_law_221 rfl ?_
      refine g_iload_n hX d_law_222 rfl ?_
      refine g_iconst hX d_law_223 ?_
      refine g_iadd hX d_law_224 ?_
      refine g_sld hX hS hbg hN d_law_225 (by omega) ?_
      refine g_callV hX yo_WC_set q_288 d_law_226 (c_WC_set hC hO (i32_R _) (i32_R _)) rfl rfl ⟨rfl, by decide⟩ rfl (by decide) (Nat.le_of_ble_eq_true rfl) ⟨by rw [hc]; exact Nat.le_of_ble_eq_true rfl, by rw [hs]; exact Nat.le_of_ble_eq_true rfl⟩ (k_int fun r_226 M_226 ir_226 hp_226 => ?_)
      obtain ⟨er1, hC1, f1⟩ := hp_226
      have hM1 := hR.hi f1
      refine g_aload_n hX d_law_229 rfl ?_
      refine g_aload_n hX d_law_230 rfl ?_
      refine g_iload_n hX d_law_231 rfl ?_
      refine g_iconst hX d_law_232 ?_
      refine g_iadd hX d_law_233 ?_
      refine g_sld hX hS hbg hN d_law_234 (by omega) ?_
      refine g_aload_n hX d_law_235 rfl ?_
      refine g_iload_n hX d_law_236 rfl ?_
      refine g_iconst hX d_law_237 ?_
      refine g_iadd hX d_law_238 ?_
      refine g_sld hX hS hbg hN d_law_239 (by omega) ?_
      refine g_callV hX yo_Mo_set q_751 d_law_240 (c_Mo_set hM1 (i32_R _) (i32_R _)) rfl rfl ⟨rfl, by decide⟩ rfl (by decide) (Nat.le_of_ble_eq_true rfl) ⟨by rw [hc]; exact Nat.le_of_ble_eq_true rfl, by rw [hs]; exact Nat.le_of_ble_eq_true rfl⟩ (k_int fun r_240 M_240 ir_240 hp_240 => ?_)
      obtain ⟨er2, hM2, f2⟩ := hp_240
      have hC2 := hC1.lo f2
      refine g_icmp_eq 712 hX d_law_243 (by decide) (by omega) (by omega) (fun h_243 => ?_) (fun h_243 => ?_)
      · exact NEXT _ _ (ok_set hO _ _) hC2 hM2
      · exact absurd (er1.trans er2.symm) h_243
    by_cases z_32_4 : z = 4
    · refine g_tswI 4 248 hX d_law_32 (by omega) (by omega) (by omega) rfl (by decide) ?_
      refine g_aload_n hX d_law_248 rfl ?_
      refine g_aload_n hX d_law_249 rfl ?_
      refine g_iload_n hX d_law_250 rfl ?_
      refine g_iconst hX d_law_251 ?_
      refine g_iadd hX d_law_252 ?_
      refine g_sld hX hS hbg hN d_law_253 (by omega) ?_
      refine g_callV hX yo_WC_letter q_299 d_law_254 (c_WC_letter hC (i32_R _)) rfl rfl ⟨rfl, by decide⟩ rfl (by decide) (Nat.le_of_ble_eq_true rfl) ⟨by rw [hc]; exact Nat.le_of_ble_eq_true rfl, by rw [hs]; exact Nat.le_of_ble_eq_true rfl⟩ (k_int fun r_254 M_254 ir_254 hp_254 => ?_)
      obtain ⟨er1, eM1⟩ := hp_254
      subst eM1
      have hC1 := hC
      have hM1 := hR
      refine g_aload_n hX d_law_257 rfl ?_
      refine g_aload_n hX d_law_258 rfl ?_
      refine g_iload_n hX d_law_259 rfl ?_
      refine g_iconst hX d_law_260 ?_
      refine g_iadd hX d_law_261 ?_
      refine g_sld hX hS hbg hN d_law_262 (by omega) ?_
      refine g_callV hX yo_Mo_letter q_761 d_law_263 (c_Mo_letter hM1 (i32_R _)) rfl rfl ⟨rfl, by decide⟩ rfl (by decide) (Nat.le_of_ble_eq_true rfl) ⟨by rw [hc]; exact Nat.le_of_ble_eq_true rfl, by rw [hs]; exact Nat.le_of_ble_eq_true rfl⟩ (k_int fun r_263 M_263 ir_263 hp_263 => ?_)
      obtain ⟨er2, eM2⟩ := hp_263
      subst eM2
      have hC2 := hC1
      have hM2 := hM1
      refine g_icmp_eq 712 hX d_law_266 (by decide) (by omega) (by omega) (fun h_266 => ?_) (fun h_266 => ?_)
      · exact NEXT _ _ hO hC2 hM2
      · exact absurd (er1.trans er2.symm) h_266
    by_cases z_32_5 : z = 5
    · refine g_tswI 5 271 hX d_law_32 (by omega) (by omega) (by omega) rfl (by decide) ?_
      refine g_aload_n hX d_law_271 rfl ?_
      refine g_aload_n hX d_law_272 rfl ?_
      refine g_iload_n hX d_law_273 rfl ?_
      refine g_iconst hX d_law_274 ?_
      refine g_iadd hX d_law_275 ?_
      refine g_sld hX hS hbg hN d_law_276 (by omega) ?_
      refine g_aload_n hX d_law_277 rfl ?_
      refine g_iload_n hX d_law_278 rfl ?_
      refine g_iconst hX d_law_279 ?_
      refine g_iadd hX d_law_280 ?_
      refine g_sld hX hS hbg hN d_law_281 (by omega) ?_
      refine g_aload_n hX d_law_282 rfl ?_
      refine g_iload_n hX d_law_283 rfl ?_
      refine g_iconst hX d_law_284 ?_
      refine g_iadd hX d_law_285 ?_
      refine g_sld hX hS hbg hN d_law_286 (by omega) ?_
      refine g_callV hX yo_WC_candidate q_303 d_law_287 (c_WC_candidate hC hO (i32_R _) (i32_R _) (i32_R _)) rfl rfl ⟨rfl, by decide⟩ rfl (by decide) (Nat.le_of_ble_eq_true rfl) ⟨by rw [hc]; exact Nat.le_of_ble_eq_true rfl, by rw [hs]; exact Nat.le_of_ble_eq_true rfl⟩ (k_int fun r_287 M_287 ir_287 hp_287 => ?_)
      obtain ⟨er1, hC1, f1⟩ := hp_287
      have hM1 := hR.hi f1
      refine g_aload_n hX d_law_290 rfl ?_
      refine g_aload_n hX d_law_291 rfl ?_
      refine g_iload_n hX d_law_292 rfl ?_
      refine g_iconst hX d_law_293 ?_
      refine g_iadd hX d_law_294 ?_
      refine g_sld hX hS hbg hN d_law_295 (by omega) ?_
      refine g_aload_n hX d_law_296 rfl ?_
      refine g_iload_n hX d_law_297 rfl ?_
      refine g_iconst hX d_law_298 ?_
      refine g_iadd hX d_law_299 ?_
      refine g_sld hX hS hbg hN d_law_300 (by omega) ?_
      refine g_aload_n hX d_law_301 rfl ?_
      refine g_iload_n hX d_law_302 rfl ?_
      refine g_iconst hX d_law_303 ?_
      refine g_iadd hX d_law_304 ?_
      refine g_sld hX hS hbg hN d_law_305 (by omega) ?_
      refine g_callV hX yo_Mo_candidate q_765 d_law_306 (c_Mo_candidate hM1 hO (i32_R _) (i32_R _) (i32_R _)) rfl rfl ⟨rfl, by decide⟩ rfl (by decide) (Nat.le_of_ble_eq_true rfl) ⟨by rw [hc]; exact Nat.le_of_ble_eq_true rfl, by rw [hs]; exact Nat.le_of_ble_eq_true rfl⟩ (k_int fun r_306 M_306 ir_306 hp_306 => ?_)
      obtain ⟨er2, eM2⟩ := hp_306
      subst eM2
      have hC2 := hC1
      have hM2 := hM1
      refine g_icmp_eq 712 hX d_law_309 (by decide) (by omega) (by omega) (fun h_309 => ?_) (fun h_309 => ?_)
      · exact NEXT _ _ hO hC2 hM2
      · exact absurd (er1.trans er2.symm) h_309
    by_cases z_32_6 : z = 6
    · refine g_tswI 6 314 hX d_law_32 (by omega) (by omega) (by omega) rfl (by decide) ?_
      refine g_aload_n hX d_law_314 rfl ?_
      refine g_aload_n hX d_law_315 rfl ?_
      refine g_iload_n hX d_law_316 rfl ?_
      refine g_iconst hX d_law_317 ?_
      refine g_iadd hX d_law_318 ?_
      refine g_sld hX hS hbg hN d_law_319 (by omega) ?_
      refine g_aload_n hX d_law_320 rfl ?_
      refine g_iload_n hX d_law_321 rfl ?_
      refine g_iconst hX d_law_322 ?_
      refine g_iadd hX d_law_323 ?_
      refine g_sld hX hS hbg hN d_law_324 (by omega) ?_
      refine g_callV hX yo_WC_found q_343 d_law_325 (c_WC_found hC hO (i32_R _) (i32_R _)) rfl rfl ⟨rfl, by decide⟩ rfl (by decide) (Nat.le_of_ble_eq_true rfl) ⟨by rw [hc]; exact Nat.le_of_ble_eq_true rfl, by rw [hs]; exact Nat.le_of_ble_eq_true rfl⟩ (k_int fun r_325 M_325 ir_325 hp_325 => ?_)
      obtain ⟨er1, hC1, f1⟩ := hp_325
      have hM1 := hR.hi f1
      refine g_aload_n hX d_law_328 rfl ?_
      refine g_aload_n hX d_law_329 rfl ?_
      refine g_iload_n hX d_law_330 rfl ?_
      refine g_iconst hX d_law_331 ?_
      refine g_iadd hX d_law_332 ?_
      refine g_sld hX hS hbg hN d_law_333 (by omega) ?_
      refine g_aload_n hX d_law_334 rfl ?_
      refine g_iload_n hX d_law_335 rfl ?_
      refine g_iconst hX d_law_336 ?_
      refine g_iadd hX d_law_337 ?_
      refine g_sld hX hS hbg hN d_law_338 (by omega) ?_
      refine g_callV hX yo_Mo_found q_781 d_law_339 (c_Mo_found hM1 hO (i32_R _) (i32_R _)) rfl rfl ⟨rfl, by decide⟩ rfl (by decide) (Nat.le_of_ble_eq_true rfl) ⟨by rw [hc]; exact Nat.le_of_ble_eq_true rfl, by rw [hs]; exact Nat.le_of_ble_eq_true rfl⟩ (k_int fun r_339 M_339 ir_339 hp_339 => ?_)
      obtain ⟨er2, eM2⟩ := hp_339
      subst eM2
      have hC2 := hC1
      have hM2 := hM1
      refine g_icmp_eq 712 hX d_law_342 (by decide) (by omega) (by omega) (fun h_342 => ?_) (fun h_342 => ?_)
      · exact NEXT _ _ hO hC2 hM2
      · exact absurd (er1.trans er2.symm) h_342
    by_cases z_32_7 : z = 7
    · refine g_tswI 7 347 hX d_law_32 (by omega) (by omega) (by omega) rfl (by decide) ?_
      refine g_aload_n hX d_law_347 rfl ?_
      refine g_aload_n hX d_law_348 rfl ?_
      refine g_iload_n hX d_law_349 rfl ?_
      refine g_iconst hX d_law_350 ?_
      refine g_iadd hX d_law_351 ?_
      refine g_sld hX hS hbg hN d_law_352 (by omega) ?_
      refine g_aload_n hX d_law_353 rfl ?_
      refine g_iload_n hX d_law_354 rfl ?_
      refine g_iconst hX d_law_355 ?_
      refine g_iadd hX d_law_356 ?_
      refine g_sld hX hS hbg hN d_law_357 (by omega) ?_
      refine g_aload_n hX d_law_358 rfl ?_
      refine g_iload_n hX d_law_359 rfl ?_
      refine g_iconst hX d_law_360 ?_
      refine g_iadd hX d_law_361 ?_
      refine g_sld hX hS hbg hN d_law_362 (by omega) ?_
      refine g_callV hX yo_WC_isCopy q_360 d_law_363 (c_WC_isCopy hC hO (i32_R _) (i32_R _) (i32_R _)) rfl rfl ⟨rfl, by decide⟩ rfl (by decide) (Nat.le_of_ble_eq_true rfl) ⟨by rw [hc]; exact Nat.le_of_ble_eq_true rfl, by rw [hs]; exact Nat.le_of_ble_eq_true rfl⟩ (k_int fun r_363 M_363 ir_363 hp_363 => ?_)
      obtain ⟨er1, eM1⟩ := hp_363
      subst eM1
      have hC1 := hC
      have hM1 := hR
      refine g_aload_n hX d_law_366 rfl ?_
      refine g_aload_n hX d_law_367 rfl ?_
      refine g_iload_n hX d_law_368 rfl ?_
      refine g_iconst hX d_law_369 ?_
      refine g_iadd hX d_law_370 ?_
      refine g_sld hX hS hbg hN d_law_371 (by omega) ?_
      refine g_aload_n hX d_law_372 rfl ?_
      refine g_iload_n hX d_law_373 rfl ?_
      refine g_iconst hX d_law_374 ?_
      refine g_iadd hX d_law_375 ?_
      refine g_sld hX hS hbg hN d_law_376 (by omega) ?_
      refine g_aload_n hX d_law_377 rfl ?_
      refine g_iload_n hX d_law_378 rfl ?_
      refine g_iconst hX d_law_379 ?_
      refine g_iadd hX d_law_380 ?_
      refine g_sld hX hS hbg hN d_law_381 (by omega) ?_
      refine g_callV hX yo_Mo_isCopy q_797 d_law_382 (c_Mo_isCopy hM1 hO (i32_R _) (i32_R _) (i32_R _)) rfl rfl ⟨rfl, by decide⟩ rfl (by decide) (Nat.le_of_ble_eq_true rfl) ⟨by rw [hc]; exact Nat.le_of_ble_eq_true rfl, by rw [hs]; exact Nat.le_of_ble_eq_true rfl⟩ (k_int fun r_382 M_382 ir_382 hp_382 => ?_)
      obtain ⟨er2, eM2⟩ := hp_382
      subst eM2
      have hC2 := hC1
      have hM2 := hM1
      refine g_icmp_eq 712 hX d_law_385 (by decide) (by omega) (by omega) (fun h_385 => ?_) (fun h_385 => ?_)
      · exact NEXT _ _ hO hC2 hM2
      · exact absurd (er1.trans er2.symm) h_385
    by_cases z_32_8 : z = 8
    · refine g_tswI 8 390 hX d_law_32 (by omega) (by omega) (by omega) rfl (by decide) ?_
      refine g_aload_n hX d_law_390 rfl ?_
      refine g_aload_n hX d_law_391 rfl ?_
      refine g_iload_n hX d_law_392 rfl ?_
      refine g_iconst hX d_law_393 ?_
      refine g_iadd hX d_law_394 ?_
      refine g_sld hX hS hbg hN d_law_395 (by omega) ?_
      refine g_aload_n hX d_law_396 rfl ?_
      refine g_iload_n hX d_law_397 rfl ?_
      refine g_iconst hX d_law_398 ?_
      refine g_iadd hX d_law_399 ?_
      refine g_sld hX hS hbg hN d_law_400 (by omega) ?_
      refine g_aload_n hX d_law_401 rfl ?_
      refine g_iload_n hX d_law_402 rfl ?_
      refine g_iconst hX d_law_403 ?_
      refine g_iadd hX d_law_404 ?_
      refine g_sld hX hS hbg hN d_law_405 (by omega) ?_
      refine g_callV hX yo_WC_part q_369 d_law_406 (c_WC_part hC hO (i32_R _) (i32_R _) (i32_R _)) rfl rfl ⟨rfl, by decide⟩ rfl (by decide) (Nat.le_of_ble_eq_true rfl) ⟨by rw [hc]; exact Nat.le_of_ble_eq_true rfl, by rw [hs]; exact Nat.le_of_ble_eq_true rfl⟩ (k_int fun r_406 M_406 ir_406 hp_406 => ?_)
      obtain ⟨er1, hC1, f1⟩ := hp_406
      have hM1 := hR.hi f1
      refine g_aload_n hX d_law_409 rfl ?_
      refine g_aload_n hX d_law_410 rfl ?_
      refine g_iload_n hX d_law_411 rfl ?_
      refine g_iconst hX d_law_412 ?_
      refine g_iadd hX d_law_413 ?_
      refine g_sld hX hS hbg hN d_law_414 (by omega) ?_
      refine g_aload_n hX d_law_415 rfl ?_
      refine g_iload_n hX d_law_416 rfl ?_
      refine g_iconst hX d_law_417 ?_
      refine g_iadd hX d_law_418 ?_
      refine g_sld hX hS hbg hN d_law_419 (by omega) ?_
      refine g_aload_n hX d_law_420 rfl ?_
      refine g_iload_n hX d_law_421 rfl ?_
      refine g_iconst hX d_law_422 ?_
      refine g_iadd hX d_law_423 ?_
      refine g_sld hX hS hbg hN d_law_424 (by omega) ?_
      refine g_callV hX yo_Mo_part q_801 d_law_425 (c_Mo_part hM1 hO (i32_R _) (i32_R _) (i32_R _)) rfl rfl ⟨rfl, by decide⟩ rfl (by decide) (Nat.le_of_ble_eq_true rfl) ⟨by rw [hc]; exact Nat.le_of_ble_eq_true rfl, by rw [hs]; exact Nat.le_of_ble_eq_true rfl⟩ (k_int fun r_425 M_425 ir_425 hp_425 => ?_)
      obtain ⟨er2, hM2, f2⟩ := hp_425
      have hC2 := hC1.lo f2
      refine g_icmp_eq 712 hX d_law_428 (by decide) (by omega) (by omega) (fun h_428 => ?_) (fun h_428 => ?_)
      · exact NEXT _ _ hO hC2 hM2
      · exact absurd (er1.trans er2.symm) h_428
    by_cases z_32_9 : z = 9
    · refine g_tswI 9 433 hX d_law_32 (by omega) (by omega) (by omega) rfl (by decide) ?_
      refine g_aload_n hX d_law_433 rfl ?_
      refine g_aload_n hX d_law_434 rfl ?_
      refine g_iload_n hX d_law_435 rfl ?_
      refine g_iconst hX d_law_436 ?_
      refine g_iadd hX d_law_437 ?_
      refine g_sld hX hS hbg hN d_law_438 (by omega) ?_
      refine g_aload_n hX d_law_439 rfl ?_
      refine g_iload_n hX d_law_440 rfl ?_
      refine g_iconst hX d_law_441 ?_
      refine g_iadd hX d_law_442 ?_
      refine g_sld hX hS hbg hN d_law_443 (by omega) ?_
      refine g_callV hX yo_WC_total q_438 d_law_444 (c_WC_total hC hO (i32_R _) (i32_R _)) rfl rfl ⟨rfl, by decide⟩ rfl (by decide) (Nat.le_of_ble_eq_true rfl) ⟨by rw [hc]; exact Nat.le_of_ble_eq_true rfl, by rw [hs]; exact Nat.le_of_ble_eq_true rfl⟩ (k_int fun r_444 M_444 ir_444 hp_444 => ?_)
      obtain ⟨er1, hC1, f1⟩ := hp_444
      have hM1 := hR.hi f1
      refine g_aload_n hX d_law_447 rfl ?_
      refine g_aload_n hX d_law_448 rfl ?_
      refine g_iload_n hX d_law_449 rfl ?_
      refine g_iconst hX d_law_450 ?_
      refine g_iadd hX d_law_451 ?_
      refine g_sld hX hS hbg hN d_law_452 (by omega) ?_
      refine g_aload_n hX d_law_453 rfl ?_
      refine g_iload_n hX d_law_454 rfl ?_
      refine g_iconst hX d_law_455 ?_
      refine g_iadd hX d_law_456 ?_
      refine g_sld hX hS hbg hN d_law_457 (by omega) ?_
      refine g_callV hX yo_Mo_total q_825 d_law_458 (c_Mo_total hM1 hO (i32_R _) (i32_R _)) rfl rfl ⟨rfl, by decide⟩ rfl (by decide) (Nat.le_of_ble_eq_true rfl) ⟨by rw [hc]; exact Nat.le_of_ble_eq_true rfl, by rw [hs]; exact Nat.le_of_ble_eq_true rfl⟩ (k_int fun r_458 M_458 ir_458 hp_458 => ?_)
      obtain ⟨er2, hM2, f2⟩ := hp_458
      have hC2 := hC1.lo f2
      refine g_icmp_eq 712 hX d_law_461 (by decide) (by omega) (by omega) (fun h_461 => ?_) (fun h_461 => ?_)
      · exact NEXT _ _ hO hC2 hM2
      · exact absurd (er1.trans er2.symm) h_461
    by_cases z_32_10 : z = 10
    · refine g_tswI 10 466 hX d_law_32 (by omega) (by omega) (by omega) rfl (by decide) ?_
      refine g_aload_n hX d_law_466 rfl ?_
      refine g_aload_n hX d_law_467 rfl ?_
      refine g_iload_n hX d_law_468 rfl ?_
      refine g_iconst hX d_law_469 ?_
      refine g_iadd hX d_law_470 ?_
      refine g_sld hX hS hbg hN d_law_471 (by omega) ?_
      refine g_aload_n hX d_law_472 rfl ?_
      refine g_iload_n hX d_law_473 rfl ?_
      refine g_iconst hX d_law_474 ?_
      refine g_iadd hX d_law_475 ?_
      refine g_sld hX hS hbg hN d_law_476 (by omega) ?_
      refine g_callV hX yo_WC_partAt q_458 d_law_477 (c_WC_partAt hC hO (i32_R _) (i32_R _)) rfl rfl ⟨rfl, by decide⟩ rfl (by decide) (Nat.le_of_ble_eq_true rfl) ⟨by rw [hc]; exact Nat.le_of_ble_eq_true rfl, by rw [hs]; exact Nat.le_of_ble_eq_true rfl⟩ (k_int fun r_477 M_477 ir_477 hp_477 => ?_)
      obtain ⟨er1, hC1, f1⟩ := hp_477
      have hM1 := hR.hi f1
      refine g_aload_n hX d_law_480 rfl ?_
      refine g_aload_n hX d_law_481 rfl ?_
      refine g_iload_n hX d_law_482 rfl ?_
      refine g_iconst hX d_law_483 ?_
      refine g_iadd hX d_law_484 ?_
      refine g_sld hX hS hbg hN d_law_485 (by omega) ?_
      refine g_aload_n hX d_law_486 rfl ?_
      refine g_iload_n hX d_law_487 rfl ?_
      refine g_iconst hX d_law_488 ?_
      refine g_iadd hX d_law_489 ?_
      refine g_sld hX hS hbg hN d_law_490 (by omega) ?_
      refine g_callV hX yo_Mo_partAt q_833 d_law_491 (c_Mo_partAt hM1 hO (i32_R _) (i32_R _)) rfl rfl ⟨rfl, by decide⟩ rfl (by decide) (Nat.le_of_ble_eq_true rfl) ⟨by rw [hc]; exact Nat.le_of_ble_eq_true rfl, by rw [hs]; exact Nat.le_of_ble_eq_true rfl⟩ (k_int fun r_491 M_491 ir_491 hp_491 => ?_)
      obtain ⟨er2, hM2, f2⟩ := hp_491
      have hC2 := hC1.lo f2
      refine g_icmp_eq 712 hX d_law_494 (by decide) (by omega) (by omega) (fun h_494 => ?_) (fun h_494 => ?_)
      · exact NEXT _ _ hO hC2 hM2
      · exact absurd (er1.trans er2.symm) h_494
    by_cases z_32_11 : z = 11
    · refine g_tswI 11 499 hX d_law_32 (by omega) (by omega) (by omega) rfl (by decide) ?_
      refine g_aload_n hX d_law_499 rfl ?_
      refine g_aload_n hX d_law_500 rfl ?_
      refine g_iload_n hX d_law_501 rfl ?_
      refine g_iconst hX d_law_502 ?_
      refine g_iadd hX d_law_503 ?_
      refine g_sld hX hS hbg hN d_law_504 (by omega) ?_
      refine g_aload_n hX d_law_505 rfl ?_
      refine g_iload_n hX d_law_506 rfl ?_
      refine g_iconst hX d_law_507 ?_
      refine g_iadd hX d_law_508 ?_
      refine g_sld hX hS hbg hN d_law_509 (by omega) ?_
      refine g_callV hX yo_WC_parting q_467 d_law_510 (c_WC_parting hC hO (i32_R _) (i32_R _)) rfl rfl ⟨rfl, by decide⟩ rfl (by decide) (Nat.le_of_ble_eq_true rfl) ⟨by rw [hc]; exact Nat.le_of_ble_eq_true rfl, by rw [hs]; exact Nat.le_of_ble_eq_true rfl⟩ (k_int fun r_510 M_510 ir_510 hp_510 => ?_)
      obtain ⟨er1, hC1, f1⟩ := hp_510
      have hM1 := hR.hi f1
      refine g_aload_n hX d_law_513 rfl ?_
      refine g_aload_n hX d_law_514 rfl ?_
      refine g_iload_n hX d_law_515 rfl ?_
      refine g_iconst hX d_law_516 ?_
      refine g_iadd hX d_law_517 ?_
      refine g_sld hX hS hbg hN d_law_518 (by omega) ?_
      refine g_aload_n hX d_law_519 rfl ?_
      refine g_iload_n hX d_law_520 rfl ?_
      refine g_iconst hX d_law_521 ?_
      refine g_iadd hX d_law_522 ?_
      refine g_sld hX hS hbg hN d_law_523 (by omega) ?_
      refine g_callV hX yo_Mo_parting q_837 d_law_524 (c_Mo_parting hM1 hO (i32_R _) (i32_R _)) rfl rfl ⟨rfl, by decide⟩ rfl (by decide) (Nat.le_of_ble_eq_true rfl) ⟨by rw [hc]; exact Nat.le_of_ble_eq_true rfl, by rw [hs]; exact Nat.le_of_ble_eq_true rfl⟩ (k_int fun r_524 M_524 ir_524 hp_524 => ?_)
      obtain ⟨er2, hM2, f2⟩ := hp_524
      have hC2 := hC1.lo f2
      refine g_icmp_eq 712 hX d_law_527 (by decide) (by omega) (by omega) (fun h_527 => ?_) (fun h_527 => ?_)
      · exact NEXT _ _ hO hC2 hM2
      · exact absurd (er1.trans er2.symm) h_527
    by_cases z_32_12 : z = 12
    · refine g_tswI 12 532 hX d_law_32 (by omega) (by omega) (by omega) rfl (by decide) ?_
      refine g_aload_n hX d_law_532 rfl ?_
      refine g_aload_n hX d_law_533 rfl ?_
      refine g_iload_n hX d_law_534 rfl ?_
      refine g_iconst hX d_law_535 ?_
      refine g_iadd hX d_law_536 ?_
      refine g_sld hX hS hbg hN d_law_537 (by omega) ?_
      refine g_callV hX yo_WC_repeat q_475 d_law_538 (c_WC_repeat hC (i32_R _)) rfl rfl ⟨rfl, by decide⟩ rfl (by decide) (Nat.le_of_ble_eq_true rfl) ⟨by rw [hc]; exact Nat.le_of_ble_eq_true rfl, by rw [hs]; exact Nat.le_of_ble_eq_true rfl⟩ (k_int fun r_538 M_538 ir_538 hp_538 => ?_)
      obtain ⟨er1, hC1, f1⟩ := hp_538
      have hM1 := hR.hi f1
      refine g_aload_n hX d_law_541 rfl ?_
      refine g_aload_n hX d_law_542 rfl ?_
      refine g_iload_n hX d_law_543 rfl ?_
      refine g_iconst hX d_law_544 ?_
      refine g_iadd hX d_law_545 ?_
      refine g_sld hX hS hbg hN d_law_546 (by omega) ?_
      refine g_callV hX yo_Mo_repeat q_841 d_law_547 (c_Mo_repeat hM1 (i32_R _)) rfl rfl ⟨rfl, by decide⟩ rfl (by decide) (Nat.le_of_ble_eq_true rfl) ⟨by rw [hc]; exact Nat.le_of_ble_eq_true rfl, by rw [hs]; exact Nat.le_of_ble_eq_true rfl⟩ (k_int fun r_547 M_547 ir_547 hp_547 => ?_)
      obtain ⟨er2, eM2⟩ := hp_547
      subst eM2
      have hC2 := hC1
      have hM2 := hM1
      refine g_icmp_eq 712 hX d_law_550 (by decide) (by omega) (by omega) (fun h_550 => ?_) (fun h_550 => ?_)
      · exact NEXT _ _ hO hC2 hM2
      · exact absurd (er1.trans er2.symm) h_550
    by_cases z_32_13 : z = 13
    · refine g_tswI 13 555 hX d_law_32 (by omega) (by omega) (by omega) rfl (by decide) ?_
      refine g_aload_n hX d_law_555 rfl ?_
      refine g_aload_n hX d_law_556 rfl ?_
      refine g_iload_n hX d_law_557 rfl ?_
      refine g_iconst hX d_law_558 ?_
      refine g_iadd hX d_law_559 ?_
      refine g_sld hX hS hbg hN d_law_560 (by omega) ?_
      refine g_callV hX yo_WC_count q_497 d_law_561 (c_WC_count hC hO (i32_R _)) rfl rfl ⟨rfl, by decide⟩ rfl (by decide) (Nat.le_of_ble_eq_true rfl) ⟨by rw [hc]; exact Nat.le_of_ble_eq_true rfl, by rw [hs]; exact Nat.le_of_ble_eq_true rfl⟩ (k_int fun r_561 M_561 ir_561 hp_561 => ?_)
      obtain ⟨er1, hC1, f1⟩ := hp_561
      have hM1 := hR.hi f1
      refine g_aload_n hX d_law_564 rfl ?_
      refine g_aload_n hX d_law_565 rfl ?_
      refine g_iload_n hX d_law_566 rfl ?_
      refine g_iconst hX d_law_567 ?_
      refine g_iadd hX d_law_568 ?_
      refine g_sld hX hS hbg hN d_law_569 (by omega) ?_
      refine g_callV hX yo_Mo_count q_849 d_law_570 (c_Mo_count hM1 hO (i32_R _)) rfl rfl ⟨rfl, by decide⟩ rfl (by decide) (Nat.le_of_ble_eq_true rfl) ⟨by rw [hc]; exact Nat.le_of_ble_eq_true rfl, by rw [hs]; exact Nat.le_of_ble_eq_true rfl⟩ (k_int fun r_570 M_570 ir_570 hp_570 => ?_)
      obtain ⟨er2, hM2, f2⟩ := hp_570
      have hC2 := hC1.lo f2
      refine g_icmp_eq 712 hX d_law_573 (by decide) (by omega) (by omega) (fun h_573 => ?_) (fun h_573 => ?_)
      · exact NEXT _ _ hO hC2 hM2
      · exact absurd (er1.trans er2.symm) h_573
    by_cases z_32_14 : z = 14
    · refine g_tswI 14 578 hX d_law_32 (by omega) (by omega) (by omega) rfl (by decide) ?_
      refine g_aload_n hX d_law_578 rfl ?_
      refine g_callV hX yo_WC_keep q_525 d_law_579 (c_WC_keep hC) rfl rfl ⟨rfl, by decide⟩ rfl (by decide) (Nat.le_of_ble_eq_true rfl) ⟨by rw [hc]; exact Nat.le_of_ble_eq_true rfl, by rw [hs]; exact Nat.le_of_ble_eq_true rfl⟩ (k_int fun r_579 M_579 ir_579 hp_579 => ?_)
      obtain ⟨er1, hC1, f1⟩ := hp_579
      have hM1 := hR.hi f1
      refine g_aload_n hX d_law_582 rfl ?_
      refine g_callV hX yo_Mo_keep q_861 d_law_583 (c_Mo_keep hM1) rfl rfl ⟨rfl, by decide⟩ rfl (by decide) (Nat.le_of_ble_eq_true rfl) ⟨by rw [hc]; exact Nat.le_of_ble_eq_true rfl, by rw [hs]; exact Nat.le_of_ble_eq_true rfl⟩ (k_int fun r_583 M_583 ir_583 hp_583 => ?_)
      obtain ⟨er2, hM2, f2⟩ := hp_583
      have hC2 := hC1.lo f2
      refine g_icmp_eq 712 hX d_law_586 (by decide) (by omega) (by omega) (fun h_586 => ?_) (fun h_586 => ?_)
      · exact NEXT _ _ (ok_keep hO) hC2 hM2
      · exact absurd (er1.trans er2.symm) h_586
    by_cases z_32_15 : z = 15
    · refine g_tswI 15 591 hX d_law_32 (by omega) (by omega) (by omega) rfl (by decide) ?_
      refine g_aload_n hX d_law_591 rfl ?_
      refine g_callV hX yo_WC_restore q_530 d_law_592 (c_WC_restore hC) rfl rfl ⟨rfl, by decide⟩ rfl (by decide) (Nat.le_of_ble_eq_true rfl) ⟨by rw [hc]; exact Nat.le_of_ble_eq_true rfl, by rw [hs]; exact Nat.le_of_ble_eq_true rfl⟩ (k_int fun r_592 M_592 ir_592 hp_592 => ?_)
      obtain ⟨er1, hC1, f1⟩ := hp_592
      have hM1 := hR.hi f1
      refine g_aload_n hX d_law_595 rfl ?_
      refine g_callV hX yo_Mo_restore q_868 d_law_596 (c_Mo_restore hM1) rfl rfl ⟨rfl, by decide⟩ rfl (by decide) (Nat.le_of_ble_eq_true rfl) ⟨by rw [hc]; exact Nat.le_of_ble_eq_true rfl, by rw [hs]; exact Nat.le_of_ble_eq_true rfl⟩ (k_int fun r_596 M_596 ir_596 hp_596 => ?_)
      obtain ⟨er2, hM2, f2⟩ := hp_596
      have hC2 := hC1.lo f2
      refine g_icmp_eq 712 hX d_law_599 (by decide) (by omega) (by omega) (fun h_599 => ?_) (fun h_599 => ?_)
      · exact NEXT _ _ (ok_restore hO) hC2 hM2
      · exact absurd (er1.trans er2.symm) h_599
    by_cases z_32_16 : z = 16
    · refine g_tswI 16 604 hX d_law_32 (by omega) (by omega) (by omega) rfl (by decide) ?_
      refine g_aload_n hX d_law_604 rfl ?_
      refine g_callV hX yo_WC_undo q_534 d_law_605 (c_WC_undo hC) rfl rfl ⟨rfl, by decide⟩ rfl (by decide) (Nat.le_of_ble_eq_true rfl) ⟨by rw [hc]; exact Nat.le_of_ble_eq_true rfl, by rw [hs]; exact Nat.le_of_ble_eq_true rfl⟩ (k_int fun r_605 M_605 ir_605 hp_605 => ?_)
      obtain ⟨er1, hC1, f1⟩ := hp_605
      have hM1 := hR.hi f1
      refine g_aload_n hX d_law_608 rfl ?_
      refine g_callV hX yo_Mo_undo q_872 d_law_609 (c_Mo_undo hM1) rfl rfl ⟨rfl, by decide⟩ rfl (by decide) (Nat.le_of_ble_eq_true rfl) ⟨by rw [hc]; exact Nat.le_of_ble_eq_true rfl, by rw [hs]; exact Nat.le_of_ble_eq_true rfl⟩ (k_int fun r_609 M_609 ir_609 hp_609 => ?_)
      obtain ⟨er2, hM2, f2⟩ := hp_609
      have hC2 := hC1.lo f2
      refine g_icmp_eq 712 hX d_law_612 (by decide) (by omega) (by omega) (fun h_612 => ?_) (fun h_612 => ?_)
      · exact NEXT _ _ (ok_undo hO) hC2 hM2
      · exact absurd (er1.trans er2.symm) h_612
    by_cases z_32_17 : z = 17
    · refine g_tswI 17 617 hX d_law_32 (by omega) (by omega) (by omega) rfl (by decide) ?_
      refine g_aload_n hX d_law_617 rfl ?_
      refine g_aload_n hX d_law_618 rfl ?_
      refine g_iload_n hX d_law_619 rfl ?_
      refine g_iconst hX d_law_620 ?_
      refine g_iadd hX d_law_621 ?_
      refine g_sld hX hS hbg hN d_law_622 (by omega) ?_
      refine g_callV hX yo_WC_type q_542 d_law_623 (c_WC_type hC (i32_R _)) rfl rfl ⟨rfl, by decide⟩ rfl (by decide) (Nat.le_of_ble_eq_true rfl) ⟨by rw [hc]; exact Nat.le_of_ble_eq_true rfl, by rw [hs]; exact Nat.le_of_ble_eq_true rfl⟩ (k_int fun r_623 M_623 ir_623 hp_623 => ?_)
      obtain ⟨er1, hC1, f1⟩ := hp_623
      have hM1 := hR.hi f1
      refine g_aload_n hX d_law_626 rfl ?_
      refine g_aload_n hX d_law_627 rfl ?_
      refine g_iload_n hX d_law_628 rfl ?_
      refine g_iconst hX d_law_629 ?_
      refine g_iadd hX d_law_630 ?_
      refine g_sld hX hS hbg hN d_law_631 (by omega) ?_
      refine g_callV hX yo_Mo_type q_876 d_law_632 (c_Mo_type hM1 (i32_R _)) rfl rfl ⟨rfl, by decide⟩ rfl (by decide) (Nat.le_of_ble_eq_true rfl) ⟨by rw [hc]; exact Nat.le_of_ble_eq_true rfl, by rw [hs]; exact Nat.le_of_ble_eq_true rfl⟩ (k_int fun r_632 M_632 ir_632 hp_632 => ?_)
      obtain ⟨er2, hM2, f2⟩ := hp_632
      have hC2 := hC1.lo f2
      refine g_icmp_eq 712 hX d_law_635 (by decide) (by omega) (by omega) (fun h_635 => ?_) (fun h_635 => ?_)
      · exact NEXT _ _ (ok_type hO _) hC2 hM2
      · exact absurd (er1.trans er2.symm) h_635
    by_cases z_32_18 : z = 18
    · refine g_tswI 18 640 hX d_law_32 (by omega) (by omega) (by omega) rfl (by decide) ?_
      refine g_aload_n hX d_law_640 rfl ?_
      refine g_callV hX yo_WC_clearText q_551 d_law_641 (c_WC_clearText hC) rfl rfl ⟨rfl, by decide⟩ rfl (by decide) (Nat.le_of_ble_eq_true rfl) ⟨by rw [hc]; exact Nat.le_of_ble_eq_true rfl, by rw [hs]; exact Nat.le_of_ble_eq_true rfl⟩ (k_int fun r_641 M_641 ir_641 hp_641 => ?_)
      obtain ⟨er1, hC1, f1⟩ := hp_641
      have hM1 := hR.hi f1
      refine g_aload_n hX d_law_644 rfl ?_
      refine g_callV hX yo_Mo_clearText q_880 d_law_645 (c_Mo_clearText hM1) rfl rfl ⟨rfl, by decide⟩ rfl (by decide) (Nat.le_of_ble_eq_true rfl) ⟨by rw [hc]; exact Nat.le_of_ble_eq_true rfl, by rw [hs]; exact Nat.le_of_ble_eq_true rfl⟩ (k_int fun r_645 M_645 ir_645 hp_645 => ?_)
      obtain ⟨er2, hM2, f2⟩ := hp_645
      have hC2 := hC1.lo f2
      refine g_icmp_eq 712 hX d_law_648 (by decide) (by omega) (by omega) (fun h_648 => ?_) (fun h_648 => ?_)
      · exact NEXT _ _ (ok_clearText hO) hC2 hM2
      · exact absurd (er1.trans er2.symm) h_648
    by_cases z_32_19 : z = 19
    · refine g_tswI 19 653 hX d_law_32 (by omega) (by omega) (by omega) rfl (by decide) ?_
      refine g_aload_n hX d_law_653 rfl ?_
      refine g_aload_n hX d_law_654 rfl ?_
      refine g_iload_n hX d_law_655 rfl ?_
      refine g_iconst hX d_law_656 ?_
      refine g_iadd hX d_law_657 ?_
      refine g_sld hX hS hbg hN d_law_658 (by omega) ?_
      refine g_callV hX yo_WC_write q_559 d_law_659 (c_WC_write hC hO (i32_R _)) rfl rfl ⟨rfl, by decide⟩ rfl (by decide) (Nat.le_of_ble_eq_true rfl) ⟨by rw [hc]; exact Nat.le_of_ble_eq_true rfl, by rw [hs]; exact Nat.le_of_ble_eq_true rfl⟩ (k_int fun r_659 M_659 ir_659 hp_659 => ?_)
      obtain ⟨er1, hC1, f1⟩ := hp_659
      have hM1 := hR.hi f1
      refine g_aload_n hX d_law_662 rfl ?_
      refine g_aload_n hX d_law_663 rfl ?_
      refine g_iload_n hX d_law_664 rfl ?_
      refine g_iconst hX d_law_665 ?_
      refine g_iadd hX d_law_666 ?_
      refine g_sld hX hS hbg hN d_law_667 (by omega) ?_
      refine g_callV hX yo_Mo_write q_884 d_law_668 (c_Mo_write hM1 hO (i32_R _)) rfl rfl ⟨rfl, by decide⟩ rfl (by decide) (Nat.le_of_ble_eq_true rfl) ⟨by rw [hc]; exact Nat.le_of_ble_eq_true rfl, by rw [hs]; exact Nat.le_of_ble_eq_true rfl⟩ (k_int fun r_668 M_668 ir_668 hp_668 => ?_)
      obtain ⟨er2, hM2, f2⟩ := hp_668
      have hC2 := hC1.lo f2
      refine g_icmp_eq 712 hX d_law_671 (by decide) (by omega) (by omega) (fun h_671 => ?_) (fun h_671 => ?_)
      · exact NEXT _ _ (ok_write hO _) hC2 hM2
      · exact absurd (er1.trans er2.symm) h_671
    by_cases z_32_20 : z = 20
    · refine g_tswI 20 676 hX d_law_32 (by omega) (by omega) (by omega) rfl (by decide) ?_
      refine g_aload_n hX d_law_676 rfl ?_
      refine g_aload_n hX d_law_677 rfl ?_
      refine g_iload_n hX d_law_678 rfl ?_
      refine g_iconst hX d_law_679 ?_
      refine g_iadd hX d_law_680 ?_
      refine g_sld hX hS hbg hN d_law_681 (by omega) ?_
      refine g_callV hX yo_WC_fault q_582 d_law_682 (c_WC_fault hC hO (i32_R _)) rfl rfl ⟨rfl, by decide⟩ rfl (by decide) (Nat.le_of_ble_eq_true rfl) ⟨by rw [hc]; exact Nat.le_of_ble_eq_true rfl, by rw [hs]; exact Nat.le_of_ble_eq_true rfl⟩ (k_int fun r_682 M_682 ir_682 hp_682 => ?_)
      obtain ⟨er1, hC1, f1⟩ := hp_682
      have hM1 := hR.hi f1
      refine g_aload_n hX d_law_685 rfl ?_
      refine g_aload_n hX d_law_686 rfl ?_
      refine g_iload_n hX d_law_687 rfl ?_
      refine g_iconst hX d_law_688 ?_
      refine g_iadd hX d_law_689 ?_
      refine g_sld hX hS hbg hN d_law_690 (by omega) ?_
      refine g_callV hX yo_Mo_fault q_899 d_law_691 (c_Mo_fault hM1 hO (i32_R _)) rfl rfl ⟨rfl, by decide⟩ rfl (by decide) (Nat.le_of_ble_eq_true rfl) ⟨by rw [hc]; exact Nat.le_of_ble_eq_true rfl, by rw [hs]; exact Nat.le_of_ble_eq_true rfl⟩ (k_int fun r_691 M_691 ir_691 hp_691 => ?_)
      obtain ⟨er2, hM2, f2⟩ := hp_691
      have hC2 := hC1.lo f2
      refine g_icmp_eq 712 hX d_law_694 (by decide) (by omega) (by omega) (fun h_694 => ?_) (fun h_694 => ?_)
      · exact NEXT _ _ hO hC2 hM2
      · exact absurd (er1.trans er2.symm) h_694
    by_cases z_32_21 : z = 21
    · refine g_tswI 21 699 hX d_law_32 (by omega) (by omega) (by omega) rfl (by decide) ?_
      refine g_aload_n hX d_law_699 rfl ?_
      refine g_callV hX yo_WC_read q_649 d_law_700 (c_WC_read hC hO) rfl rfl ⟨rfl, by decide⟩ rfl (by decide) (Nat.le_of_ble_eq_true rfl) ⟨by rw [hc]; exact Nat.le_of_ble_eq_true rfl, by rw [hs]; exact Nat.le_of_ble_eq_true rfl⟩ (k_int fun r_700 M_700 ir_700 hp_700 => ?_)
      obtain ⟨er1, hC1, f1⟩ := hp_700
      have hM1 := hR.hi f1
      refine g_aload_n hX d_law_703 rfl ?_
      refine g_callV hX yo_Mo_read q_935 d_law_704 (c_Mo_read hM1 hO) rfl rfl ⟨rfl, by decide⟩ rfl (by decide) (Nat.le_of_ble_eq_true rfl) ⟨by rw [hc]; exact Nat.le_of_ble_eq_true rfl, by rw [hs]; exact Nat.le_of_ble_eq_true rfl⟩ (k_int fun r_704 M_704 ir_704 hp_704 => ?_)
      obtain ⟨er2, hM2, f2⟩ := hp_704
      have hC2 := hC1.lo f2
      refine g_icmp_eq 712 hX d_law_707 (by decide) (by omega) (by omega) (fun h_707 => ?_) (fun h_707 => ?_)
      · exact NEXT _ _ (ok_read hO) hC2 hM2
      · exact absurd (er1.trans er2.symm) h_707
    refine g_tswO 712 hX d_law_32 (by omega) (by omega) (by decide) ?_
    exact NEXT _ _ hO hC hR
