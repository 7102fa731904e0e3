/-! the forty cases -/
theorem kmL_13 : Cond.methodLink RL 13 yX5_row ∈ lw_tbl := List.mem_of_getElem? (i := 269) (by decide +kernel)
theorem kmL_17 : Cond.methodLink RL 17 yX6_row ∈ lw_tbl := List.mem_of_getElem? (i := 822) (by decide +kernel)
theorem kmL_18 : Cond.methodLink RL 18 yX5_lay ∈ lw_tbl := List.mem_of_getElem? (i := 284) (by decide +kernel)
theorem kmL_22 : Cond.methodLink RL 22 yX6_lay ∈ lw_tbl := List.mem_of_getElem? (i := 837) (by decide +kernel)
theorem kmL_23 : Cond.methodLink RL 23 yX5_at ∈ lw_tbl := List.mem_of_getElem? (i := 317) (by decide +kernel)
theorem kmL_26 : Cond.methodLink RL 26 yX6_at ∈ lw_tbl := List.mem_of_getElem? (i := 845) (by decide +kernel)
theorem kmL_27 : Cond.methodLink RL 27 yX5_tear ∈ lw_tbl := List.mem_of_getElem? (i := 321) (by decide +kernel)
theorem kmL_31 : Cond.methodLink RL 31 yX6_tear ∈ lw_tbl := List.mem_of_getElem? (i := 849) (by decide +kernel)
theorem kmL_32 : Cond.methodLink RL 32 yX5_copy ∈ lw_tbl := List.mem_of_getElem? (i := 329) (by decide +kernel)
theorem kmL_36 : Cond.methodLink RL 36 yX6_copy ∈ lw_tbl := List.mem_of_getElem? (i := 853) (by decide +kernel)
theorem kmL_37 : Cond.methodLink RL 37 yX5_mean ∈ lw_tbl := List.mem_of_getElem? (i := 333) (by decide +kernel)
theorem kmL_40 : Cond.methodLink RL 40 yX6_mean ∈ lw_tbl := List.mem_of_getElem? (i := 857) (by decide +kernel)
theorem kmL_41 : Cond.methodLink RL 41 yX5_text ∈ lw_tbl := List.mem_of_getElem? (i := 338) (by decide +kernel)
theorem kmL_44 : Cond.methodLink RL 44 yX6_text ∈ lw_tbl := List.mem_of_getElem? (i := 861) (by decide +kernel)
theorem kmL_45 : Cond.methodLink RL 45 yX5_put ∈ lw_tbl := List.mem_of_getElem? (i := 345) (by decide +kernel)
theorem kmL_48 : Cond.methodLink RL 48 yX6_put ∈ lw_tbl := List.mem_of_getElem? (i := 869) (by decide +kernel)
theorem kmL_49 : Cond.methodLink RL 49 yX5_fault ∈ lw_tbl := List.mem_of_getElem? (i := 353) (by decide +kernel)
theorem kmL_52 : Cond.methodLink RL 52 yX6_fault ∈ lw_tbl := List.mem_of_getElem? (i := 873) (by decide +kernel)
theorem kmL_53 : Cond.methodLink RL 53 yX5_deck ∈ lw_tbl := List.mem_of_getElem? (i := 368) (by decide +kernel)
theorem kmL_56 : Cond.methodLink RL 56 yX6_deck ∈ lw_tbl := List.mem_of_getElem? (i := 886) (by decide +kernel)
theorem kmL_57 : Cond.methodLink RL 57 yX5_card ∈ lw_tbl := List.mem_of_getElem? (i := 414) (by decide +kernel)
theorem kmL_60 : Cond.methodLink RL 60 yX6_card ∈ lw_tbl := List.mem_of_getElem? (i := 893) (by decide +kernel)
theorem kmL_61 : Cond.methodLink RL 61 yX5_mark ∈ lw_tbl := List.mem_of_getElem? (i := 441) (by decide +kernel)
theorem kmL_64 : Cond.methodLink RL 64 yX6_mark ∈ lw_tbl := List.mem_of_getElem? (i := 915) (by decide +kernel)
theorem kmL_65 : Cond.methodLink RL 65 yX5_pass ∈ lw_tbl := List.mem_of_getElem? (i := 454) (by decide +kernel)
theorem kmL_68 : Cond.methodLink RL 68 yX6_pass ∈ lw_tbl := List.mem_of_getElem? (i := 919) (by decide +kernel)
theorem kmL_69 : Cond.methodLink RL 69 yX5_turn ∈ lw_tbl := List.mem_of_getElem? (i := 472) (by decide +kernel)
theorem kmL_73 : Cond.methodLink RL 73 yX6_turn ∈ lw_tbl := List.mem_of_getElem? (i := 942) (by decide +kernel)
theorem kmL_74 : Cond.methodLink RL 74 yX5_lift ∈ lw_tbl := List.mem_of_getElem? (i := 476) (by decide +kernel)
theorem kmL_77 : Cond.methodLink RL 77 yX6_lift ∈ lw_tbl := List.mem_of_getElem? (i := 950) (by decide +kernel)
theorem kmL_78 : Cond.methodLink RL 78 yX5_punch ∈ lw_tbl := List.mem_of_getElem? (i := 480) (by decide +kernel)
theorem kmL_81 : Cond.methodLink RL 81 yX6_punch ∈ lw_tbl := List.mem_of_getElem? (i := 958) (by decide +kernel)
theorem kmL_82 : Cond.methodLink RL 82 yX5_undo ∈ lw_tbl := List.mem_of_getElem? (i := 484) (by decide +kernel)
theorem kmL_85 : Cond.methodLink RL 85 yX6_undo ∈ lw_tbl := List.mem_of_getElem? (i := 963) (by decide +kernel)
theorem kmL_86 : Cond.methodLink RL 86 yX5_keep ∈ lw_tbl := List.mem_of_getElem? (i := 489) (by decide +kernel)
theorem kmL_89 : Cond.methodLink RL 89 yX6_keep ∈ lw_tbl := List.mem_of_getElem? (i := 967) (by decide +kernel)
theorem kmL_90 : Cond.methodLink RL 90 yX5_on ∈ lw_tbl := List.mem_of_getElem? (i := 493) (by decide +kernel)
theorem kmL_93 : Cond.methodLink RL 93 yX6_on ∈ lw_tbl := List.mem_of_getElem? (i := 974) (by decide +kernel)
theorem kmL_94 : Cond.methodLink RL 94 yX5_pocket ∈ lw_tbl := List.mem_of_getElem? (i := 497) (by decide +kernel)
theorem kmL_97 : Cond.methodLink RL 97 yX6_pocket ∈ lw_tbl := List.mem_of_getElem? (i := 978) (by decide +kernel)
theorem kmL_98 : Cond.methodLink RL 98 yX5_run ∈ lw_tbl := List.mem_of_getElem? (i := 501) (by decide +kernel)
theorem kmL_101 : Cond.methodLink RL 101 yX6_run ∈ lw_tbl := List.mem_of_getElem? (i := 983) (by decide +kernel)
theorem kmL_102 : Cond.methodLink RL 102 yX5_fewest ∈ lw_tbl := List.mem_of_getElem? (i := 530) (by decide +kernel)
theorem kmL_105 : Cond.methodLink RL 105 yX6_fewest ∈ lw_tbl := List.mem_of_getElem? (i := 995) (by decide +kernel)
theorem kmL_106 : Cond.methodLink RL 106 yX5_order ∈ lw_tbl := List.mem_of_getElem? (i := 555) (by decide +kernel)
theorem kmL_109 : Cond.methodLink RL 109 yX6_order ∈ lw_tbl := List.mem_of_getElem? (i := 1007) (by decide +kernel)
theorem kmL_110 : Cond.methodLink RL 110 yX5_columns ∈ lw_tbl := List.mem_of_getElem? (i := 563) (by decide +kernel)
theorem kmL_113 : Cond.methodLink RL 113 yX6_columns ∈ lw_tbl := List.mem_of_getElem? (i := 1011) (by decide +kernel)
theorem kmL_114 : Cond.methodLink RL 114 yX5_kinds ∈ lw_tbl := List.mem_of_getElem? (i := 579) (by decide +kernel)
theorem kmL_117 : Cond.methodLink RL 117 yX6_kinds ∈ lw_tbl := List.mem_of_getElem? (i := 1015) (by decide +kernel)
theorem kmL_118 : Cond.methodLink RL 118 yX5_figures ∈ lw_tbl := List.mem_of_getElem? (i := 603) (by decide +kernel)
theorem kmL_121 : Cond.methodLink RL 121 yX6_figures ∈ lw_tbl := List.mem_of_getElem? (i := 1032) (by decide +kernel)
theorem kmL_122 : Cond.methodLink RL 122 yX5_next ∈ lw_tbl := List.mem_of_getElem? (i := 611) (by decide +kernel)
theorem kmL_125 : Cond.methodLink RL 125 yX6_next ∈ lw_tbl := List.mem_of_getElem? (i := 1036) (by decide +kernel)
theorem kmL_126 : Cond.methodLink RL 126 yX5_sets ∈ lw_tbl := List.mem_of_getElem? (i := 620) (by decide +kernel)
theorem kmL_129 : Cond.methodLink RL 129 yX6_sets ∈ lw_tbl := List.mem_of_getElem? (i := 1044) (by decide +kernel)
theorem kmL_130 : Cond.methodLink RL 130 yX5_sure ∈ lw_tbl := List.mem_of_getElem? (i := 640) (by decide +kernel)
theorem kmL_133 : Cond.methodLink RL 133 yX6_sure ∈ lw_tbl := List.mem_of_getElem? (i := 1053) (by decide +kernel)
theorem kmL_134 : Cond.methodLink RL 134 yX5_duel ∈ lw_tbl := List.mem_of_getElem? (i := 644) (by decide +kernel)
theorem kmL_137 : Cond.methodLink RL 137 yX6_duel ∈ lw_tbl := List.mem_of_getElem? (i := 1057) (by decide +kernel)
theorem kmL_138 : Cond.methodLink RL 138 yX5_odds ∈ lw_tbl := List.mem_of_getElem? (i := 663) (by decide +kernel)
theorem kmL_141 : Cond.methodLink RL 141 yX6_odds ∈ lw_tbl := List.mem_of_getElem? (i := 1065) (by decide +kernel)
theorem kmL_142 : Cond.methodLink RL 142 yX5_mid ∈ lw_tbl := List.mem_of_getElem? (i := 680) (by decide +kernel)
theorem kmL_145 : Cond.methodLink RL 145 yX6_mid ∈ lw_tbl := List.mem_of_getElem? (i := 1082) (by decide +kernel)
theorem kmL_146 : Cond.methodLink RL 146 yX5_lots ∈ lw_tbl := List.mem_of_getElem? (i := 685) (by decide +kernel)
theorem kmL_149 : Cond.methodLink RL 149 yX6_lots ∈ lw_tbl := List.mem_of_getElem? (i := 1086) (by decide +kernel)
theorem kmL_150 : Cond.methodLink RL 150 yX5_asked ∈ lw_tbl := List.mem_of_getElem? (i := 694) (by decide +kernel)
theorem kmL_153 : Cond.methodLink RL 153 yX6_asked ∈ lw_tbl := List.mem_of_getElem? (i := 1097) (by decide +kernel)
theorem kmL_154 : Cond.methodLink RL 154 yX5_upper ∈ lw_tbl := List.mem_of_getElem? (i := 698) (by decide +kernel)
theorem kmL_158 : Cond.methodLink RL 158 yX6_upper ∈ lw_tbl := List.mem_of_getElem? (i := 1101) (by decide +kernel)
theorem kmL_159 : Cond.methodLink RL 159 yX5_lower ∈ lw_tbl := List.mem_of_getElem? (i := 702) (by decide +kernel)
theorem kmL_162 : Cond.methodLink RL 162 yX6_lower ∈ lw_tbl := List.mem_of_getElem? (i := 1105) (by decide +kernel)
theorem kmL_163 : Cond.methodLink RL 163 yX5_count ∈ lw_tbl := List.mem_of_getElem? (i := 706) (by decide +kernel)
theorem kmL_166 : Cond.methodLink RL 166 yX6_count ∈ lw_tbl := List.mem_of_getElem? (i := 1109) (by decide +kernel)
theorem kmL_167 : Cond.methodLink RL 167 yX5_finding ∈ lw_tbl := List.mem_of_getElem? (i := 728) (by decide +kernel)
theorem kmL_170 : Cond.methodLink RL 170 yX6_finding ∈ lw_tbl := List.mem_of_getElem? (i := 1124) (by decide +kernel)
theorem kmL_171 : Cond.methodLink RL 171 yX5_findings ∈ lw_tbl := List.mem_of_getElem? (i := 732) (by decide +kernel)
theorem kmL_174 : Cond.methodLink RL 174 yX6_findings ∈ lw_tbl := List.mem_of_getElem? (i := 1128) (by decide +kernel)
theorem kmL_175 : Cond.methodLink RL 175 yX5_digest ∈ lw_tbl := List.mem_of_getElem? (i := 736) (by decide +kernel)
theorem kmL_178 : Cond.methodLink RL 178 yX6_digest ∈ lw_tbl := List.mem_of_getElem? (i := 1132) (by decide +kernel)
section LC
variable {X : Gx (St × St)} {σ τ : St} {KC KM : Kx} {b L : Nat} {xs : Nat → Int32} {x : Int32}
theorem lc_0 (C : gF X cL_law RL ret 4 room_1) (F : lF X KC KM b L xs) (hKC : isKC KC) (hKM : isKM KM) (h : Rel σ τ) (h1 : vp_in (x + 1) L) (h2 : vp_in (x + 2) L) (h3 : vp_in (x + 3) L) (h4 : vp_in (x + 4) L) (h5 : vp_in (x + 5) L) (k : ∀ σ τ : St, Rel σ τ → gG X (σ, τ) 1411 (LV b (KC.2.1 0) (KM.2.1 0) x) []) : gG X (σ, τ) 208 (LV b (KC.2.1 0) (KM.2.1 0) x) [] := by
  obtain ⟨r, σ1, τ1, e1, e2, hr⟩ := e_row h (xs (x + 1).toNatClampNeg) (xs (x + 2).toNatClampNeg)
  refine g_aload_n C 2 dL_law_208 rfl ?_
  refine l_arg C F (v := 1) dL_law_209 dL_law_210 dL_law_211 dL_law_212 dL_law_213 (by decide) h1 ?_
  refine l_arg C F (v := 2) dL_law_214 dL_law_215 dL_law_216 dL_law_217 dL_law_218 (by decide) h2 ?_
  refine l_cC C F [.int (xs (x + 1).toNatClampNeg), .int (xs (x + 2).toNatClampNeg)] (mX5_row hKC _ σ _ _ r σ1 e1) mi_X5_row (qO_X5 hKC) rfl kmL_13 ⟨rfl, rfl, by decide, by decide⟩ rfl rfl (Nat.le_of_ble_eq_true rfl) dL_law_219 ?_
  refine g_aload_n C 1 dL_law_222 rfl ?_
  refine l_arg C F (v := 1) dL_law_223 dL_law_224 dL_law_225 dL_law_226 dL_law_227 (by decide) h1 ?_
  refine l_arg C F (v := 2) dL_law_228 dL_law_229 dL_law_230 dL_law_231 dL_law_232 (by decide) h2 ?_
  refine l_cM C F [.int (xs (x + 1).toNatClampNeg), .int (xs (x + 2).toNatClampNeg)] (mX6_row hKM _ τ _ _ r τ1 e2) mi_X6_row (qO_X6 hKM) rfl kmL_17 ⟨rfl, rfl, by decide, by decide⟩ rfl rfl (Nat.le_of_ble_eq_true rfl) dL_law_233 ?_
  exact g_icmp_eq C (α := Unit) (o := ()) (Y := some ()) (N := none) 1411 dL_law_236 (by decide) (if_pos rfl) (fun _ => k σ1 τ1 hr) (fun z => by cases z)
theorem lc_1 (C : gF X cL_law RL ret 4 room_1) (F : lF X KC KM b L xs) (hKC : isKC KC) (hKM : isKM KM) (h : Rel σ τ) (h1 : vp_in (x + 1) L) (h2 : vp_in (x + 2) L) (h3 : vp_in (x + 3) L) (h4 : vp_in (x + 4) L) (h5 : vp_in (x + 5) L) (k : ∀ σ τ : St, Rel σ τ → gG X (σ, τ) 1411 (LV b (KC.2.1 0) (KM.2.1 0) x) []) : gG X (σ, τ) 241 (LV b (KC.2.1 0) (KM.2.1 0) x) [] := by
  obtain ⟨r, σ1, τ1, e1, e2, hr⟩ := e_lay h (xs (x + 1).toNatClampNeg) (xs (x + 2).toNatClampNeg) (xs (x + 3).toNatClampNeg)
  refine g_aload_n C 2 dL_law_241 rfl ?_
  refine l_arg C F (v := 1) dL_law_242 dL_law_243 dL_law_244 dL_law_245 dL_law_246 (by decide) h1 ?_
  refine l_arg C F (v := 2) dL_law_247 dL_law_248 dL_law_249 dL_law_250 dL_law_251 (by decide) h2 ?_
  refine l_arg C F (v := 3) dL_law_252 dL_law_253 dL_law_254 dL_law_255 dL_law_256 (by decide) h3 ?_
  refine l_cC C F [.int (xs (x + 1).toNatClampNeg), .int (xs (x + 2).toNatClampNeg), .int (xs (x + 3).toNatClampNeg)] (mX5_lay hKC _ σ _ _ _ r σ1 e1) mi_X5_lay (qO_X5 hKC) rfl kmL_18 ⟨rfl, rfl, by decide, by decide⟩ rfl rfl (Nat.le_of_ble_eq_true rfl) dL_law_257 ?_
  refine g_aload_n C 1 dL_law_260 rfl ?_
  refine l_arg C F (v := 1) dL_law_261 dL_law_262 dL_law_263 dL_law_264 dL_law_265 (by decide) h1 ?_
  refine l_arg C F (v := 2) dL_law_266 dL_law_267 dL_law_268 dL_law_269 dL_law_270 (by decide) h2 ?_
  refine l_arg C F (v := 3) dL_law_271 dL_law_272 dL_law_273 dL_law_274 dL_law_275 (by decide) h3 ?_
  refine l_cM C F [.int (xs (x + 1).toNatClampNeg), .int (xs (x + 2).toNatClampNeg), .int (xs (x + 3).toNatClampNeg)] (mX6_lay hKM _ τ _ _ _ r τ1 e2) mi_X6_lay (qO_X6 hKM) rfl kmL_22 ⟨rfl, rfl, by decide, by decide⟩ rfl rfl (Nat.le_of_ble_eq_true rfl) dL_law_276 ?_
  exact g_icmp_eq C (α := Unit) (o := ()) (Y := some ()) (N := none) 1411 dL_law_279 (by decide) (if_pos rfl) (fun _ => k σ1 τ1 hr) (fun z => by cases z)
theorem lc_2 (C : gF X cL_law RL ret 4 room_1) (F : lF X KC KM b L xs) (hKC : isKC KC) (hKM : isKM KM) (h : Rel σ τ) (h1 : vp_in (x + 1) L) (h2 : vp_in (x + 2) L) (h3 : vp_in (x + 3) L) (h4 : vp_in (x + 4) L) (h5 : vp_in (x + 5) L) (k : ∀ σ τ : St, Rel σ τ → gG X (σ, τ) 1411 (LV b (KC.2.1 0) (KM.2.1 0) x) []) : gG X (σ, τ) 284 (LV b (KC.2.1 0) (KM.2.1 0) x) [] := by
  obtain ⟨r, σ1, τ1, e1, e2, hr⟩ := e_at h (xs (x + 1).toNatClampNeg) (xs (x + 2).toNatClampNeg)
  refine g_aload_n C 2 dL_law_284 rfl ?_
  refine l_arg C F (v := 1) dL_law_285 dL_law_286 dL_law_287 dL_law_288 dL_law_289 (by decide) h1 ?_
  refine l_arg C F (v := 2) dL_law_290 dL_law_291 dL_law_292 dL_law_293 dL_law_294 (by decide) h2 ?_
  refine l_cC C F [.int (xs (x + 1).toNatClampNeg), .int (xs (x + 2).toNatClampNeg)] (mX5_at hKC _ σ _ _ r σ1 e1) mi_X5_at (qO_X5 hKC) rfl kmL_23 ⟨rfl, rfl, by decide, by decide⟩ rfl rfl (Nat.le_of_ble_eq_true rfl) dL_law_295 ?_
  refine g_aload_n C 1 dL_law_298 rfl ?_
  refine l_arg C F (v := 1) dL_law_299 dL_law_300 dL_law_301 dL_law_302 dL_law_303 (by decide) h1 ?_
  refine l_arg C F (v := 2) dL_law_304 dL_law_305 dL_law_306 dL_law_307 dL_law_308 (by decide) h2 ?_
  refine l_cM C F [.int (xs (x + 1).toNatClampNeg), .int (xs (x + 2).toNatClampNeg)] (mX6_at hKM _ τ _ _ r τ1 e2) mi_X6_at (qO_X6 hKM) rfl kmL_26 ⟨rfl, rfl, by decide, by decide⟩ rfl rfl (Nat.le_of_ble_eq_true rfl) dL_law_309 ?_
  exact g_icmp_eq C (α := Unit) (o := ()) (Y := some ()) (N := none) 1411 dL_law_312 (by decide) (if_pos rfl) (fun _ => k σ1 τ1 hr) (fun z => by cases z)
theorem lc_3 (C : gF X cL_law RL ret 4 room_1) (F : lF X KC KM b L xs) (hKC : isKC KC) (hKM : isKM KM) (h : Rel σ τ) (h1 : vp_in (x + 1) L) (h2 : vp_in (x + 2) L) (h3 : vp_in (x + 3) L) (h4 : vp_in (x + 4) L) (h5 : vp_in (x + 5) L) (k : ∀ σ τ : St, Rel σ τ → gG X (σ, τ) 1411 (LV b (KC.2.1 0) (KM.2.1 0) x) []) : gG X (σ, τ) 317 (LV b (KC.2.1 0) (KM.2.1 0) x) [] := by
  obtain ⟨r, σ1, τ1, e1, e2, hr⟩ := e_tear h (xs (x + 1).toNatClampNeg)
  refine g_aload_n C 2 dL_law_317 rfl ?_
  refine l_arg C F (v := 1) dL_law_318 dL_law_319 dL_law_320 dL_law_321 dL_law_322 (by decide) h1 ?_
  refine l_cC C F [.int (xs (x + 1).toNatClampNeg)] (mX5_tear hKC _ σ _ r σ1 e1) mi_X5_tear (qO_X5 hKC) rfl kmL_27 ⟨rfl, rfl, by decide, by decide⟩ rfl rfl (Nat.le_of_ble_eq_true rfl) dL_law_323 ?_
  refine g_aload_n C 1 dL_law_326 rfl ?_
  refine l_arg C F (v := 1) dL_law_327 dL_law_328 dL_law_329 dL_law_330 dL_law_331 (by decide) h1 ?_
  refine l_cM C F [.int (xs (x + 1).toNatClampNeg)] (mX6_tear hKM _ τ _ r τ1 e2) mi_X6_tear (qO_X6 hKM) rfl kmL_31 ⟨rfl, rfl, by decide, by decide⟩ rfl rfl (Nat.le_of_ble_eq_true rfl) dL_law_332 ?_
  exact g_icmp_eq C (α := Unit) (o := ()) (Y := some ()) (N := none) 1411 dL_law_335 (by decide) (if_pos rfl) (fun _ => k σ1 τ1 hr) (fun z => by cases z)
theorem lc_4 (C : gF X cL_law RL ret 4 room_1) (F : lF X KC KM b L xs) (hKC : isKC KC) (hKM : isKM KM) (h : Rel σ τ) (h1 : vp_in (x + 1) L) (h2 : vp_in (x + 2) L) (h3 : vp_in (x + 3) L) (h4 : vp_in (x + 4) L) (h5 : vp_in (x + 5) L) (k : ∀ σ τ : St, Rel σ τ → gG X (σ, τ) 1411 (LV b (KC.2.1 0) (KM.2.1 0) x) []) : gG X (σ, τ) 340 (LV b (KC.2.1 0) (KM.2.1 0) x) [] := by
  obtain ⟨r, σ1, τ1, e1, e2, hr⟩ := e_copy h (xs (x + 1).toNatClampNeg) (xs (x + 2).toNatClampNeg) (xs (x + 3).toNatClampNeg) (xs (x + 4).toNatClampNeg) (xs (x + 5).toNatClampNeg)
  refine g_aload_n C 2 dL_law_340 rfl ?_
  refine l_arg C F (v := 1) dL_law_341 dL_law_342 dL_law_343 dL_law_344 dL_law_345 (by decide) h1 ?_
  refine l_arg C F (v := 2) dL_law_346 dL_law_347 dL_law_348 dL_law_349 dL_law_350 (by decide) h2 ?_
  refine l_arg C F (v := 3) dL_law_351 dL_law_352 dL_law_353 dL_law_354 dL_law_355 (by decide) h3 ?_
  refine l_arg C F (v := 4) dL_law_356 dL_law_357 dL_law_358 dL_law_359 dL_law_360 (by decide) h4 ?_
  refine l_arg C F (v := 5) dL_law_361 dL_law_362 dL_law_363 dL_law_364 dL_law_365 (by decide) h5 ?_
  refine l_cC C F [.int (xs (x + 1).toNatClampNeg), .int (xs (x + 2).toNatClampNeg), .int (xs (x + 3).toNatClampNeg), .int (xs (x + 4).toNatClampNeg), .int (xs (x + 5).toNatClampNeg)] (mX5_copy hKC _ σ _ _ _ _ _ r σ1 e1) mi_X5_copy (qO_X5 hKC) rfl kmL_32 ⟨rfl, rfl, by decide, by decide⟩ rfl rfl (Nat.le_of_ble_eq_true rfl) dL_law_366 ?_
  refine g_aload_n C 1 dL_law_369 rfl ?_
  refine l_arg C F (v := 1) dL_law_370 dL_law_371 dL_law_372 dL_law_373 dL_law_374 (by decide) h1 ?_
  refine l_arg C F (v := 2) dL_law_375 dL_law_376 dL_law_377 dL_law_378 dL_law_379 (by decide) h2 ?_
  refine l_arg C F (v := 3) dL_law_380 dL_law_381 dL_law_382 dL_law_383 dL_law_384 (by decide) h3 ?_
  refine l_arg C F (v := 4) dL_law_385 dL_law_386 dL_law_387 dL_law_388 dL_law_389 (by decide) h4 ?_
  refine l_arg C F (v := 5) dL_law_390 dL_law_391 dL_law_392 dL_law_393 dL_law_394 (by decide) h5 ?_
  refine l_cM C F [.int (xs (x + 1).toNatClampNeg), .int (xs (x + 2).toNatClampNeg), .int (xs (x + 3).toNatClampNeg), .int (xs (x + 4).toNatClampNeg), .int (xs (x + 5).toNatClampNeg)] (mX6_copy hKM _ τ _ _ _ _ _ r τ1 e2) mi_X6_copy (qO_X6 hKM) rfl kmL_36 ⟨rfl, rfl, by decide, by decide⟩ rfl rfl (Nat.le_of_ble_eq_true rfl) dL_law_395 ?_
  exact g_icmp_eq C (α := Unit) (o := ()) (Y := some ()) (N := none) 1411 dL_law_398 (by decide) (if_pos rfl) (fun _ => k σ1 τ1 hr) (fun z => by cases z)
theorem lc_5 (C : gF X cL_law RL ret 4 room_1) (F : lF X KC KM b L xs) (hKC : isKC KC) (hKM : isKM KM) (h : Rel σ τ) (h1 : vp_in (x + 1) L) (h2 : vp_in (x + 2) L) (h3 : vp_in (x + 3) L) (h4 : vp_in (x + 4) L) (h5 : vp_in (x + 5) L) (k : ∀ σ τ : St, Rel σ τ → gG X (σ, τ) 1411 (LV b (KC.2.1 0) (KM.2.1 0) x) []) : gG X (σ, τ) 403 (LV b (KC.2.1 0) (KM.2.1 0) x) [] := by
  obtain ⟨r, σ1, τ1, e1, e2, hr⟩ := e_mean h (xs (x + 1).toNatClampNeg)
  refine g_aload_n C 2 dL_law_403 rfl ?_
  refine l_arg C F (v := 1) dL_law_404 dL_law_405 dL_law_406 dL_law_407 dL_law_408 (by decide) h1 ?_
  refine l_cC C F [.int (xs (x + 1).toNatClampNeg)] (mX5_mean hKC _ σ _ r σ1 e1) mi_X5_mean (qO_X5 hKC) rfl kmL_37 ⟨rfl, rfl, by decide, by decide⟩ rfl rfl (Nat.le_of_ble_eq_true rfl) dL_law_409 ?_
  refine g_aload_n C 1 dL_law_412 rfl ?_
  refine l_arg C F (v := 1) dL_law_413 dL_law_414 dL_law_415 dL_law_416 dL_law_417 (by decide) h1 ?_
  refine l_cM C F [.int (xs (x + 1).toNatClampNeg)] (mX6_mean hKM _ τ _ r τ1 e2) mi_X6_mean (qO_X6 hKM) rfl kmL_40 ⟨rfl, rfl, by decide, by decide⟩ rfl rfl (Nat.le_of_ble_eq_true rfl) dL_law_418 ?_
  exact g_icmp_eq C (α := Unit) (o := ()) (Y := some ()) (N := none) 1411 dL_law_421 (by decide) (if_pos rfl) (fun _ => k σ1 τ1 hr) (fun z => by cases z)
theorem lc_6 (C : gF X cL_law RL ret 4 room_1) (F : lF X KC KM b L xs) (hKC : isKC KC) (hKM : isKM KM) (h : Rel σ τ) (h1 : vp_in (x + 1) L) (h2 : vp_in (x + 2) L) (h3 : vp_in (x + 3) L) (h4 : vp_in (x + 4) L) (h5 : vp_in (x + 5) L) (k : ∀ σ τ : St, Rel σ τ → gG X (σ, τ) 1411 (LV b (KC.2.1 0) (KM.2.1 0) x) []) : gG X (σ, τ) 426 (LV b (KC.2.1 0) (KM.2.1 0) x) [] := by
  obtain ⟨r, σ1, τ1, e1, e2, hr⟩ := e_text h (xs (x + 1).toNatClampNeg) (xs (x + 2).toNatClampNeg)
  refine g_aload_n C 2 dL_law_426 rfl ?_
  refine l_arg C F (v := 1) dL_law_427 dL_law_428 dL_law_429 dL_law_430 dL_law_431 (by decide) h1 ?_
  refine l_arg C F (v := 2) dL_law_432 dL_law_433 dL_law_434 dL_law_435 dL_law_436 (by decide) h2 ?_
  refine l_cC C F [.int (xs (x + 1).toNatClampNeg), .int (xs (x + 2).toNatClampNeg)] (mX5_text hKC _ σ _ _ r σ1 e1) mi_X5_text (qO_X5 hKC) rfl kmL_41 ⟨rfl, rfl, by decide, by decide⟩ rfl rfl (Nat.le_of_ble_eq_true rfl) dL_law_437 ?_
  refine g_aload_n C 1 dL_law_440 rfl ?_
  refine l_arg C F (v := 1) dL_law_441 dL_law_442 dL_law_443 dL_law_444 dL_law_445 (by decide) h1 ?_
  refine l_arg C F (v := 2) dL_law_446 dL_law_447 dL_law_448 dL_law_449 dL_law_450 (by decide) h2 ?_
  refine l_cM C F [.int (xs (x + 1).toNatClampNeg), .int (xs (x + 2).toNatClampNeg)] (mX6_text hKM _ τ _ _ r τ1 e2) mi_X6_text (qO_X6 hKM) rfl kmL_44 ⟨rfl, rfl, by decide, by decide⟩ rfl rfl (Nat.le_of_ble_eq_true rfl) dL_law_451 ?_
  exact g_icmp_eq C (α := Unit) (o := ()) (Y := some ()) (N := none) 1411 dL_law_454 (by decide) (if_pos rfl) (fun _ => k σ1 τ1 hr) (fun z => by cases z)
theorem lc_7 (C : gF X cL_law RL ret 4 room_1) (F : lF X KC KM b L xs) (hKC : isKC KC) (hKM : isKM KM) (h : Rel σ τ) (h1 : vp_in (x + 1) L) (h2 : vp_in (x + 2) L) (h3 : vp_in (x + 3) L) (h4 : vp_in (x + 4) L) (h5 : vp_in (x + 5) L) (k : ∀ σ τ : St, Rel σ τ → gG X (σ, τ) 1411 (LV b (KC.2.1 0) (KM.2.1 0) x) []) : gG X (σ, τ) 459 (LV b (KC.2.1 0) (KM.2.1 0) x) [] := by
  obtain ⟨r, σ1, τ1, e1, e2, hr⟩ := e_put h (xs (x + 1).toNatClampNeg) (xs (x + 2).toNatClampNeg) (xs (x + 3).toNatClampNeg)
  refine g_aload_n C 2 dL_law_459 rfl ?_
  refine l_arg C F (v := 1) dL_law_460 dL_law_461 dL_law_462 dL_law_463 dL_law_464 (by decide) h1 ?_
  refine l_arg C F (v := 2) dL_law_465 dL_law_466 dL_law_467 dL_law_468 dL_law_469 (by decide) h2 ?_
  refine l_arg C F (v := 3) dL_law_470 dL_law_471 dL_law_472 dL_law_473 dL_law_474 (by decide) h3 ?_
  refine l_cC C F [.int (xs (x + 1).toNatClampNeg), .int (xs (x + 2).toNatClampNeg), .int (xs (x + 3).toNatClampNeg)] (mX5_put hKC _ σ _ _ _ r σ1 e1) mi_X5_put (qO_X5 hKC) rfl kmL_45 ⟨rfl, rfl, by decide, by decide⟩ rfl rfl (Nat.le_of_ble_eq_true rfl) dL_law_475 ?_
  refine g_aload_n C 1 dL_law_478 rfl ?_
  refine l_arg C F (v := 1) dL_law_479 dL_law_480 dL_law_481 dL_law_482 dL_law_483 (by decide) h1 ?_
  refine l_arg C F (v := 2) dL_law_484 dL_law_485 dL_law_486 dL_law_487 dL_law_488 (by decide) h2 ?_
  refine l_arg C F (v := 3) dL_law_489 dL_law_490 dL_law_491 dL_law_492 dL_law_493 (by decide) h3 ?_
  refine l_cM C F [.int (xs (x + 1).toNatClampNeg), .int (xs (x + 2).toNatClampNeg), .int (xs (x + 3).toNatClampNeg)] (mX6_put hKM _ τ _ _ _ r τ1 e2) mi_X6_put (qO_X6 hKM) rfl kmL_48 ⟨rfl, rfl, by decide, by decide⟩ rfl rfl (Nat.le_of_ble_eq_true rfl) dL_law_494 ?_
  exact g_icmp_eq C (α := Unit) (o := ()) (Y := some ()) (N := none) 1411 dL_law_497 (by decide) (if_pos rfl) (fun _ => k σ1 τ1 hr) (fun z => by cases z)
theorem lc_8 (C : gF X cL_law RL ret 4 room_1) (F : lF X KC KM b L xs) (hKC : isKC KC) (hKM : isKM KM) (h : Rel σ τ) (h1 : vp_in (x + 1) L) (h2 : vp_in (x + 2) L) (h3 : vp_in (x + 3) L) (h4 : vp_in (x + 4) L) (h5 : vp_in (x + 5) L) (k : ∀ σ τ : St, Rel σ τ → gG X (σ, τ) 1411 (LV b (KC.2.1 0) (KM.2.1 0) x) []) : gG X (σ, τ) 502 (LV b (KC.2.1 0) (KM.2.1 0) x) [] := by
  obtain ⟨r, σ1, τ1, e1, e2, hr⟩ := e_fault h (xs (x + 1).toNatClampNeg)
  refine g_aload_n C 2 dL_law_502 rfl ?_
  refine l_arg C F (v := 1) dL_law_503 dL_law_504 dL_law_505 dL_law_506 dL_law_507 (by decide) h1 ?_
  refine l_cC C F [.int (xs (x + 1).toNatClampNeg)] (mX5_fault hKC _ σ _ r σ1 e1) mi_X5_fault (qO_X5 hKC) rfl kmL_49 ⟨rfl, rfl, by decide, by decide⟩ rfl rfl (Nat.le_of_ble_eq_true rfl) dL_law_508 ?_
  refine g_aload_n C 1 dL_law_511 rfl ?_
  refine l_arg C F (v := 1) dL_law_512 dL_law_513 dL_law_514 dL_law_515 dL_law_516 (by decide) h1 ?_
  refine l_cM C F [.int (xs (x + 1).toNatClampNeg)] (mX6_fault hKM _ τ _ r τ1 e2) mi_X6_fault (qO_X6 hKM) rfl kmL_52 ⟨rfl, rfl, by decide, by decide⟩ rfl rfl (Nat.le_of_ble_eq_true rfl) dL_law_517 ?_
  exact g_icmp_eq C (α := Unit) (o := ()) (Y := some ()) (N := none) 1411 dL_law_520 (by decide) (if_pos rfl) (fun _ => k σ1 τ1 hr) (fun z => by cases z)
theorem lc_9 (C : gF X cL_law RL ret 4 room_1) (F : lF X KC KM b L xs) (hKC : isKC KC) (hKM : isKM KM) (h : Rel σ τ) (h1 : vp_in (x + 1) L) (h2 : vp_in (x + 2) L) (h3 : vp_in (x + 3) L) (h4 : vp_in (x + 4) L) (h5 : vp_in (x + 5) L) (k : ∀ σ τ : St, Rel σ τ → gG X (σ, τ) 1411 (LV b (KC.2.1 0) (KM.2.1 0) x) []) : gG X (σ, τ) 525 (LV b (KC.2.1 0) (KM.2.1 0) x) [] := by
  obtain ⟨r, σ1, τ1, e1, e2, hr⟩ := e_deck h (xs (x + 1).toNatClampNeg)
  refine g_aload_n C 2 dL_law_525 rfl ?_
  refine l_arg C F (v := 1) dL_law_526 dL_law_527 dL_law_528 dL_law_529 dL_law_530 (by decide) h1 ?_
  refine l_cC C F [.int (xs (x + 1).toNatClampNeg)] (mX5_deck hKC _ σ _ r σ1 e1) mi_X5_deck (qO_X5 hKC) rfl kmL_53 ⟨rfl, rfl, by decide, by decide⟩ rfl rfl (Nat.le_of_ble_eq_true rfl) dL_law_531 ?_
  refine g_aload_n C 1 dL_law_534 rfl ?_
  refine l_arg C F (v := 1) dL_law_535 dL_law_536 dL_law_537 dL_law_538 dL_law_539 (by decide) h1 ?_
  refine l_cM C F [.int (xs (x + 1).toNatClampNeg)] (mX6_deck hKM _ τ _ r τ1 e2) mi_X6_deck (qO_X6 hKM) rfl kmL_56 ⟨rfl, rfl, by decide, by decide⟩ rfl rfl (Nat.le_of_ble_eq_true rfl) dL_law_540 ?_
  exact g_icmp_eq C (α := Unit) (o := ()) (Y := some ()) (N := none) 1411 dL_law_543 (by decide) (if_pos rfl) (fun _ => k σ1 τ1 hr) (fun z => by cases z)
theorem lc_10 (C : gF X cL_law RL ret 4 room_1) (F : lF X KC KM b L xs) (hKC : isKC KC) (hKM : isKM KM) (h : Rel σ τ) (h1 : vp_in (x + 1) L) (h2 : vp_in (x + 2) L) (h3 : vp_in (x + 3) L) (h4 : vp_in (x + 4) L) (h5 : vp_in (x + 5) L) (k : ∀ σ τ : St, Rel σ τ → gG X (σ, τ) 1411 (LV b (KC.2.1 0) (KM.2.1 0) x) []) : gG X (σ, τ) 548 (LV b (KC.2.1 0) (KM.2.1 0) x) [] := by
  obtain ⟨r, σ1, τ1, e1, e2, hr⟩ := e_card h (xs (x + 1).toNatClampNeg) (xs (x + 2).toNatClampNeg)
  refine g_aload_n C 2 dL_law_548 rfl ?_
  refine l_arg C F (v := 1) dL_law_549 dL_law_550 dL_law_551 dL_law_552 dL_law_553 (by decide) h1 ?_
  refine l_arg C F (v := 2) dL_law_554 dL_law_555 dL_law_556 dL_law_557 dL_law_558 (by decide) h2 ?_
  refine l_cC C F [.int (xs (x + 1).toNatClampNeg), .int (xs (x + 2).toNatClampNeg)] (mX5_card hKC _ σ _ _ r σ1 e1) mi_X5_card (qO_X5 hKC) rfl kmL_57 ⟨rfl, rfl, by decide, by decide⟩ rfl rfl (Nat.le_of_ble_eq_true rfl) dL_law_559 ?_
  refine g_aload_n C 1 dL_law_562 rfl ?_
  refine l_arg C F (v := 1) dL_law_563 dL_law_564 dL_law_565 dL_law_566 dL_law_567 (by decide) h1 ?_
  refine l_arg C F (v := 2) dL_law_568 dL_law_569 dL_law_570 dL_law_571 dL_law_572 (by decide) h2 ?_
  refine l_cM C F [.int (xs (x + 1).toNatClampNeg), .int (xs (x + 2).toNatClampNeg)] (mX6_card hKM _ τ _ _ r τ1 e2) mi_X6_card (qO_X6 hKM) rfl kmL_60 ⟨rfl, rfl, by decide, by decide⟩ rfl rfl (Nat.le_of_ble_eq_true rfl) dL_law_573 ?_
  exact g_icmp_eq C (α := Unit) (o := ()) (Y := some ()) (N := none) 1411 dL_law_576 (by decide) (if_pos rfl) (fun _ => k σ1 τ1 hr) (fun z => by cases z)
theorem lc_11 (C : gF X cL_law RL ret 4 room_1) (F : lF X KC KM b L xs) (hKC : isKC KC) (hKM : isKM KM) (h : Rel σ τ) (h1 : vp_in (x + 1) L) (h2 : vp_in (x + 2) L) (h3 : vp_in (x + 3) L) (h4 : vp_in (x + 4) L) (h5 : vp_in (x + 5) L) (k : ∀ σ τ : St, Rel σ τ → gG X (σ, τ) 1411 (LV b (KC.2.1 0) (KM.2.1 0) x) []) : gG X (σ, τ) 581 (LV b (KC.2.1 0) (KM.2.1 0) x) [] := by
  obtain ⟨r, σ1, τ1, e1, e2, hr⟩ := e_mark h (xs (x + 1).toNatClampNeg) (xs (x + 2).toNatClampNeg)
  refine g_aload_n C 2 dL_law_581 rfl ?_
  refine l_arg C F (v := 1) dL_law_582 dL_law_583 dL_law_584 dL_law_585 dL_law_586 (by decide) h1 ?_
  refine l_arg C F (v := 2) dL_law_587 dL_law_588 dL_law_589 dL_law_590 dL_law_591 (by decide) h2 ?_
  refine l_cC C F [.int (xs (x + 1).toNatClampNeg), .int (xs (x + 2).toNatClampNeg)] (mX5_mark hKC _ σ _ _ r σ1 e1) mi_X5_mark (qO_X5 hKC) rfl kmL_61 ⟨rfl, rfl, by decide, by decide⟩ rfl rfl (Nat.le_of_ble_eq_true rfl) dL_law_592 ?_
  refine g_aload_n C 1 dL_law_595 rfl ?_
  refine l_arg C F (v := 1) dL_law_596 dL_law_597 dL_law_598 dL_law_599 dL_law_600 (by decide) h1 ?_
  refine l_arg C F (v := 2) dL_law_601 dL_law_602 dL_law_603 dL_law_604 dL_law_605 (by decide) h2 ?_
  refine l_cM C F [.int (xs (x + 1).toNatClampNeg), .int (xs (x + 2).toNatClampNeg)] (mX6_mark hKM _ τ _ _ r τ1 e2) mi_X6_mark (qO_X6 hKM) rfl kmL_64 ⟨rfl, rfl, by decide, by decide⟩ rfl rfl (Nat.le_of_ble_eq_true rfl) dL_law_606 ?_
  exact g_icmp_eq C (α := Unit) (o := ()) (Y := some ()) (N := none) 1411 dL_law_609 (by decide) (if_pos rfl) (fun _ => k σ1 τ1 hr) (fun z => by cases z)
theorem lc_12 (C : gF X cL_law RL ret 4 room_1) (F : lF X KC KM b L xs) (hKC : isKC KC) (hKM : isKM KM) (h : Rel σ τ) (h1 : vp_in (x + 1) L) (h2 : vp_in (x + 2) L) (h3 : vp_in (x + 3) L) (h4 : vp_in (x + 4) L) (h5 : vp_in (x + 5) L) (k : ∀ σ τ : St, Rel σ τ → gG X (σ, τ) 1411 (LV b (KC.2.1 0) (KM.2.1 0) x) []) : gG X (σ, τ) 614 (LV b (KC.2.1 0) (KM.2.1 0) x) [] := by
  obtain ⟨r, σ1, τ1, e1, e2, hr⟩ := e_pass h (xs (x + 1).toNatClampNeg)
  refine g_aload_n C 2 dL_law_614 rfl ?_
  refine l_arg C F (v := 1) dL_law_615 dL_law_616 dL_law_617 dL_law_618 dL_law_619 (by decide) h1 ?_
  refine l_cC C F [.int (xs (x + 1).toNatClampNeg)] (mX5_pass hKC _ σ _ r σ1 e1) mi_X5_pass (qO_X5 hKC) rfl kmL_65 ⟨rfl, rfl, by decide, by decide⟩ rfl rfl (Nat.le_of_ble_eq_true rfl) dL_law_620 ?_
  refine g_aload_n C 1 dL_law_623 rfl ?_
  refine l_arg C F (v := 1) dL_law_624 dL_law_625 dL_law_626 dL_law_627 dL_law_628 (by decide) h1 ?_
  refine l_cM C F [.int (xs (x + 1).toNatClampNeg)] (mX6_pass hKM _ τ _ r τ1 e2) mi_X6_pass (qO_X6 hKM) rfl kmL_68 ⟨rfl, rfl, by decide, by decide⟩ rfl rfl (Nat.le_of_ble_eq_true rfl) dL_law_629 ?_
  exact g_icmp_eq C (α := Unit) (o := ()) (Y := some ()) (N := none) 1411 dL_law_632 (by decide) (if_pos rfl) (fun _ => k σ1 τ1 hr) (fun z => by cases z)
theorem lc_13 (C : gF X cL_law RL ret 4 room_1) (F : lF X KC KM b L xs) (hKC : isKC KC) (hKM : isKM KM) (h : Rel σ τ) (h1 : vp_in (x + 1) L) (h2 : vp_in (x + 2) L) (h3 : vp_in (x + 3) L) (h4 : vp_in (x + 4) L) (h5 : vp_in (x + 5) L) (k : ∀ σ τ : St, Rel σ τ → gG X (σ, τ) 1411 (LV b (KC.2.1 0) (KM.2.1 0) x) []) : gG X (σ, τ) 637 (LV b (KC.2.1 0) (KM.2.1 0) x) [] := by
  obtain ⟨r, σ1, τ1, e1, e2, hr⟩ := e_turn h
  refine g_aload_n C 2 dL_law_637 rfl ?_
  refine l_cC C F [] (mX5_turn hKC _ σ r σ1 e1) mi_X5_turn (qO_X5 hKC) rfl kmL_69 ⟨rfl, rfl, by decide, by decide⟩ rfl rfl (Nat.le_of_ble_eq_true rfl) dL_law_638 ?_
  refine g_aload_n C 1 dL_law_641 rfl ?_
  refine l_cM C F [] (mX6_turn hKM _ τ r τ1 e2) mi_X6_turn (qO_X6 hKM) rfl kmL_73 ⟨rfl, rfl, by decide, by decide⟩ rfl rfl (Nat.le_of_ble_eq_true rfl) dL_law_642 ?_
  exact g_icmp_eq C (α := Unit) (o := ()) (Y := some ()) (N := none) 1411 dL_law_645 (by decide) (if_pos rfl) (fun _ => k σ1 τ1 hr) (fun z => by cases z)
theorem lc_14 (C : gF X cL_law RL ret 4 room_1) (F : lF X KC KM b L xs) (hKC : isKC KC) (hKM : isKM KM) (h : Rel σ τ) (h1 : vp_in (x + 1) L) (h2 : vp_in (x + 2) L) (h3 : vp_in (x + 3) L) (h4 : vp_in (x + 4) L) (h5 : vp_in (x + 5) L) (k : ∀ σ τ : St, Rel σ τ → gG X (σ, τ) 1411 (LV b (KC.2.1 0) (KM.2.1 0) x) []) : gG X (σ, τ) 650 (LV b (KC.2.1 0) (KM.2.1 0) x) [] := by
  obtain ⟨r, σ1, τ1, e1, e2, hr⟩ := e_lift h (xs (x + 1).toNatClampNeg)
  refine g_aload_n C 2 dL_law_650 rfl ?_
  refine l_arg C F (v := 1) dL_law_651 dL_law_652 dL_law_653 dL_law_654 dL_law_655 (by decide) h1 ?_
  refine l_cC C F [.int (xs (x + 1).toNatClampNeg)] (mX5_lift hKC _ σ _ r σ1 e1) mi_X5_lift (qO_X5 hKC) rfl kmL_74 ⟨rfl, rfl, by decide, by decide⟩ rfl rfl (Nat.le_of_ble_eq_true rfl) dL_law_656 ?_
  refine g_aload_n C 1 dL_law_659 rfl ?_
  refine l_arg C F (v := 1) dL_law_660 dL_law_661 dL_law_662 dL_law_663 dL_law_664 (by decide) h1 ?_
  refine l_cM C F [.int (xs (x + 1).toNatClampNeg)] (mX6_lift hKM _ τ _ r τ1 e2) mi_X6_lift (qO_X6 hKM) rfl kmL_77 ⟨rfl, rfl, by decide, by decide⟩ rfl rfl (Nat.le_of_ble_eq_true rfl) dL_law_665 ?_
  exact g_icmp_eq C (α := Unit) (o := ()) (Y := some ()) (N := none) 1411 dL_law_668 (by decide) (if_pos rfl) (fun _ => k σ1 τ1 hr) (fun z => by cases z)
theorem lc_15 (C : gF X cL_law RL ret 4 room_1) (F : lF X KC KM b L xs) (hKC : isKC KC) (hKM : isKM KM) (h : Rel σ τ) (h1 : vp_in (x + 1) L) (h2 : vp_in (x + 2) L) (h3 : vp_in (x + 3) L) (h4 : vp_in (x + 4) L) (h5 : vp_in (x + 5) L) (k : ∀ σ τ : St, Rel σ τ → gG X (σ, τ) 1411 (LV b (KC.2.1 0) (KM.2.1 0) x) []) : gG X (σ, τ) 673 (LV b (KC.2.1 0) (KM.2.1 0) x) [] := by
  obtain ⟨r, σ1, τ1, e1, e2, hr⟩ := e_punch h (xs (x + 1).toNatClampNeg) (xs (x + 2).toNatClampNeg) (xs (x + 3).toNatClampNeg)
  refine g_aload_n C 2 dL_law_673 rfl ?_
  refine l_arg C F (v := 1) dL_law_674 dL_law_675 dL_law_676 dL_law_677 dL_law_678 (by decide) h1 ?_
  refine l_arg C F (v := 2) dL_law_679 dL_law_680 dL_law_681 dL_law_682 dL_law_683 (by decide) h2 ?_
  refine l_arg C F (v := 3) dL_law_684 dL_law_685 dL_law_686 dL_law_687 dL_law_688 (by decide) h3 ?_
  refine l_cC C F [.int (xs (x + 1).toNatClampNeg), .int (xs (x + 2).toNatClampNeg), .int (xs (x + 3).toNatClampNeg)] (mX5_punch hKC _ σ _ _ _ r σ1 e1) mi_X5_punch (qO_X5 hKC) rfl kmL_78 ⟨rfl, rfl, by decide, by decide⟩ rfl rfl (Nat.le_of_ble_eq_true rfl) dL_law_689 ?_
  refine g_aload_n C 1 dL_law_692 rfl ?_
  refine l_arg C F (v := 1) dL_law_693 dL_law_694 dL_law_695 dL_law_696 dL_law_697 (by decide) h1 ?_
  refine l_arg C F (v := 2) dL_law_698 dL_law_699 dL_law_700 dL_law_701 dL_law_702 (by decide) h2 ?_
  refine l_arg C F (v := 3) dL_law_703 dL_law_704 dL_law_705 dL_law_706 dL_law_707 (by decide) h3 ?_
  refine l_cM C F [.int (xs (x + 1).toNatClampNeg), .int (xs (x + 2).toNatClampNeg), .int (xs (x + 3).toNatClampNeg)] (mX6_punch hKM _ τ _ _ _ r τ1 e2) mi_X6_punch (qO_X6 hKM) rfl kmL_81 ⟨rfl, rfl, by decide, by decide⟩ rfl rfl (Nat.le_of_ble_eq_true rfl) dL_law_708 ?_
  exact g_icmp_eq C (α := Unit) (o := ()) (Y := some ()) (N := none) 1411 dL_law_711 (by decide) (if_pos rfl) (fun _ => k σ1 τ1 hr) (fun z => by cases z)
theorem lc_16 (C : gF X cL_law RL ret 4 room_1) (F : lF X KC KM b L xs) (hKC : isKC KC) (hKM : isKM KM) (h : Rel σ τ) (h1 : vp_in (x + 1) L) (h2 : vp_in (x + 2) L) (h3 : vp_in (x + 3) L) (h4 : vp_in (x + 4) L) (h5 : vp_in (x + 5) L) (k : ∀ σ τ : St, Rel σ τ → gG X (σ, τ) 1411 (LV b (KC.2.1 0) (KM.2.1 0) x) []) : gG X (σ, τ) 716 (LV b (KC.2.1 0) (KM.2.1 0) x) [] := by
  obtain ⟨r, σ1, τ1, e1, e2, hr⟩ := e_undo h (xs (x + 1).toNatClampNeg)
  refine g_aload_n C 2 dL_law_716 rfl ?_
  refine l_arg C F (v := 1) dL_law_717 dL_law_718 dL_law_719 dL_law_720 dL_law_721 (by decide) h1 ?_
  refine l_cC C F [.int (xs (x + 1).toNatClampNeg)] (mX5_undo hKC _ σ _ r σ1 e1) mi_X5_undo (qO_X5 hKC) rfl kmL_82 ⟨rfl, rfl, by decide, by decide⟩ rfl rfl (Nat.le_of_ble_eq_true rfl) dL_law_722 ?_
  refine g_aload_n C 1 dL_law_725 rfl ?_
  refine l_arg C F (v := 1) dL_law_726 dL_law_727 dL_law_728 dL_law_729 dL_law_730 (by decide) h1 ?_
  refine l_cM C F [.int (xs (x + 1).toNatClampNeg)] (mX6_undo hKM _ τ _ r τ1 e2) mi_X6_undo (qO_X6 hKM) rfl kmL_85 ⟨rfl, rfl, by decide, by decide⟩ rfl rfl (Nat.le_of_ble_eq_true rfl) dL_law_731 ?_
  exact g_icmp_eq C (α := Unit) (o := ()) (Y := some ()) (N := none) 1411 dL_law_734 (by decide) (if_pos rfl) (fun _ => k σ1 τ1 hr) (fun z => by cases z)
theorem lc_17 (C : gF X cL_law RL ret 4 room_1) (F : lF X KC KM b L xs) (hKC : isKC KC) (hKM : isKM KM) (h : Rel σ τ) (h1 : vp_in (x + 1) L) (h2 : vp_in (x + 2) L) (h3 : vp_in (x + 3) L) (h4 : vp_in (x + 4) L) (h5 : vp_in (x + 5) L) (k : ∀ σ τ : St, Rel σ τ → gG X (σ, τ) 1411 (LV b (KC.2.1 0) (KM.2.1 0) x) []) : gG X (σ, τ) 739 (LV b (KC.2.1 0) (KM.2.1 0) x) [] := by
  obtain ⟨r, σ1, τ1, e1, e2, hr⟩ := e_keep h (xs (x + 1).toNatClampNeg)
  refine g_aload_n C 2 dL_law_739 rfl ?_
  refine l_arg C F (v := 1) dL_law_740 dL_law_741 dL_law_742 dL_law_743 dL_law_744 (by decide) h1 ?_
  refine l_cC C F [.int (xs (x + 1).toNatClampNeg)] (mX5_keep hKC _ σ _ r σ1 e1) mi_X5_keep (qO_X5 hKC) rfl kmL_86 ⟨rfl, rfl, by decide, by decide⟩ rfl rfl (Nat.le_of_ble_eq_true rfl) dL_law_745 ?_
  refine g_aload_n C 1 dL_law_748 rfl ?_
  refine l_arg C F (v := 1) dL_law_749 dL_law_750 dL_law_751 dL_law_752 dL_law_753 (by decide) h1 ?_
  refine l_cM C F [.int (xs (x + 1).toNatClampNeg)] (mX6_keep hKM _ τ _ r τ1 e2) mi_X6_keep (qO_X6 hKM) rfl kmL_89 ⟨rfl, rfl, by decide, by decide⟩ rfl rfl (Nat.le_of_ble_eq_true rfl) dL_law_754 ?_
  exact g_icmp_eq C (α := Unit) (o := ()) (Y := some ()) (N := none) 1411 dL_law_757 (by decide) (if_pos rfl) (fun _ => k σ1 τ1 hr) (fun z => by cases z)
theorem lc_18 (C : gF X cL_law RL ret 4 room_1) (F : lF X KC KM b L xs) (hKC : isKC KC) (hKM : isKM KM) (h : Rel σ τ) (h1 : vp_in (x + 1) L) (h2 : vp_in (x + 2) L) (h3 : vp_in (x + 3) L) (h4 : vp_in (x + 4) L) (h5 : vp_in (x + 5) L) (k : ∀ σ τ : St, Rel σ τ → gG X (σ, τ) 1411 (LV b (KC.2.1 0) (KM.2.1 0) x) []) : gG X (σ, τ) 762 (LV b (KC.2.1 0) (KM.2.1 0) x) [] := by
  obtain ⟨r, σ1, τ1, e1, e2, hr⟩ := e_on h (xs (x + 1).toNatClampNeg)
  refine g_aload_n C 2 dL_law_762 rfl ?_
  refine l_arg C F (v := 1) dL_law_763 dL_law_764 dL_law_765 dL_law_766 dL_law_767 (by decide) h1 ?_
  refine l_cC C F [.int (xs (x + 1).toNatClampNeg)] (mX5_on hKC _ σ _ r σ1 e1) mi_X5_on (qO_X5 hKC) rfl kmL_90 ⟨rfl, rfl, by decide, by decide⟩ rfl rfl (Nat.le_of_ble_eq_true rfl) dL_law_768 ?_
  refine g_aload_n C 1 dL_law_771 rfl ?_
  refine l_arg C F (v := 1) dL_law_772 dL_law_773 dL_law_774 dL_law_775 dL_law_776 (by decide) h1 ?_
  refine l_cM C F [.int (xs (x + 1).toNatClampNeg)] (mX6_on hKM _ τ _ r τ1 e2) mi_X6_on (qO_X6 hKM) rfl kmL_93 ⟨rfl, rfl, by decide, by decide⟩ rfl rfl (Nat.le_of_ble_eq_true rfl) dL_law_777 ?_
  exact g_icmp_eq C (α := Unit) (o := ()) (Y := some ()) (N := none) 1411 dL_law_780 (by decide) (if_pos rfl) (fun _ => k σ1 τ1 hr) (fun z => by cases z)
theorem lc_19 (C : gF X cL_law RL ret 4 room_1) (F : lF X KC KM b L xs) (hKC : isKC KC) (hKM : isKM KM) (h : Rel σ τ) (h1 : vp_in (x + 1) L) (h2 : vp_in (x + 2) L) (h3 : vp_in (x + 3) L) (h4 : vp_in (x + 4) L) (h5 : vp_in (x + 5) L) (k : ∀ σ τ : St, Rel σ τ → gG X (σ, τ) 1411 (LV b (KC.2.1 0) (KM.2.1 0) x) []) : gG X (σ, τ) 785 (LV b (KC.2.1 0) (KM.2.1 0) x) [] := by
  obtain ⟨r, e1, e2⟩ := e_pocket h (xs (x + 1).toNatClampNeg) (xs (x + 2).toNatClampNeg) (xs (x + 3).toNatClampNeg)
  refine g_aload_n C 2 dL_law_785 rfl ?_
  refine l_arg C F (v := 1) dL_law_786 dL_law_787 dL_law_788 dL_law_789 dL_law_790 (by decide) h1 ?_
  refine l_arg C F (v := 2) dL_law_791 dL_law_792 dL_law_793 dL_law_794 dL_law_795 (by decide) h2 ?_
  refine l_arg C F (v := 3) dL_law_796 dL_law_797 dL_law_798 dL_law_799 dL_law_800 (by decide) h3 ?_
  refine l_cC C F [.int (xs (x + 1).toNatClampNeg), .int (xs (x + 2).toNatClampNeg), .int (xs (x + 3).toNatClampNeg)] (mX5_pocket hKC _ σ _ _ _ r e1) mi_X5_pocket (qO_X5 hKC) rfl kmL_94 ⟨rfl, rfl, by decide, by decide⟩ rfl rfl (Nat.le_of_ble_eq_true rfl) dL_law_801 ?_
  refine g_aload_n C 1 dL_law_804 rfl ?_
  refine l_arg C F (v := 1) dL_law_805 dL_law_806 dL_law_807 dL_law_808 dL_law_809 (by decide) h1 ?_
  refine l_arg C F (v := 2) dL_law_810 dL_law_811 dL_law_812 dL_law_813 dL_law_814 (by decide) h2 ?_
  refine l_arg C F (v := 3) dL_law_815 dL_law_816 dL_law_817 dL_law_818 dL_law_819 (by decide) h3 ?_
  refine l_cM C F [.int (xs (x + 1).toNatClampNeg), .int (xs (x + 2).toNatClampNeg), .int (xs (x + 3).toNatClampNeg)] (mX6_pocket hKM _ τ _ _ _ r e2) mi_X6_pocket (qO_X6 hKM) rfl kmL_97 ⟨rfl, rfl, by decide, by decide⟩ rfl rfl (Nat.le_of_ble_eq_true rfl) dL_law_820 ?_
  exact g_icmp_eq C (α := Unit) (o := ()) (Y := some ()) (N := none) 1411 dL_law_823 (by decide) (if_pos rfl) (fun _ => k σ τ h) (fun z => by cases z)
theorem lc_20 (C : gF X cL_law RL ret 4 room_1) (F : lF X KC KM b L xs) (hKC : isKC KC) (hKM : isKM KM) (h : Rel σ τ) (h1 : vp_in (x + 1) L) (h2 : vp_in (x + 2) L) (h3 : vp_in (x + 3) L) (h4 : vp_in (x + 4) L) (h5 : vp_in (x + 5) L) (k : ∀ σ τ : St, Rel σ τ → gG X (σ, τ) 1411 (LV b (KC.2.1 0) (KM.2.1 0) x) []) : gG X (σ, τ) 828 (LV b (KC.2.1 0) (KM.2.1 0) x) [] := by
  obtain ⟨r, σ1, τ1, e1, e2, hr⟩ := e_run h (xs (x + 1).toNatClampNeg) (xs (x + 2).toNatClampNeg)
  refine g_aload_n C 2 dL_law_828 rfl ?_
  refine l_arg C F (v := 1) dL_law_829 dL_law_830 dL_law_831 dL_law_832 dL_law_833 (by decide) h1 ?_
  refine l_arg C F (v := 2) dL_law_834 dL_law_835 dL_law_836 dL_law_837 dL_law_838 (by decide) h2 ?_
  refine l_cC C F [.int (xs (x + 1).toNatClampNeg), .int (xs (x + 2).toNatClampNeg)] (mX5_run hKC _ σ _ _ r σ1 e1) mi_X5_run (qO_X5 hKC) rfl kmL_98 ⟨rfl, rfl, by decide, by decide⟩ rfl rfl (Nat.le_of_ble_eq_true rfl) dL_law_839 ?_
  refine g_aload_n C 1 dL_law_842 rfl ?_
  refine l_arg C F (v := 1) dL_law_843 dL_law_844 dL_law_845 dL_law_846 dL_law_847 (by decide) h1 ?_
  refine l_arg C F (v := 2) dL_law_848 dL_law_849 dL_law_850 dL_law_851 dL_law_852 (by decide) h2 ?_
  refine l_cM C F [.int (xs (x + 1).toNatClampNeg), .int (xs (x + 2).toNatClampNeg)] (mX6_run hKM _ τ _ _ r τ1 e2) mi_X6_run (qO_X6 hKM) rfl kmL_101 ⟨rfl, rfl, by decide, by decide⟩ rfl rfl (Nat.le_of_ble_eq_true rfl) dL_law_853 ?_
  exact g_icmp_eq C (α := Unit) (o := ()) (Y := some ()) (N := none) 1411 dL_law_856 (by decide) (if_pos rfl) (fun _ => k σ1 τ1 hr) (fun z => by cases z)
theorem lc_21 (C : gF X cL_law RL ret 4 room_1) (F : lF X KC KM b L xs) (hKC : isKC KC) (hKM : isKM KM) (h : Rel σ τ) (h1 : vp_in (x + 1) L) (h2 : vp_in (x + 2) L) (h3 : vp_in (x + 3) L) (h4 : vp_in (x + 4) L) (h5 : vp_in (x + 5) L) (k : ∀ σ τ : St, Rel σ τ → gG X (σ, τ) 1411 (LV b (KC.2.1 0) (KM.2.1 0) x) []) : gG X (σ, τ) 861 (LV b (KC.2.1 0) (KM.2.1 0) x) [] := by
  obtain ⟨r, σ1, τ1, e1, e2, hr⟩ := e_fewest h (xs (x + 1).toNatClampNeg) (xs (x + 2).toNatClampNeg) (xs (x + 3).toNatClampNeg)
  refine g_aload_n C 2 dL_law_861 rfl ?_
  refine l_arg C F (v := 1) dL_law_862 dL_law_863 dL_law_864 dL_law_865 dL_law_866 (by decide) h1 ?_
  refine l_arg C F (v := 2) dL_law_867 dL_law_868 dL_law_869 dL_law_870 dL_law_871 (by decide) h2 ?_
  refine l_arg C F (v := 3) dL_law_872 dL_law_873 dL_law_874 dL_law_875 dL_law_876 (by decide) h3 ?_
  refine l_cC C F [.int (xs (x + 1).toNatClampNeg), .int (xs (x + 2).toNatClampNeg), .int (xs (x + 3).toNatClampNeg)] (mX5_fewest hKC _ σ _ _ _ r σ1 e1) mi_X5_fewest (qO_X5 hKC) rfl kmL_102 ⟨rfl, rfl, by decide, by decide⟩ rfl rfl (Nat.le_of_ble_eq_true rfl) dL_law_877 ?_
  refine g_aload_n C 1 dL_law_880 rfl ?_
  refine l_arg C F (v := 1) dL_law_881 dL_law_882 dL_law_883 dL_law_884 dL_law_885 (by decide) h1 ?_
  refine l_arg C F (v := 2) dL_law_886 dL_law_887 dL_law_888 dL_law_889 dL_law_890 (by decide) h2 ?_
  refine l_arg C F (v := 3) dL_law_891 dL_law_892 dL_law_893 dL_law_894 dL_law_895 (by decide) h3 ?_
  refine l_cM C F [.int (xs (x + 1).toNatClampNeg), .int (xs (x + 2).toNatClampNeg), .int (xs (x + 3).toNatClampNeg)] (mX6_fewest hKM _ τ _ _ _ r τ1 e2) mi_X6_fewest (qO_X6 hKM) rfl kmL_105 ⟨rfl, rfl, by decide, by decide⟩ rfl rfl (Nat.le_of_ble_eq_true rfl) dL_law_896 ?_
  exact g_icmp_eq C (α := Unit) (o := ()) (Y := some ()) (N := none) 1411 dL_law_899 (by decide) (if_pos rfl) (fun _ => k σ1 τ1 hr) (fun z => by cases z)
theorem lc_22 (C : gF X cL_law RL ret 4 room_1) (F : lF X KC KM b L xs) (hKC : isKC KC) (hKM : isKM KM) (h : Rel σ τ) (h1 : vp_in (x + 1) L) (h2 : vp_in (x + 2) L) (h3 : vp_in (x + 3) L) (h4 : vp_in (x + 4) L) (h5 : vp_in (x + 5) L) (k : ∀ σ τ : St, Rel σ τ → gG X (σ, τ) 1411 (LV b (KC.2.1 0) (KM.2.1 0) x) []) : gG X (σ, τ) 904 (LV b (KC.2.1 0) (KM.2.1 0) x) [] := by
  obtain ⟨r, σ1, τ1, e1, e2, hr⟩ := e_order h (xs (x + 1).toNatClampNeg) (xs (x + 2).toNatClampNeg)
  refine g_aload_n C 2 dL_law_904 rfl ?_
  refine l_arg C F (v := 1) dL_law_905 dL_law_906 dL_law_907 dL_law_908 dL_law_909 (by decide) h1 ?_
  refine l_arg C F (v := 2) dL_law_910 dL_law_911 dL_law_912 dL_law_913 dL_law_914 (by decide) h2 ?_
  refine l_cC C F [.int (xs (x + 1).toNatClampNeg), .int (xs (x + 2).toNatClampNeg)] (mX5_order hKC _ σ _ _ r σ1 e1) mi_X5_order (qO_X5 hKC) rfl kmL_106 ⟨rfl, rfl, by decide, by decide⟩ rfl rfl (Nat.le_of_ble_eq_true rfl) dL_law_915 ?_
  refine g_aload_n C 1 dL_law_918 rfl ?_
  refine l_arg C F (v := 1) dL_law_919 dL_law_920 dL_law_921 dL_law_922 dL_law_923 (by decide) h1 ?_
  refine l_arg C F (v := 2) dL_law_924 dL_law_925 dL_law_926 dL_law_927 dL_law_928 (by decide) h2 ?_
  refine l_cM C F [.int (xs (x + 1).toNatClampNeg), .int (xs (x + 2).toNatClampNeg)] (mX6_order hKM _ τ _ _ r τ1 e2) mi_X6_order (qO_X6 hKM) rfl kmL_109 ⟨rfl, rfl, by decide, by decide⟩ rfl rfl (Nat.le_of_ble_eq_true rfl) dL_law_929 ?_
  exact g_icmp_eq C (α := Unit) (o := ()) (Y := some ()) (N := none) 1411 dL_law_932 (by decide) (if_pos rfl) (fun _ => k σ1 τ1 hr) (fun z => by cases z)
theorem lc_23 (C : gF X cL_law RL ret 4 room_1) (F : lF X KC KM b L xs) (hKC : isKC KC) (hKM : isKM KM) (h : Rel σ τ) (h1 : vp_in (x + 1) L) (h2 : vp_in (x + 2) L) (h3 : vp_in (x + 3) L) (h4 : vp_in (x + 4) L) (h5 : vp_in (x + 5) L) (k : ∀ σ τ : St, Rel σ τ → gG X (σ, τ) 1411 (LV b (KC.2.1 0) (KM.2.1 0) x) []) : gG X (σ, τ) 937 (LV b (KC.2.1 0) (KM.2.1 0) x) [] := by
  obtain ⟨r, σ1, τ1, e1, e2, hr⟩ := e_columns h (xs (x + 1).toNatClampNeg)
  refine g_aload_n C 2 dL_law_937 rfl ?_
  refine l_arg C F (v := 1) dL_law_938 dL_law_939 dL_law_940 dL_law_941 dL_law_942 (by decide) h1 ?_
  refine l_cC C F [.int (xs (x + 1).toNatClampNeg)] (mX5_columns hKC _ σ _ r σ1 e1) mi_X5_columns (qO_X5 hKC) rfl kmL_110 ⟨rfl, rfl, by decide, by decide⟩ rfl rfl (Nat.le_of_ble_eq_true rfl) dL_law_943 ?_
  refine g_aload_n C 1 dL_law_946 rfl ?_
  refine l_arg C F (v := 1) dL_law_947 dL_law_948 dL_law_949 dL_law_950 dL_law_951 (by decide) h1 ?_
  refine l_cM C F [.int (xs (x + 1).toNatClampNeg)] (mX6_columns hKM _ τ _ r τ1 e2) mi_X6_columns (qO_X6 hKM) rfl kmL_113 ⟨rfl, rfl, by decide, by decide⟩ rfl rfl (Nat.le_of_ble_eq_true rfl) dL_law_952 ?_
  exact g_icmp_eq C (α := Unit) (o := ()) (Y := some ()) (N := none) 1411 dL_law_955 (by decide) (if_pos rfl) (fun _ => k σ1 τ1 hr) (fun z => by cases z)
theorem lc_24 (C : gF X cL_law RL ret 4 room_1) (F : lF X KC KM b L xs) (hKC : isKC KC) (hKM : isKM KM) (h : Rel σ τ) (h1 : vp_in (x + 1) L) (h2 : vp_in (x + 2) L) (h3 : vp_in (x + 3) L) (h4 : vp_in (x + 4) L) (h5 : vp_in (x + 5) L) (k : ∀ σ τ : St, Rel σ τ → gG X (σ, τ) 1411 (LV b (KC.2.1 0) (KM.2.1 0) x) []) : gG X (σ, τ) 960 (LV b (KC.2.1 0) (KM.2.1 0) x) [] := by
  obtain ⟨r, σ1, τ1, e1, e2, hr⟩ := e_kinds h (xs (x + 1).toNatClampNeg) (xs (x + 2).toNatClampNeg)
  refine g_aload_n C 2 dL_law_960 rfl ?_
  refine l_arg C F (v := 1) dL_law_961 dL_law_962 dL_law_963 dL_law_964 dL_law_965 (by decide) h1 ?_
  refine l_arg C F (v := 2) dL_law_966 dL_law_967 dL_law_968 dL_law_969 dL_law_970 (by decide) h2 ?_
  refine l_cC C F [.int (xs (x + 1).toNatClampNeg), .int (xs (x + 2).toNatClampNeg)] (mX5_kinds hKC _ σ _ _ r σ1 e1) mi_X5_kinds (qO_X5 hKC) rfl kmL_114 ⟨rfl, rfl, by decide, by decide⟩ rfl rfl (Nat.le_of_ble_eq_true rfl) dL_law_971 ?_
  refine g_aload_n C 1 dL_law_974 rfl ?_
  refine l_arg C F (v := 1) dL_law_975 dL_law_976 dL_law_977 dL_law_978 dL_law_979 (by decide) h1 ?_
  refine l_arg C F (v := 2) dL_law_980 dL_law_981 dL_law_982 dL_law_983 dL_law_984 (by decide) h2 ?_
  refine l_cM C F [.int (xs (x + 1).toNatClampNeg), .int (xs (x + 2).toNatClampNeg)] (mX6_kinds hKM _ τ _ _ r τ1 e2) mi_X6_kinds (qO_X6 hKM) rfl kmL_117 ⟨rfl, rfl, by decide, by decide⟩ rfl rfl (Nat.le_of_ble_eq_true rfl) dL_law_985 ?_
  exact g_icmp_eq C (α := Unit) (o := ()) (Y := some ()) (N := none) 1411 dL_law_988 (by decide) (if_pos rfl) (fun _ => k σ1 τ1 hr) (fun z => by cases z)
theorem lc_25 (C : gF X cL_law RL ret 4 room_1) (F : lF X KC KM b L xs) (hKC : isKC KC) (hKM : isKM KM) (h : Rel σ τ) (h1 : vp_in (x + 1) L) (h2 : vp_in (x + 2) L) (h3 : vp_in (x + 3) L) (h4 : vp_in (x + 4) L) (h5 : vp_in (x + 5) L) (k : ∀ σ τ : St, Rel σ τ → gG X (σ, τ) 1411 (LV b (KC.2.1 0) (KM.2.1 0) x) []) : gG X (σ, τ) 993 (LV b (KC.2.1 0) (KM.2.1 0) x) [] := by
  obtain ⟨r, σ1, τ1, e1, e2, hr⟩ := e_figures h (xs (x + 1).toNatClampNeg) (xs (x + 2).toNatClampNeg) (xs (x + 3).toNatClampNeg)
  refine g_aload_n C 2 dL_law_993 rfl ?_
  refine l_arg C F (v := 1) dL_law_994 dL_law_995 dL_law_996 dL_law_997 dL_law_998 (by decide) h1 ?_
  refine l_arg C F (v := 2) dL_law_999 dL_law_1000 dL_law_1001 dL_law_1002 dL_law_1003 (by decide) h2 ?_
  refine l_arg C F (v := 3) dL_law_1004 dL_law_1005 dL_law_1006 dL_law_1007 dL_law_1008 (by decide) h3 ?_
  refine l_cC C F [.int (xs (x + 1).toNatClampNeg), .int (xs (x + 2).toNatClampNeg), .int (xs (x + 3).toNatClampNeg)] (mX5_figures hKC _ σ _ _ _ r σ1 e1) mi_X5_figures (qO_X5 hKC) rfl kmL_118 ⟨rfl, rfl, by decide, by decide⟩ rfl rfl (Nat.le_of_ble_eq_true rfl) dL_law_1009 ?_
  refine g_aload_n C 1 dL_law_1012 rfl ?_
  refine l_arg C F (v := 1) dL_law_1013 dL_law_1014 dL_law_1015 dL_law_1016 dL_law_1017 (by decide) h1 ?_
  refine l_arg C F (v := 2) dL_law_1018 dL_law_1019 dL_law_1020 dL_law_1021 dL_law_1022 (by decide) h2 ?_
  refine l_arg C F (v := 3) dL_law_1023 dL_law_1024 dL_law_1025 dL_law_1026 dL_law_1027 (by decide) h3 ?_
  refine l_cM C F [.int (xs (x + 1).toNatClampNeg), .int (xs (x + 2).toNatClampNeg), .int (xs (x + 3).toNatClampNeg)] (mX6_figures hKM _ τ _ _ _ r τ1 e2) mi_X6_figures (qO_X6 hKM) rfl kmL_121 ⟨rfl, rfl, by decide, by decide⟩ rfl rfl (Nat.le_of_ble_eq_true rfl) dL_law_1028 ?_
  exact g_icmp_eq C (α := Unit) (o := ()) (Y := some ()) (N := none) 1411 dL_law_1031 (by decide) (if_pos rfl) (fun _ => k σ1 τ1 hr) (fun z => by cases z)
theorem lc_26 (C : gF X cL_law RL ret 4 room_1) (F : lF X KC KM b L xs) (hKC : isKC KC) (hKM : isKM KM) (h : Rel σ τ) (h1 : vp_in (x + 1) L) (h2 : vp_in (x + 2) L) (h3 : vp_in (x + 3) L) (h4 : vp_in (x + 4) L) (h5 : vp_in (x + 5) L) (k : ∀ σ τ : St, Rel σ τ → gG X (σ, τ) 1411 (LV b (KC.2.1 0) (KM.2.1 0) x) []) : gG X (σ, τ) 1036 (LV b (KC.2.1 0) (KM.2.1 0) x) [] := by
  obtain ⟨r, σ1, τ1, e1, e2, hr⟩ := e_next h (xs (x + 1).toNatClampNeg) (xs (x + 2).toNatClampNeg)
  refine g_aload_n C 2 dL_law_1036 rfl ?_
  refine l_arg C F (v := 1) dL_law_1037 dL_law_1038 dL_law_1039 dL_law_1040 dL_law_1041 (by decide) h1 ?_
  refine l_arg C F (v := 2) dL_law_1042 dL_law_1043 dL_law_1044 dL_law_1045 dL_law_1046 (by decide) h2 ?_
  refine l_cC C F [.int (xs (x + 1).toNatClampNeg), .int (xs (x + 2).toNatClampNeg)] (mX5_next hKC _ σ _ _ r σ1 e1) mi_X5_next (qO_X5 hKC) rfl kmL_122 ⟨rfl, rfl, by decide, by decide⟩ rfl rfl (Nat.le_of_ble_eq_true rfl) dL_law_1047 ?_
  refine g_aload_n C 1 dL_law_1050 rfl ?_
  refine l_arg C F (v := 1) dL_law_1051 dL_law_1052 dL_law_1053 dL_law_1054 dL_law_1055 (by decide) h1 ?_
  refine l_arg C F (v := 2) dL_law_1056 dL_law_1057 dL_law_1058 dL_law_1059 dL_law_1060 (by decide) h2 ?_
  refine l_cM C F [.int (xs (x + 1).toNatClampNeg), .int (xs (x + 2).toNatClampNeg)] (mX6_next hKM _ τ _ _ r τ1 e2) mi_X6_next (qO_X6 hKM) rfl kmL_125 ⟨rfl, rfl, by decide, by decide⟩ rfl rfl (Nat.le_of_ble_eq_true rfl) dL_law_1061 ?_
  exact g_icmp_eq C (α := Unit) (o := ()) (Y := some ()) (N := none) 1411 dL_law_1064 (by decide) (if_pos rfl) (fun _ => k σ1 τ1 hr) (fun z => by cases z)
theorem lc_27 (C : gF X cL_law RL ret 4 room_1) (F : lF X KC KM b L xs) (hKC : isKC KC) (hKM : isKM KM) (h : Rel σ τ) (h1 : vp_in (x + 1) L) (h2 : vp_in (x + 2) L) (h3 : vp_in (x + 3) L) (h4 : vp_in (x + 4) L) (h5 : vp_in (x + 5) L) (k : ∀ σ τ : St, Rel σ τ → gG X (σ, τ) 1411 (LV b (KC.2.1 0) (KM.2.1 0) x) []) : gG X (σ, τ) 1069 (LV b (KC.2.1 0) (KM.2.1 0) x) [] := by
  obtain ⟨r, σ1, τ1, e1, e2, hr⟩ := e_sets h (xs (x + 1).toNatClampNeg) (xs (x + 2).toNatClampNeg)
  refine g_aload_n C 2 dL_law_1069 rfl ?_
  refine l_arg C F (v := 1) dL_law_1070 dL_law_1071 dL_law_1072 dL_law_1073 dL_law_1074 (by decide) h1 ?_
  refine l_arg C F (v := 2) dL_law_1075 dL_law_1076 dL_law_1077 dL_law_1078 dL_law_1079 (by decide) h2 ?_
  refine l_cC C F [.int (xs (x + 1).toNatClampNeg), .int (xs (x + 2).toNatClampNeg)] (mX5_sets hKC _ σ _ _ r σ1 e1) mi_X5_sets (qO_X5 hKC) rfl kmL_126 ⟨rfl, rfl, by decide, by decide⟩ rfl rfl (Nat.le_of_ble_eq_true rfl) dL_law_1080 ?_
  refine g_aload_n C 1 dL_law_1083 rfl ?_
  refine l_arg C F (v := 1) dL_law_1084 dL_law_1085 dL_law_1086 dL_law_1087 dL_law_1088 (by decide) h1 ?_
  refine l_arg C F (v := 2) dL_law_1089 dL_law_1090 dL_law_1091 dL_law_1092 dL_law_1093 (by decide) h2 ?_
  refine l_cM C F [.int (xs (x + 1).toNatClampNeg), .int (xs (x + 2).toNatClampNeg)] (mX6_sets hKM _ τ _ _ r τ1 e2) mi_X6_sets (qO_X6 hKM) rfl kmL_129 ⟨rfl, rfl, by decide, by decide⟩ rfl rfl (Nat.le_of_ble_eq_true rfl) dL_law_1094 ?_
  exact g_icmp_eq C (α := Unit) (o := ()) (Y := some ()) (N := none) 1411 dL_law_1097 (by decide) (if_pos rfl) (fun _ => k σ1 τ1 hr) (fun z => by cases z)
theorem lc_28 (C : gF X cL_law RL ret 4 room_1) (F : lF X KC KM b L xs) (hKC : isKC KC) (hKM : isKM KM) (h : Rel σ τ) (h1 : vp_in (x + 1) L) (h2 : vp_in (x + 2) L) (h3 : vp_in (x + 3) L) (h4 : vp_in (x + 4) L) (h5 : vp_in (x + 5) L) (k : ∀ σ τ : St, Rel σ τ → gG X (σ, τ) 1411 (LV b (KC.2.1 0) (KM.2.1 0) x) []) : gG X (σ, τ) 1102 (LV b (KC.2.1 0) (KM.2.1 0) x) [] := by
  obtain ⟨r, σ1, τ1, e1, e2, hr⟩ := e_sure h (xs (x + 1).toNatClampNeg) (xs (x + 2).toNatClampNeg)
  refine g_aload_n C 2 dL_law_1102 rfl ?_
  refine l_arg C F (v := 1) dL_law_1103 dL_law_1104 dL_law_1105 dL_law_1106 dL_law_1107 (by decide) h1 ?_
  refine l_arg C F (v := 2) dL_law_1108 dL_law_1109 dL_law_1110 dL_law_1111 dL_law_1112 (by decide) h2 ?_
  refine l_cC C F [.int (xs (x + 1).toNatClampNeg), .int (xs (x + 2).toNatClampNeg)] (mX5_sure hKC _ σ _ _ r σ1 e1) mi_X5_sure (qO_X5 hKC) rfl kmL_130 ⟨rfl, rfl, by decide, by decide⟩ rfl rfl (Nat.le_of_ble_eq_true rfl) dL_law_1113 ?_
  refine g_aload_n C 1 dL_law_1116 rfl ?_
  refine l_arg C F (v := 1) dL_law_1117 dL_law_1118 dL_law_1119 dL_law_1120 dL_law_1121 (by decide) h1 ?_
  refine l_arg C F (v := 2) dL_law_1122 dL_law_1123 dL_law_1124 dL_law_1125 dL_law_1126 (by decide) h2 ?_
  refine l_cM C F [.int (xs (x + 1).toNatClampNeg), .int (xs (x + 2).toNatClampNeg)] (mX6_sure hKM _ τ _ _ r τ1 e2) mi_X6_sure (qO_X6 hKM) rfl kmL_133 ⟨rfl, rfl, by decide, by decide⟩ rfl rfl (Nat.le_of_ble_eq_true rfl) dL_law_1127 ?_
  exact g_icmp_eq C (α := Unit) (o := ()) (Y := some ()) (N := none) 1411 dL_law_1130 (by decide) (if_pos rfl) (fun _ => k σ1 τ1 hr) (fun z => by cases z)
theorem lc_29 (C : gF X cL_law RL ret 4 room_1) (F : lF X KC KM b L xs) (hKC : isKC KC) (hKM : isKM KM) (h : Rel σ τ) (h1 : vp_in (x + 1) L) (h2 : vp_in (x + 2) L) (h3 : vp_in (x + 3) L) (h4 : vp_in (x + 4) L) (h5 : vp_in (x + 5) L) (k : ∀ σ τ : St, Rel σ τ → gG X (σ, τ) 1411 (LV b (KC.2.1 0) (KM.2.1 0) x) []) : gG X (σ, τ) 1135 (LV b (KC.2.1 0) (KM.2.1 0) x) [] := by
  obtain ⟨r, σ1, τ1, e1, e2, hr⟩ := e_duel h (xs (x + 1).toNatClampNeg) (xs (x + 2).toNatClampNeg) (xs (x + 3).toNatClampNeg)
  refine g_aload_n C 2 dL_law_1135 rfl ?_
  refine l_arg C F (v := 1) dL_law_1136 dL_law_1137 dL_law_1138 dL_law_1139 dL_law_1140 (by decide) h1 ?_
  refine l_arg C F (v := 2) dL_law_1141 dL_law_1142 dL_law_1143 dL_law_1144 dL_law_1145 (by decide) h2 ?_
  refine l_arg C F (v := 3) dL_law_1146 dL_law_1147 dL_law_1148 dL_law_1149 dL_law_1150 (by decide) h3 ?_
  refine l_cC C F [.int (xs (x + 1).toNatClampNeg), .int (xs (x + 2).toNatClampNeg), .int (xs (x + 3).toNatClampNeg)] (mX5_duel hKC _ σ _ _ _ r σ1 e1) mi_X5_duel (qO_X5 hKC) rfl kmL_134 ⟨rfl, rfl, by decide, by decide⟩ rfl rfl (Nat.le_of_ble_eq_true rfl) dL_law_1151 ?_
  refine g_aload_n C 1 dL_law_1154 rfl ?_
  refine l_arg C F (v := 1) dL_law_1155 dL_law_1156 dL_law_1157 dL_law_1158 dL_law_1159 (by decide) h1 ?_
  refine l_arg C F (v := 2) dL_law_1160 dL_law_1161 dL_law_1162 dL_law_1163 dL_law_1164 (by decide) h2 ?_
  refine l_arg C F (v := 3) dL_law_1165 dL_law_1166 dL_law_1167 dL_law_1168 dL_law_1169 (by decide) h3 ?_
  refine l_cM C F [.int (xs (x + 1).toNatClampNeg), .int (xs (x + 2).toNatClampNeg), .int (xs (x + 3).toNatClampNeg)] (mX6_duel hKM _ τ _ _ _ r τ1 e2) mi_X6_duel (qO_X6 hKM) rfl kmL_137 ⟨rfl, rfl, by decide, by decide⟩ rfl rfl (Nat.le_of_ble_eq_true rfl) dL_law_1170 ?_
  exact g_icmp_eq C (α := Unit) (o := ()) (Y := some ()) (N := none) 1411 dL_law_1173 (by decide) (if_pos rfl) (fun _ => k σ1 τ1 hr) (fun z => by cases z)
theorem lc_30 (C : gF X cL_law RL ret 4 room_1) (F : lF X KC KM b L xs) (hKC : isKC KC) (hKM : isKM KM) (h : Rel σ τ) (h1 : vp_in (x + 1) L) (h2 : vp_in (x + 2) L) (h3 : vp_in (x + 3) L) (h4 : vp_in (x + 4) L) (h5 : vp_in (x + 5) L) (k : ∀ σ τ : St, Rel σ τ → gG X (σ, τ) 1411 (LV b (KC.2.1 0) (KM.2.1 0) x) []) : gG X (σ, τ) 1178 (LV b (KC.2.1 0) (KM.2.1 0) x) [] := by
  obtain ⟨r, σ1, τ1, e1, e2, hr⟩ := e_odds h (xs (x + 1).toNatClampNeg) (xs (x + 2).toNatClampNeg) (xs (x + 3).toNatClampNeg)
  refine g_aload_n C 2 dL_law_1178 rfl ?_
  refine l_arg C F (v := 1) dL_law_1179 dL_law_1180 dL_law_1181 dL_law_1182 dL_law_1183 (by decide) h1 ?_
  refine l_arg C F (v := 2) dL_law_1184 dL_law_1185 dL_law_1186 dL_law_1187 dL_law_1188 (by decide) h2 ?_
  refine l_arg C F (v := 3) dL_law_1189 dL_law_1190 dL_law_1191 dL_law_1192 dL_law_1193 (by decide) h3 ?_
  refine l_cC C F [.int (xs (x + 1).toNatClampNeg), .int (xs (x + 2).toNatClampNeg), .int (xs (x + 3).toNatClampNeg)] (mX5_odds hKC _ σ _ _ _ r σ1 e1) mi_X5_odds (qO_X5 hKC) rfl kmL_138 ⟨rfl, rfl, by decide, by decide⟩ rfl rfl (Nat.le_of_ble_eq_true rfl) dL_law_1194 ?_
  refine g_aload_n C 1 dL_law_1197 rfl ?_
  refine l_arg C F (v := 1) dL_law_1198 dL_law_1199 dL_law_1200 dL_law_1201 dL_law_1202 (by decide) h1 ?_
  refine l_arg C F (v := 2) dL_law_1203 dL_law_1204 dL_law_1205 dL_law_1206 dL_law_1207 (by decide) h2 ?_
  refine l_arg C F (v := 3) dL_law_1208 dL_law_1209 dL_law_1210 dL_law_1211 dL_law_1212 (by decide) h3 ?_
  refine l_cM C F [.int (xs (x + 1).toNatClampNeg), .int (xs (x + 2).toNatClampNeg), .int (xs (x + 3).toNatClampNeg)] (mX6_odds hKM _ τ _ _ _ r τ1 e2) mi_X6_odds (qO_X6 hKM) rfl kmL_141 ⟨rfl, rfl, by decide, by decide⟩ rfl rfl (Nat.le_of_ble_eq_true rfl) dL_law_1213 ?_
  exact g_icmp_eq C (α := Unit) (o := ()) (Y := some ()) (N := none) 1411 dL_law_1216 (by decide) (if_pos rfl) (fun _ => k σ1 τ1 hr) (fun z => by cases z)
theorem lc_31 (C : gF X cL_law RL ret 4 room_1) (F : lF X KC KM b L xs) (hKC : isKC KC) (hKM : isKM KM) (h : Rel σ τ) (h1 : vp_in (x + 1) L) (h2 : vp_in (x + 2) L) (h3 : vp_in (x + 3) L) (h4 : vp_in (x + 4) L) (h5 : vp_in (x + 5) L) (k : ∀ σ τ : St, Rel σ τ → gG X (σ, τ) 1411 (LV b (KC.2.1 0) (KM.2.1 0) x) []) : gG X (σ, τ) 1221 (LV b (KC.2.1 0) (KM.2.1 0) x) [] := by
  obtain ⟨r, σ1, τ1, e1, e2, hr⟩ := e_mid h (xs (x + 1).toNatClampNeg) (xs (x + 2).toNatClampNeg) (xs (x + 3).toNatClampNeg)
  refine g_aload_n C 2 dL_law_1221 rfl ?_
  refine l_arg C F (v := 1) dL_law_1222 dL_law_1223 dL_law_1224 dL_law_1225 dL_law_1226 (by decide) h1 ?_
  refine l_arg C F (v := 2) dL_law_1227 dL_law_1228 dL_law_1229 dL_law_1230 dL_law_1231 (by decide) h2 ?_
  refine l_arg C F (v := 3) dL_law_1232 dL_law_1233 dL_law_1234 dL_law_1235 dL_law_1236 (by decide) h3 ?_
  refine l_cC C F [.int (xs (x + 1).toNatClampNeg), .int (xs (x + 2).toNatClampNeg), .int (xs (x + 3).toNatClampNeg)] (mX5_mid hKC _ σ _ _ _ r σ1 e1) mi_X5_mid (qO_X5 hKC) rfl kmL_142 ⟨rfl, rfl, by decide, by decide⟩ rfl rfl (Nat.le_of_ble_eq_true rfl) dL_law_1237 ?_
  refine g_aload_n C 1 dL_law_1240 rfl ?_
  refine l_arg C F (v := 1) dL_law_1241 dL_law_1242 dL_law_1243 dL_law_1244 dL_law_1245 (by decide) h1 ?_
  refine l_arg C F (v := 2) dL_law_1246 dL_law_1247 dL_law_1248 dL_law_1249 dL_law_1250 (by decide) h2 ?_
  refine l_arg C F (v := 3) dL_law_1251 dL_law_1252 dL_law_1253 dL_law_1254 dL_law_1255 (by decide) h3 ?_
  refine l_cM C F [.int (xs (x + 1).toNatClampNeg), .int (xs (x + 2).toNatClampNeg), .int (xs (x + 3).toNatClampNeg)] (mX6_mid hKM _ τ _ _ _ r τ1 e2) mi_X6_mid (qO_X6 hKM) rfl kmL_145 ⟨rfl, rfl, by decide, by decide⟩ rfl rfl (Nat.le_of_ble_eq_true rfl) dL_law_1256 ?_
  exact g_icmp_eq C (α := Unit) (o := ()) (Y := some ()) (N := none) 1411 dL_law_1259 (by decide) (if_pos rfl) (fun _ => k σ1 τ1 hr) (fun z => by cases z)
theorem lc_32 (C : gF X cL_law RL ret 4 room_1) (F : lF X KC KM b L xs) (hKC : isKC KC) (hKM : isKM KM) (h : Rel σ τ) (h1 : vp_in (x + 1) L) (h2 : vp_in (x + 2) L) (h3 : vp_in (x + 3) L) (h4 : vp_in (x + 4) L) (h5 : vp_in (x + 5) L) (k : ∀ σ τ : St, Rel σ τ → gG X (σ, τ) 1411 (LV b (KC.2.1 0) (KM.2.1 0) x) []) : gG X (σ, τ) 1264 (LV b (KC.2.1 0) (KM.2.1 0) x) [] := by
  obtain ⟨r, σ1, τ1, e1, e2, hr⟩ := e_lots h (xs (x + 1).toNatClampNeg) (xs (x + 2).toNatClampNeg)
  refine g_aload_n C 2 dL_law_1264 rfl ?_
  refine l_arg C F (v := 1) dL_law_1265 dL_law_1266 dL_law_1267 dL_law_1268 dL_law_1269 (by decide) h1 ?_
  refine l_arg C F (v := 2) dL_law_1270 dL_law_1271 dL_law_1272 dL_law_1273 dL_law_1274 (by decide) h2 ?_
  refine l_cC C F [.int (xs (x + 1).toNatClampNeg), .int (xs (x + 2).toNatClampNeg)] (mX5_lots hKC _ σ _ _ r σ1 e1) mi_X5_lots (qO_X5 hKC) rfl kmL_146 ⟨rfl, rfl, by decide, by decide⟩ rfl rfl (Nat.le_of_ble_eq_true rfl) dL_law_1275 ?_
  refine g_aload_n C 1 dL_law_1278 rfl ?_
  refine l_arg C F (v := 1) dL_law_1279 dL_law_1280 dL_law_1281 dL_law_1282 dL_law_1283 (by decide) h1 ?_
  refine l_arg C F (v := 2) dL_law_1284 dL_law_1285 dL_law_1286 dL_law_1287 dL_law_1288 (by decide) h2 ?_
  refine l_cM C F [.int (xs (x + 1).toNatClampNeg), .int (xs (x + 2).toNatClampNeg)] (mX6_lots hKM _ τ _ _ r τ1 e2) mi_X6_lots (qO_X6 hKM) rfl kmL_149 ⟨rfl, rfl, by decide, by decide⟩ rfl rfl (Nat.le_of_ble_eq_true rfl) dL_law_1289 ?_
  exact g_icmp_eq C (α := Unit) (o := ()) (Y := some ()) (N := none) 1411 dL_law_1292 (by decide) (if_pos rfl) (fun _ => k σ1 τ1 hr) (fun z => by cases z)
theorem lc_33 (C : gF X cL_law RL ret 4 room_1) (F : lF X KC KM b L xs) (hKC : isKC KC) (hKM : isKM KM) (h : Rel σ τ) (h1 : vp_in (x + 1) L) (h2 : vp_in (x + 2) L) (h3 : vp_in (x + 3) L) (h4 : vp_in (x + 4) L) (h5 : vp_in (x + 5) L) (k : ∀ σ τ : St, Rel σ τ → gG X (σ, τ) 1411 (LV b (KC.2.1 0) (KM.2.1 0) x) []) : gG X (σ, τ) 1297 (LV b (KC.2.1 0) (KM.2.1 0) x) [] := by
  obtain ⟨r, e1, e2⟩ := e_asked h
  refine g_aload_n C 2 dL_law_1297 rfl ?_
  refine l_cC C F [] (mX5_asked hKC _ σ r e1) mi_X5_asked (qO_X5 hKC) rfl kmL_150 ⟨rfl, rfl, by decide, by decide⟩ rfl rfl (Nat.le_of_ble_eq_true rfl) dL_law_1298 ?_
  refine g_aload_n C 1 dL_law_1301 rfl ?_
  refine l_cM C F [] (mX6_asked hKM _ τ r e2) mi_X6_asked (qO_X6 hKM) rfl kmL_153 ⟨rfl, rfl, by decide, by decide⟩ rfl rfl (Nat.le_of_ble_eq_true rfl) dL_law_1302 ?_
  exact g_icmp_eq C (α := Unit) (o := ()) (Y := some ()) (N := none) 1411 dL_law_1305 (by decide) (if_pos rfl) (fun _ => k σ τ h) (fun z => by cases z)
theorem lc_34 (C : gF X cL_law RL ret 4 room_1) (F : lF X KC KM b L xs) (hKC : isKC KC) (hKM : isKM KM) (h : Rel σ τ) (h1 : vp_in (x + 1) L) (h2 : vp_in (x + 2) L) (h3 : vp_in (x + 3) L) (h4 : vp_in (x + 4) L) (h5 : vp_in (x + 5) L) (k : ∀ σ τ : St, Rel σ τ → gG X (σ, τ) 1411 (LV b (KC.2.1 0) (KM.2.1 0) x) []) : gG X (σ, τ) 1310 (LV b (KC.2.1 0) (KM.2.1 0) x) [] := by
  obtain ⟨r, e1, e2⟩ := e_upper h
  refine g_aload_n C 2 dL_law_1310 rfl ?_
  refine l_cC C F [] (mX5_upper hKC _ σ r e1) mi_X5_upper (qO_X5 hKC) rfl kmL_154 ⟨rfl, rfl, by decide, by decide⟩ rfl rfl (Nat.le_of_ble_eq_true rfl) dL_law_1311 ?_
  refine g_aload_n C 1 dL_law_1314 rfl ?_
  refine l_cM C F [] (mX6_upper hKM _ τ r e2) mi_X6_upper (qO_X6 hKM) rfl kmL_158 ⟨rfl, rfl, by decide, by decide⟩ rfl rfl (Nat.le_of_ble_eq_true rfl) dL_law_1315 ?_
  exact g_lcmp_eq C (α := Unit) (o := ()) (Y := some ()) (N := none) 1411 dL_law_1318 dL_law_1319 (by decide) (if_pos rfl) (fun _ => k σ τ h) (fun z => by cases z)
theorem lc_35 (C : gF X cL_law RL ret 4 room_1) (F : lF X KC KM b L xs) (hKC : isKC KC) (hKM : isKM KM) (h : Rel σ τ) (h1 : vp_in (x + 1) L) (h2 : vp_in (x + 2) L) (h3 : vp_in (x + 3) L) (h4 : vp_in (x + 4) L) (h5 : vp_in (x + 5) L) (k : ∀ σ τ : St, Rel σ τ → gG X (σ, τ) 1411 (LV b (KC.2.1 0) (KM.2.1 0) x) []) : gG X (σ, τ) 1324 (LV b (KC.2.1 0) (KM.2.1 0) x) [] := by
  obtain ⟨r, e1, e2⟩ := e_lower h
  refine g_aload_n C 2 dL_law_1324 rfl ?_
  refine l_cC C F [] (mX5_lower hKC _ σ r e1) mi_X5_lower (qO_X5 hKC) rfl kmL_159 ⟨rfl, rfl, by decide, by decide⟩ rfl rfl (Nat.le_of_ble_eq_true rfl) dL_law_1325 ?_
  refine g_aload_n C 1 dL_law_1328 rfl ?_
  refine l_cM C F [] (mX6_lower hKM _ τ r e2) mi_X6_lower (qO_X6 hKM) rfl kmL_162 ⟨rfl, rfl, by decide, by decide⟩ rfl rfl (Nat.le_of_ble_eq_true rfl) dL_law_1329 ?_
  exact g_lcmp_eq C (α := Unit) (o := ()) (Y := some ()) (N := none) 1411 dL_law_1332 dL_law_1333 (by decide) (if_pos rfl) (fun _ => k σ τ h) (fun z => by cases z)
theorem lc_36 (C : gF X cL_law RL ret 4 room_1) (F : lF X KC KM b L xs) (hKC : isKC KC) (hKM : isKM KM) (h : Rel σ τ) (h1 : vp_in (x + 1) L) (h2 : vp_in (x + 2) L) (h3 : vp_in (x + 3) L) (h4 : vp_in (x + 4) L) (h5 : vp_in (x + 5) L) (k : ∀ σ τ : St, Rel σ τ → gG X (σ, τ) 1411 (LV b (KC.2.1 0) (KM.2.1 0) x) []) : gG X (σ, τ) 1338 (LV b (KC.2.1 0) (KM.2.1 0) x) [] := by
  obtain ⟨r, e1, e2⟩ := e_count h (xs (x + 1).toNatClampNeg)
  refine g_aload_n C 2 dL_law_1338 rfl ?_
  refine l_arg C F (v := 1) dL_law_1339 dL_law_1340 dL_law_1341 dL_law_1342 dL_law_1343 (by decide) h1 ?_
  refine l_cC C F [.int (xs (x + 1).toNatClampNeg)] (mX5_count hKC _ σ _ r e1) mi_X5_count (qO_X5 hKC) rfl kmL_163 ⟨rfl, rfl, by decide, by decide⟩ rfl rfl (Nat.le_of_ble_eq_true rfl) dL_law_1344 ?_
  refine g_aload_n C 1 dL_law_1347 rfl ?_
  refine l_arg C F (v := 1) dL_law_1348 dL_law_1349 dL_law_1350 dL_law_1351 dL_law_1352 (by decide) h1 ?_
  refine l_cM C F [.int (xs (x + 1).toNatClampNeg)] (mX6_count hKM _ τ _ r e2) mi_X6_count (qO_X6 hKM) rfl kmL_166 ⟨rfl, rfl, by decide, by decide⟩ rfl rfl (Nat.le_of_ble_eq_true rfl) dL_law_1353 ?_
  exact g_icmp_eq C (α := Unit) (o := ()) (Y := some ()) (N := none) 1411 dL_law_1356 (by decide) (if_pos rfl) (fun _ => k σ τ h) (fun z => by cases z)
theorem lc_37 (C : gF X cL_law RL ret 4 room_1) (F : lF X KC KM b L xs) (hKC : isKC KC) (hKM : isKM KM) (h : Rel σ τ) (h1 : vp_in (x + 1) L) (h2 : vp_in (x + 2) L) (h3 : vp_in (x + 3) L) (h4 : vp_in (x + 4) L) (h5 : vp_in (x + 5) L) (k : ∀ σ τ : St, Rel σ τ → gG X (σ, τ) 1411 (LV b (KC.2.1 0) (KM.2.1 0) x) []) : gG X (σ, τ) 1361 (LV b (KC.2.1 0) (KM.2.1 0) x) [] := by
  obtain ⟨r, e1, e2⟩ := e_finding h
  refine g_aload_n C 2 dL_law_1361 rfl ?_
  refine l_cC C F [] (mX5_finding hKC _ σ r e1) mi_X5_finding (qO_X5 hKC) rfl kmL_167 ⟨rfl, rfl, by decide, by decide⟩ rfl rfl (Nat.le_of_ble_eq_true rfl) dL_law_1362 ?_
  refine g_aload_n C 1 dL_law_1365 rfl ?_
  refine l_cM C F [] (mX6_finding hKM _ τ r e2) mi_X6_finding (qO_X6 hKM) rfl kmL_170 ⟨rfl, rfl, by decide, by decide⟩ rfl rfl (Nat.le_of_ble_eq_true rfl) dL_law_1366 ?_
  exact g_icmp_eq C (α := Unit) (o := ()) (Y := some ()) (N := none) 1411 dL_law_1369 (by decide) (if_pos rfl) (fun _ => k σ τ h) (fun z => by cases z)
theorem lc_38 (C : gF X cL_law RL ret 4 room_1) (F : lF X KC KM b L xs) (hKC : isKC KC) (hKM : isKM KM) (h : Rel σ τ) (h1 : vp_in (x + 1) L) (h2 : vp_in (x + 2) L) (h3 : vp_in (x + 3) L) (h4 : vp_in (x + 4) L) (h5 : vp_in (x + 5) L) (k : ∀ σ τ : St, Rel σ τ → gG X (σ, τ) 1411 (LV b (KC.2.1 0) (KM.2.1 0) x) []) : gG X (σ, τ) 1374 (LV b (KC.2.1 0) (KM.2.1 0) x) [] := by
  obtain ⟨r, e1, e2⟩ := e_findings h (xs (x + 1).toNatClampNeg)
  refine g_aload_n C 2 dL_law_1374 rfl ?_
  refine l_arg C F (v := 1) dL_law_1375 dL_law_1376 dL_law_1377 dL_law_1378 dL_law_1379 (by decide) h1 ?_
  refine l_cC C F [.int (xs (x + 1).toNatClampNeg)] (mX5_findings hKC _ σ _ r e1) mi_X5_findings (qO_X5 hKC) rfl kmL_171 ⟨rfl, rfl, by decide, by decide⟩ rfl rfl (Nat.le_of_ble_eq_true rfl) dL_law_1380 ?_
  refine g_aload_n C 1 dL_law_1383 rfl ?_
  refine l_arg C F (v := 1) dL_law_1384 dL_law_1385 dL_law_1386 dL_law_1387 dL_law_1388 (by decide) h1 ?_
  refine l_cM C F [.int (xs (x + 1).toNatClampNeg)] (mX6_findings hKM _ τ _ r e2) mi_X6_findings (qO_X6 hKM) rfl kmL_174 ⟨rfl, rfl, by decide, by decide⟩ rfl rfl (Nat.le_of_ble_eq_true rfl) dL_law_1389 ?_
  exact g_icmp_eq C (α := Unit) (o := ()) (Y := some ()) (N := none) 1411 dL_law_1392 (by decide) (if_pos rfl) (fun _ => k σ τ h) (fun z => by cases z)
theorem lc_39 (C : gF X cL_law RL ret 4 room_1) (F : lF X KC KM b L xs) (hKC : isKC KC) (hKM : isKM KM) (h : Rel σ τ) (h1 : vp_in (x + 1) L) (h2 : vp_in (x + 2) L) (h3 : vp_in (x + 3) L) (h4 : vp_in (x + 4) L) (h5 : vp_in (x + 5) L) (k : ∀ σ τ : St, Rel σ τ → gG X (σ, τ) 1411 (LV b (KC.2.1 0) (KM.2.1 0) x) []) : gG X (σ, τ) 1397 (LV b (KC.2.1 0) (KM.2.1 0) x) [] := by
  obtain ⟨r, e1, e2⟩ := e_digest h
  refine g_aload_n C 2 dL_law_1397 rfl ?_
  refine l_cC C F [] (mX5_digest hKC _ σ r e1) mi_X5_digest (qO_X5 hKC) rfl kmL_175 ⟨rfl, rfl, by decide, by decide⟩ rfl rfl (Nat.le_of_ble_eq_true rfl) dL_law_1398 ?_
  refine g_aload_n C 1 dL_law_1401 rfl ?_
  refine l_cM C F [] (mX6_digest hKM _ τ r e2) mi_X6_digest (qO_X6 hKM) rfl kmL_178 ⟨rfl, rfl, by decide, by decide⟩ rfl rfl (Nat.le_of_ble_eq_true rfl) dL_law_1402 ?_
  exact g_lcmp_eq C (α := Unit) (o := ()) (Y := some ()) (N := none) 1411 dL_law_1405 dL_law_1406 (by decide) (if_pos rfl) (fun _ => k σ τ h) (fun z => by cases z)
end LC
