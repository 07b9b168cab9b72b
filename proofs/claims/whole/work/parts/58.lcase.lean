/-! THE LAW, CASE BY CASE (printed by wip/gen/mk_law.py) -/
set_option maxRecDepth 100000 in
theorem ml_law_13 : mLk R_law 13 yX9_set := Or.inl (gd_mem 403 rfl rfl)
set_option maxRecDepth 100000 in
theorem ml_law_17 : mLk R_law 17 yX10_set := Or.inl (gd_mem 1121 rfl rfl)
set_option maxRecDepth 100000 in
theorem ml_law_18 : mLk R_law 18 yX9_flower := Or.inl (gd_mem 423 rfl rfl)
set_option maxRecDepth 100000 in
theorem ml_law_22 : mLk R_law 22 yX10_flower := Or.inl (gd_mem 1247 rfl rfl)
set_option maxRecDepth 100000 in
theorem ml_law_23 : mLk R_law 23 yX9_told := Or.inl (gd_mem 434 rfl rfl)
set_option maxRecDepth 100000 in
theorem ml_law_26 : mLk R_law 26 yX10_told := Or.inl (gd_mem 1252 rfl rfl)
set_option maxRecDepth 100000 in
theorem ml_law_27 : mLk R_law 27 yX9_feed := Or.inl (gd_mem 517 rfl rfl)
set_option maxRecDepth 100000 in
theorem ml_law_31 : mLk R_law 31 yX10_feed := Or.inl (gd_mem 1253 rfl rfl)
set_option maxRecDepth 100000 in
theorem ml_law_32 : mLk R_law 32 yX9_text := Or.inl (gd_mem 525 rfl rfl)
set_option maxRecDepth 100000 in
theorem ml_law_36 : mLk R_law 36 yX10_text := Or.inl (gd_mem 1258 rfl rfl)
set_option maxRecDepth 100000 in
theorem ml_law_37 : mLk R_law 37 yX9_force := Or.inl (gd_mem 667 rfl rfl)
set_option maxRecDepth 100000 in
theorem ml_law_40 : mLk R_law 40 yX10_force := Or.inl (gd_mem 1262 rfl rfl)
set_option maxRecDepth 100000 in
theorem ml_law_41 : mLk R_law 41 yX9_lay := Or.inl (gd_mem 672 rfl rfl)
set_option maxRecDepth 100000 in
theorem ml_law_44 : mLk R_law 44 yX10_lay := Or.inl (gd_mem 1266 rfl rfl)
set_option maxRecDepth 100000 in
theorem ml_law_45 : mLk R_law 45 yX9_draw := Or.inl (gd_mem 725 rfl rfl)
set_option maxRecDepth 100000 in
theorem ml_law_48 : mLk R_law 48 yX10_draw := Or.inl (gd_mem 1281 rfl rfl)
set_option maxRecDepth 100000 in
theorem ml_law_49 : mLk R_law 49 yX9_stem := Or.inl (gd_mem 739 rfl rfl)
set_option maxRecDepth 100000 in
theorem ml_law_52 : mLk R_law 52 yX10_stem := Or.inl (gd_mem 1285 rfl rfl)
set_option maxRecDepth 100000 in
theorem ml_law_53 : mLk R_law 53 yX9_bunch := Or.inl (gd_mem 743 rfl rfl)
set_option maxRecDepth 100000 in
theorem ml_law_56 : mLk R_law 56 yX10_bunch := Or.inl (gd_mem 1289 rfl rfl)
set_option maxRecDepth 100000 in
theorem ml_law_57 : mLk R_law 57 yX9_good := Or.inl (gd_mem 776 rfl rfl)
set_option maxRecDepth 100000 in
theorem ml_law_60 : mLk R_law 60 yX10_good := Or.inl (gd_mem 1320 rfl rfl)
set_option maxRecDepth 100000 in
theorem ml_law_61 : mLk R_law 61 yX9_next := Or.inl (gd_mem 780 rfl rfl)
set_option maxRecDepth 100000 in
theorem ml_law_64 : mLk R_law 64 yX10_next := Or.inl (gd_mem 1325 rfl rfl)
set_option maxRecDepth 100000 in
theorem ml_law_65 : mLk R_law 65 yX9_howMany := Or.inl (gd_mem 789 rfl rfl)
set_option maxRecDepth 100000 in
theorem ml_law_68 : mLk R_law 68 yX10_howMany := Or.inl (gd_mem 1337 rfl rfl)
set_option maxRecDepth 100000 in
theorem ml_law_69 : mLk R_law 69 yX9_order := Or.inl (gd_mem 797 rfl rfl)
set_option maxRecDepth 100000 in
theorem ml_law_72 : mLk R_law 72 yX10_order := Or.inl (gd_mem 1341 rfl rfl)
set_option maxRecDepth 100000 in
theorem ml_law_73 : mLk R_law 73 yX9_forMoney := Or.inl (gd_mem 841 rfl rfl)
set_option maxRecDepth 100000 in
theorem ml_law_76 : mLk R_law 76 yX10_forMoney := Or.inl (gd_mem 1358 rfl rfl)
set_option maxRecDepth 100000 in
theorem ml_law_77 : mLk R_law 77 yX9_worst := Or.inl (gd_mem 849 rfl rfl)
set_option maxRecDepth 100000 in
theorem ml_law_80 : mLk R_law 80 yX10_worst := Or.inl (gd_mem 1363 rfl rfl)
set_option maxRecDepth 100000 in
theorem ml_law_81 : mLk R_law 81 yX9_tells := Or.inl (gd_mem 858 rfl rfl)
set_option maxRecDepth 100000 in
theorem ml_law_84 : mLk R_law 84 yX10_tells := Or.inl (gd_mem 1367 rfl rfl)
set_option maxRecDepth 100000 in
theorem ml_law_85 : mLk R_law 85 yX9_film := Or.inl (gd_mem 886 rfl rfl)
set_option maxRecDepth 100000 in
theorem ml_law_88 : mLk R_law 88 yX10_film := Or.inl (gd_mem 1379 rfl rfl)
set_option maxRecDepth 100000 in
theorem ml_law_89 : mLk R_law 89 yX9_drawn := Or.inl (gd_mem 898 rfl rfl)
set_option maxRecDepth 100000 in
theorem ml_law_92 : mLk R_law 92 yX10_drawn := Or.inl (gd_mem 1390 rfl rfl)
set_option maxRecDepth 100000 in
theorem ml_law_93 : mLk R_law 93 yX9_chance := Or.inl (gd_mem 907 rfl rfl)
set_option maxRecDepth 100000 in
theorem ml_law_97 : mLk R_law 97 yX10_chance := Or.inl (gd_mem 1400 rfl rfl)
set_option maxRecDepth 100000 in
theorem ml_law_98 : mLk R_law 98 yX9_image := Or.inl (gd_mem 915 rfl rfl)
set_option maxRecDepth 100000 in
theorem ml_law_101 : mLk R_law 101 yX10_image := Or.inl (gd_mem 1406 rfl rfl)
set_option maxRecDepth 100000 in
theorem ml_law_102 : mLk R_law 102 yX9_back := Or.inl (gd_mem 924 rfl rfl)
set_option maxRecDepth 100000 in
theorem ml_law_105 : mLk R_law 105 yX10_back := Or.inl (gd_mem 1410 rfl rfl)
set_option maxRecDepth 100000 in
theorem ml_law_106 : mLk R_law 106 yX9_count := Or.inl (gd_mem 928 rfl rfl)
set_option maxRecDepth 100000 in
theorem ml_law_109 : mLk R_law 109 yX10_count := Or.inl (gd_mem 1414 rfl rfl)
set_option maxRecDepth 100000 in
theorem ml_law_110 : mLk R_law 110 yX9_sheet := Or.inl (gd_mem 936 rfl rfl)
set_option maxRecDepth 100000 in
theorem ml_law_113 : mLk R_law 113 yX10_sheet := Or.inl (gd_mem 1418 rfl rfl)
set_option maxRecDepth 100000 in
theorem ml_law_114 : mLk R_law 114 yX9_cell := Or.inl (gd_mem 943 rfl rfl)
set_option maxRecDepth 100000 in
theorem ml_law_117 : mLk R_law 117 yX10_cell := Or.inl (gd_mem 1419 rfl rfl)
set_option maxRecDepth 100000 in
theorem ml_law_118 : mLk R_law 118 yX9_copy := Or.inl (gd_mem 948 rfl rfl)
set_option maxRecDepth 100000 in
theorem ml_law_122 : mLk R_law 122 yX10_copy := Or.inl (gd_mem 1423 rfl rfl)
set_option maxRecDepth 100000 in
theorem ml_law_123 : mLk R_law 123 yX9_flowers := Or.inl (gd_mem 957 rfl rfl)
set_option maxRecDepth 100000 in
theorem ml_law_127 : mLk R_law 127 yX10_flowers := Or.inl (gd_mem 1427 rfl rfl)
set_option maxRecDepth 100000 in
theorem ml_law_128 : mLk R_law 128 yX9_taken := Or.inl (gd_mem 961 rfl rfl)
set_option maxRecDepth 100000 in
theorem ml_law_131 : mLk R_law 131 yX10_taken := Or.inl (gd_mem 1432 rfl rfl)
theorem lc_0 {X : CT} {N i : Nat} {xs : Nat → Int32} {M : Mem} (C : Cx X code R_law 1300) (A : SC X N xs) (hN : N ≤ 3072) (hi : i + 6 ≤ N) (I : Inv M) (K : ∀ M2, Inv M2 → WM X 1035 (L0 i) [] M2) : WM X 160 (L0 i) [] M := by
  refine m_aload_n C 1 d_law_160 rfl rfl ?_
  refine m_sarg C A hN (j := 1) (by omega) d_law_161 d_law_162 d_law_163 d_law_164 d_law_165 ?_
  refine m_sarg C A hN (j := 2) (by omega) d_law_166 d_law_167 d_law_168 d_law_169 d_law_170 ?_
  refine m_sarg C A hN (j := 3) (by omega) d_law_171 d_law_172 d_law_173 d_law_174 d_law_175 ?_
  refine m_callVi C (as := [vI (xs (i + 1)).toInt, vI (xs (i + 2)).toInt, vI (xs (i + 3)).toInt]) (rest := []) ok_X9_set ml_law_13 so_0 rfl rfl rfl (Nat.le_of_ble_eq_true rfl) (fun _ => rfl) d_law_176 ((st_set 1200 M (canI [xs (i + 1), xs (i + 2), xs (i + 3)]) I).mono (fun r M1 _ _ h1 => ?_))
  refine m_aload_n C 2 d_law_179 rfl rfl ?_
  refine m_sarg C A hN (j := 1) (by omega) d_law_180 d_law_181 d_law_182 d_law_183 d_law_184 ?_
  refine m_sarg C A hN (j := 2) (by omega) d_law_185 d_law_186 d_law_187 d_law_188 d_law_189 ?_
  refine m_sarg C A hN (j := 3) (by omega) d_law_190 d_law_191 d_law_192 d_law_193 d_law_194 ?_
  refine m_callVi C (as := [vI (xs (i + 1)).toInt, vI (xs (i + 2)).toInt, vI (xs (i + 3)).toInt]) (rest := [vI r]) ok_X10_set ml_law_17 so_51 rfl rfl rfl (Nat.le_of_ble_eq_true rfl) (fun _ => rfl) d_law_195 (Con.mono h1 (fun r2 M2 _ _ h2 => ?_))
  exact m_icmp_eq C (tgt := 1035) d_law_198 (by decide) (fun _ => K M2 h2.2) (fun e => absurd h2.1 e)
theorem lc_1 {X : CT} {N i : Nat} {xs : Nat → Int32} {M : Mem} (C : Cx X code R_law 1300) (A : SC X N xs) (hN : N ≤ 3072) (hi : i + 6 ≤ N) (I : Inv M) (K : ∀ M2, Inv M2 → WM X 1035 (L0 i) [] M2) : WM X 203 (L0 i) [] M := by
  refine m_aload_n C 1 d_law_203 rfl rfl ?_
  refine m_sarg C A hN (j := 1) (by omega) d_law_204 d_law_205 d_law_206 d_law_207 d_law_208 ?_
  refine m_sarg C A hN (j := 2) (by omega) d_law_209 d_law_210 d_law_211 d_law_212 d_law_213 ?_
  refine m_callVi C (as := [vI (xs (i + 1)).toInt, vI (xs (i + 2)).toInt]) (rest := []) ok_X9_flower ml_law_18 so_0 rfl rfl rfl (Nat.le_of_ble_eq_true rfl) (fun _ => rfl) d_law_214 ((st_flower 1200 M (canI [xs (i + 1), xs (i + 2)]) I).mono (fun r M1 _ _ h1 => ?_))
  refine m_aload_n C 2 d_law_217 rfl rfl ?_
  refine m_sarg C A hN (j := 1) (by omega) d_law_218 d_law_219 d_law_220 d_law_221 d_law_222 ?_
  refine m_sarg C A hN (j := 2) (by omega) d_law_223 d_law_224 d_law_225 d_law_226 d_law_227 ?_
  refine m_callVi C (as := [vI (xs (i + 1)).toInt, vI (xs (i + 2)).toInt]) (rest := [vI r]) ok_X10_flower ml_law_22 so_51 rfl rfl rfl (Nat.le_of_ble_eq_true rfl) (fun _ => rfl) d_law_228 (Con.mono h1 (fun r2 M2 _ _ h2 => ?_))
  exact m_icmp_eq C (tgt := 1035) d_law_231 (by decide) (fun _ => K M2 h2.2) (fun e => absurd h2.1 e)
theorem lc_2 {X : CT} {N i : Nat} {xs : Nat → Int32} {M : Mem} (C : Cx X code R_law 1300) (A : SC X N xs) (hN : N ≤ 3072) (hi : i + 6 ≤ N) (I : Inv M) (K : ∀ M2, Inv M2 → WM X 1035 (L0 i) [] M2) : WM X 236 (L0 i) [] M := by
  refine m_aload_n C 1 d_law_236 rfl rfl ?_
  refine m_sarg C A hN (j := 1) (by omega) d_law_237 d_law_238 d_law_239 d_law_240 d_law_241 ?_
  refine m_sarg C A hN (j := 2) (by omega) d_law_242 d_law_243 d_law_244 d_law_245 d_law_246 ?_
  refine m_callVi C (as := [vI (xs (i + 1)).toInt, vI (xs (i + 2)).toInt]) (rest := []) ok_X9_told ml_law_23 so_0 rfl rfl rfl (Nat.le_of_ble_eq_true rfl) (fun _ => rfl) d_law_247 ((st_told 1200 M (canI [xs (i + 1), xs (i + 2)]) I).mono (fun r M1 _ _ h1 => ?_))
  refine m_aload_n C 2 d_law_250 rfl rfl ?_
  refine m_sarg C A hN (j := 1) (by omega) d_law_251 d_law_252 d_law_253 d_law_254 d_law_255 ?_
  refine m_sarg C A hN (j := 2) (by omega) d_law_256 d_law_257 d_law_258 d_law_259 d_law_260 ?_
  refine m_callVi C (as := [vI (xs (i + 1)).toInt, vI (xs (i + 2)).toInt]) (rest := [vI r]) ok_X10_told ml_law_26 so_51 rfl rfl rfl (Nat.le_of_ble_eq_true rfl) (fun _ => rfl) d_law_261 (Con.mono h1 (fun r2 M2 _ _ h2 => ?_))
  exact m_icmp_eq C (tgt := 1035) d_law_264 (by decide) (fun _ => K M2 h2.2) (fun e => absurd h2.1 e)
theorem lc_3 {X : CT} {N i : Nat} {xs : Nat → Int32} {M : Mem} (C : Cx X code R_law 1300) (A : SC X N xs) (hN : N ≤ 3072) (hi : i + 6 ≤ N) (I : Inv M) (K : ∀ M2, Inv M2 → WM X 1035 (L0 i) [] M2) : WM X 269 (L0 i) [] M := by
  refine m_aload_n C 1 d_law_269 rfl rfl ?_
  refine m_sarg C A hN (j := 1) (by omega) d_law_270 d_law_271 d_law_272 d_law_273 d_law_274 ?_
  refine m_callVi C (as := [vI (xs (i + 1)).toInt]) (rest := []) ok_X9_feed ml_law_27 so_0 rfl rfl rfl (Nat.le_of_ble_eq_true rfl) (fun _ => rfl) d_law_275 ((st_feed 1200 M (canI [xs (i + 1)]) I).mono (fun r M1 _ _ h1 => ?_))
  refine m_aload_n C 2 d_law_278 rfl rfl ?_
  refine m_sarg C A hN (j := 1) (by omega) d_law_279 d_law_280 d_law_281 d_law_282 d_law_283 ?_
  refine m_callVi C (as := [vI (xs (i + 1)).toInt]) (rest := [vI r]) ok_X10_feed ml_law_31 so_51 rfl rfl rfl (Nat.le_of_ble_eq_true rfl) (fun _ => rfl) d_law_284 (Con.mono h1 (fun r2 M2 _ _ h2 => ?_))
  exact m_icmp_eq C (tgt := 1035) d_law_287 (by decide) (fun _ => K M2 h2.2) (fun e => absurd h2.1 e)
theorem lc_4 {X : CT} {N i : Nat} {xs : Nat → Int32} {M : Mem} (C : Cx X code R_law 1300) (A : SC X N xs) (hN : N ≤ 3072) (hi : i + 6 ≤ N) (I : Inv M) (K : ∀ M2, Inv M2 → WM X 1035 (L0 i) [] M2) : WM X 292 (L0 i) [] M := by
  refine m_aload_n C 1 d_law_292 rfl rfl ?_
  refine m_callVi C (as := []) (rest := []) ok_X9_text ml_law_32 so_0 rfl rfl rfl (Nat.le_of_ble_eq_true rfl) (fun _ => rfl) d_law_293 ((st_text 1200 M (canI []) I).mono (fun r M1 _ _ h1 => ?_))
  refine m_aload_n C 2 d_law_296 rfl rfl ?_
  refine m_callVi C (as := []) (rest := [vI r]) ok_X10_text ml_law_36 so_51 rfl rfl rfl (Nat.le_of_ble_eq_true rfl) (fun _ => rfl) d_law_297 (Con.mono h1 (fun r2 M2 _ _ h2 => ?_))
  exact m_icmp_eq C (tgt := 1035) d_law_300 (by decide) (fun _ => K M2 h2.2) (fun e => absurd h2.1 e)
theorem lc_5 {X : CT} {N i : Nat} {xs : Nat → Int32} {M : Mem} (C : Cx X code R_law 1300) (A : SC X N xs) (hN : N ≤ 3072) (hi : i + 6 ≤ N) (I : Inv M) (K : ∀ M2, Inv M2 → WM X 1035 (L0 i) [] M2) : WM X 305 (L0 i) [] M := by
  refine m_aload_n C 1 d_law_305 rfl rfl ?_
  refine m_sarg C A hN (j := 1) (by omega) d_law_306 d_law_307 d_law_308 d_law_309 d_law_310 ?_
  refine m_callVi C (as := [vI (xs (i + 1)).toInt]) (rest := []) ok_X9_force ml_law_37 so_0 rfl rfl rfl (Nat.le_of_ble_eq_true rfl) (fun _ => rfl) d_law_311 ((st_force 1200 M (canI [xs (i + 1)]) I).mono (fun r M1 _ _ h1 => ?_))
  refine m_aload_n C 2 d_law_314 rfl rfl ?_
  refine m_sarg C A hN (j := 1) (by omega) d_law_315 d_law_316 d_law_317 d_law_318 d_law_319 ?_
  refine m_callVi C (as := [vI (xs (i + 1)).toInt]) (rest := [vI r]) ok_X10_force ml_law_40 so_51 rfl rfl rfl (Nat.le_of_ble_eq_true rfl) (fun _ => rfl) d_law_320 (Con.mono h1 (fun r2 M2 _ _ h2 => ?_))
  exact m_icmp_eq C (tgt := 1035) d_law_323 (by decide) (fun _ => K M2 h2.2) (fun e => absurd h2.1 e)
theorem lc_6 {X : CT} {N i : Nat} {xs : Nat → Int32} {M : Mem} (C : Cx X code R_law 1300) (A : SC X N xs) (hN : N ≤ 3072) (hi : i + 6 ≤ N) (I : Inv M) (K : ∀ M2, Inv M2 → WM X 1035 (L0 i) [] M2) : WM X 328 (L0 i) [] M := by
  refine m_aload_n C 1 d_law_328 rfl rfl ?_
  refine m_sarg C A hN (j := 1) (by omega) d_law_329 d_law_330 d_law_331 d_law_332 d_law_333 ?_
  refine m_callVi C (as := [vI (xs (i + 1)).toInt]) (rest := []) ok_X9_lay ml_law_41 so_0 rfl rfl rfl (Nat.le_of_ble_eq_true rfl) (fun _ => rfl) d_law_334 ((st_lay 1200 M (canI [xs (i + 1)]) I).mono (fun r M1 _ _ h1 => ?_))
  refine m_aload_n C 2 d_law_337 rfl rfl ?_
  refine m_sarg C A hN (j := 1) (by omega) d_law_338 d_law_339 d_law_340 d_law_341 d_law_342 ?_
  refine m_callVi C (as := [vI (xs (i + 1)).toInt]) (rest := [vI r]) ok_X10_lay ml_law_44 so_51 rfl rfl rfl (Nat.le_of_ble_eq_true rfl) (fun _ => rfl) d_law_343 (Con.mono h1 (fun r2 M2 _ _ h2 => ?_))
  exact m_icmp_eq C (tgt := 1035) d_law_346 (by decide) (fun _ => K M2 h2.2) (fun e => absurd h2.1 e)
theorem lc_7 {X : CT} {N i : Nat} {xs : Nat → Int32} {M : Mem} (C : Cx X code R_law 1300) (A : SC X N xs) (hN : N ≤ 3072) (hi : i + 6 ≤ N) (I : Inv M) (K : ∀ M2, Inv M2 → WM X 1035 (L0 i) [] M2) : WM X 351 (L0 i) [] M := by
  refine m_aload_n C 1 d_law_351 rfl rfl ?_
  refine m_sarg C A hN (j := 1) (by omega) d_law_352 d_law_353 d_law_354 d_law_355 d_law_356 ?_
  refine m_callVi C (as := [vI (xs (i + 1)).toInt]) (rest := []) ok_X9_draw ml_law_45 so_0 rfl rfl rfl (Nat.le_of_ble_eq_true rfl) (fun _ => rfl) d_law_357 ((st_draw 1200 M (canI [xs (i + 1)]) I).mono (fun r M1 _ _ h1 => ?_))
  refine m_aload_n C 2 d_law_360 rfl rfl ?_
  refine m_sarg C A hN (j := 1) (by omega) d_law_361 d_law_362 d_law_363 d_law_364 d_law_365 ?_
  refine m_callVi C (as := [vI (xs (i + 1)).toInt]) (rest := [vI r]) ok_X10_draw ml_law_48 so_51 rfl rfl rfl (Nat.le_of_ble_eq_true rfl) (fun _ => rfl) d_law_366 (Con.mono h1 (fun r2 M2 _ _ h2 => ?_))
  exact m_icmp_eq C (tgt := 1035) d_law_369 (by decide) (fun _ => K M2 h2.2) (fun e => absurd h2.1 e)
theorem lc_8 {X : CT} {N i : Nat} {xs : Nat → Int32} {M : Mem} (C : Cx X code R_law 1300) (A : SC X N xs) (hN : N ≤ 3072) (hi : i + 6 ≤ N) (I : Inv M) (K : ∀ M2, Inv M2 → WM X 1035 (L0 i) [] M2) : WM X 374 (L0 i) [] M := by
  refine m_aload_n C 1 d_law_374 rfl rfl ?_
  refine m_sarg C A hN (j := 1) (by omega) d_law_375 d_law_376 d_law_377 d_law_378 d_law_379 ?_
  refine m_sarg C A hN (j := 2) (by omega) d_law_380 d_law_381 d_law_382 d_law_383 d_law_384 ?_
  refine m_callVi C (as := [vI (xs (i + 1)).toInt, vI (xs (i + 2)).toInt]) (rest := []) ok_X9_stem ml_law_49 so_0 rfl rfl rfl (Nat.le_of_ble_eq_true rfl) (fun _ => rfl) d_law_385 ((st_stem 1200 M (canI [xs (i + 1), xs (i + 2)]) I).mono (fun r M1 _ _ h1 => ?_))
  refine m_aload_n C 2 d_law_388 rfl rfl ?_
  refine m_sarg C A hN (j := 1) (by omega) d_law_389 d_law_390 d_law_391 d_law_392 d_law_393 ?_
  refine m_sarg C A hN (j := 2) (by omega) d_law_394 d_law_395 d_law_396 d_law_397 d_law_398 ?_
  refine m_callVi C (as := [vI (xs (i + 1)).toInt, vI (xs (i + 2)).toInt]) (rest := [vI r]) ok_X10_stem ml_law_52 so_51 rfl rfl rfl (Nat.le_of_ble_eq_true rfl) (fun _ => rfl) d_law_399 (Con.mono h1 (fun r2 M2 _ _ h2 => ?_))
  exact m_icmp_eq C (tgt := 1035) d_law_402 (by decide) (fun _ => K M2 h2.2) (fun e => absurd h2.1 e)
theorem lc_9 {X : CT} {N i : Nat} {xs : Nat → Int32} {M : Mem} (C : Cx X code R_law 1300) (A : SC X N xs) (hN : N ≤ 3072) (hi : i + 6 ≤ N) (I : Inv M) (K : ∀ M2, Inv M2 → WM X 1035 (L0 i) [] M2) : WM X 407 (L0 i) [] M := by
  refine m_aload_n C 1 d_law_407 rfl rfl ?_
  refine m_sarg C A hN (j := 1) (by omega) d_law_408 d_law_409 d_law_410 d_law_411 d_law_412 ?_
  refine m_callVi C (as := [vI (xs (i + 1)).toInt]) (rest := []) ok_X9_bunch ml_law_53 so_0 rfl rfl rfl (Nat.le_of_ble_eq_true rfl) (fun _ => rfl) d_law_413 ((st_bunch 1200 M (canI [xs (i + 1)]) I).mono (fun r M1 _ _ h1 => ?_))
  refine m_aload_n C 2 d_law_416 rfl rfl ?_
  refine m_sarg C A hN (j := 1) (by omega) d_law_417 d_law_418 d_law_419 d_law_420 d_law_421 ?_
  refine m_callVi C (as := [vI (xs (i + 1)).toInt]) (rest := [vI r]) ok_X10_bunch ml_law_56 so_51 rfl rfl rfl (Nat.le_of_ble_eq_true rfl) (fun _ => rfl) d_law_422 (Con.mono h1 (fun r2 M2 _ _ h2 => ?_))
  exact m_icmp_eq C (tgt := 1035) d_law_425 (by decide) (fun _ => K M2 h2.2) (fun e => absurd h2.1 e)
theorem lc_10 {X : CT} {N i : Nat} {xs : Nat → Int32} {M : Mem} (C : Cx X code R_law 1300) (A : SC X N xs) (hN : N ≤ 3072) (hi : i + 6 ≤ N) (I : Inv M) (K : ∀ M2, Inv M2 → WM X 1035 (L0 i) [] M2) : WM X 430 (L0 i) [] M := by
  refine m_aload_n C 1 d_law_430 rfl rfl ?_
  refine m_sarg C A hN (j := 1) (by omega) d_law_431 d_law_432 d_law_433 d_law_434 d_law_435 ?_
  refine m_callVi C (as := [vI (xs (i + 1)).toInt]) (rest := []) ok_X9_good ml_law_57 so_0 rfl rfl rfl (Nat.le_of_ble_eq_true rfl) (fun _ => rfl) d_law_436 ((st_good 1200 M (canI [xs (i + 1)]) I).mono (fun r M1 _ _ h1 => ?_))
  refine m_aload_n C 2 d_law_439 rfl rfl ?_
  refine m_sarg C A hN (j := 1) (by omega) d_law_440 d_law_441 d_law_442 d_law_443 d_law_444 ?_
  refine m_callVi C (as := [vI (xs (i + 1)).toInt]) (rest := [vI r]) ok_X10_good ml_law_60 so_51 rfl rfl rfl (Nat.le_of_ble_eq_true rfl) (fun _ => rfl) d_law_445 (Con.mono h1 (fun r2 M2 _ _ h2 => ?_))
  exact m_icmp_eq C (tgt := 1035) d_law_448 (by decide) (fun _ => K M2 h2.2) (fun e => absurd h2.1 e)
theorem lc_11 {X : CT} {N i : Nat} {xs : Nat → Int32} {M : Mem} (C : Cx X code R_law 1300) (A : SC X N xs) (hN : N ≤ 3072) (hi : i + 6 ≤ N) (I : Inv M) (K : ∀ M2, Inv M2 → WM X 1035 (L0 i) [] M2) : WM X 453 (L0 i) [] M := by
  refine m_aload_n C 1 d_law_453 rfl rfl ?_
  refine m_sarg C A hN (j := 1) (by omega) d_law_454 d_law_455 d_law_456 d_law_457 d_law_458 ?_
  refine m_callVi C (as := [vI (xs (i + 1)).toInt]) (rest := []) ok_X9_next ml_law_61 so_0 rfl rfl rfl (Nat.le_of_ble_eq_true rfl) (fun _ => rfl) d_law_459 ((st_next 1200 M (canI [xs (i + 1)]) I).mono (fun r M1 _ _ h1 => ?_))
  refine m_aload_n C 2 d_law_462 rfl rfl ?_
  refine m_sarg C A hN (j := 1) (by omega) d_law_463 d_law_464 d_law_465 d_law_466 d_law_467 ?_
  refine m_callVi C (as := [vI (xs (i + 1)).toInt]) (rest := [vI r]) ok_X10_next ml_law_64 so_51 rfl rfl rfl (Nat.le_of_ble_eq_true rfl) (fun _ => rfl) d_law_468 (Con.mono h1 (fun r2 M2 _ _ h2 => ?_))
  exact m_icmp_eq C (tgt := 1035) d_law_471 (by decide) (fun _ => K M2 h2.2) (fun e => absurd h2.1 e)
theorem lc_12 {X : CT} {N i : Nat} {xs : Nat → Int32} {M : Mem} (C : Cx X code R_law 1300) (A : SC X N xs) (hN : N ≤ 3072) (hi : i + 6 ≤ N) (I : Inv M) (K : ∀ M2, Inv M2 → WM X 1035 (L0 i) [] M2) : WM X 476 (L0 i) [] M := by
  refine m_aload_n C 1 d_law_476 rfl rfl ?_
  refine m_sarg C A hN (j := 1) (by omega) d_law_477 d_law_478 d_law_479 d_law_480 d_law_481 ?_
  refine m_callVi C (as := [vI (xs (i + 1)).toInt]) (rest := []) ok_X9_howMany ml_law_65 so_0 rfl rfl rfl (Nat.le_of_ble_eq_true rfl) (fun _ => rfl) d_law_482 ((st_howMany 1200 M (canI [xs (i + 1)]) I).mono (fun r M1 _ _ h1 => ?_))
  refine m_aload_n C 2 d_law_485 rfl rfl ?_
  refine m_sarg C A hN (j := 1) (by omega) d_law_486 d_law_487 d_law_488 d_law_489 d_law_490 ?_
  refine m_callVi C (as := [vI (xs (i + 1)).toInt]) (rest := [vI r]) ok_X10_howMany ml_law_68 so_51 rfl rfl rfl (Nat.le_of_ble_eq_true rfl) (fun _ => rfl) d_law_491 (Con.mono h1 (fun r2 M2 _ _ h2 => ?_))
  exact m_icmp_eq C (tgt := 1035) d_law_494 (by decide) (fun _ => K M2 h2.2) (fun e => absurd h2.1 e)
theorem lc_13 {X : CT} {N i : Nat} {xs : Nat → Int32} {M : Mem} (C : Cx X code R_law 1300) (A : SC X N xs) (hN : N ≤ 3072) (hi : i + 6 ≤ N) (I : Inv M) (K : ∀ M2, Inv M2 → WM X 1035 (L0 i) [] M2) : WM X 499 (L0 i) [] M := by
  refine m_aload_n C 1 d_law_499 rfl rfl ?_
  refine m_sarg C A hN (j := 1) (by omega) d_law_500 d_law_501 d_law_502 d_law_503 d_law_504 ?_
  refine m_sarg C A hN (j := 2) (by omega) d_law_505 d_law_506 d_law_507 d_law_508 d_law_509 ?_
  refine m_callVi C (as := [vI (xs (i + 1)).toInt, vI (xs (i + 2)).toInt]) (rest := []) ok_X9_order ml_law_69 so_0 rfl rfl rfl (Nat.le_of_ble_eq_true rfl) (fun _ => rfl) d_law_510 ((st_order 1200 M (canI [xs (i + 1), xs (i + 2)]) I).mono (fun r M1 _ _ h1 => ?_))
  refine m_aload_n C 2 d_law_513 rfl rfl ?_
  refine m_sarg C A hN (j := 1) (by omega) d_law_514 d_law_515 d_law_516 d_law_517 d_law_518 ?_
  refine m_sarg C A hN (j := 2) (by omega) d_law_519 d_law_520 d_law_521 d_law_522 d_law_523 ?_
  refine m_callVi C (as := [vI (xs (i + 1)).toInt, vI (xs (i + 2)).toInt]) (rest := [vI r]) ok_X10_order ml_law_72 so_51 rfl rfl rfl (Nat.le_of_ble_eq_true rfl) (fun _ => rfl) d_law_524 (Con.mono h1 (fun r2 M2 _ _ h2 => ?_))
  exact m_icmp_eq C (tgt := 1035) d_law_527 (by decide) (fun _ => K M2 h2.2) (fun e => absurd h2.1 e)
theorem lc_14 {X : CT} {N i : Nat} {xs : Nat → Int32} {M : Mem} (C : Cx X code R_law 1300) (A : SC X N xs) (hN : N ≤ 3072) (hi : i + 6 ≤ N) (I : Inv M) (K : ∀ M2, Inv M2 → WM X 1035 (L0 i) [] M2) : WM X 532 (L0 i) [] M := by
  refine m_aload_n C 1 d_law_532 rfl rfl ?_
  refine m_sarg C A hN (j := 1) (by omega) d_law_533 d_law_534 d_law_535 d_law_536 d_law_537 ?_
  refine m_callVi C (as := [vI (xs (i + 1)).toInt]) (rest := []) ok_X9_forMoney ml_law_73 so_0 rfl rfl rfl (Nat.le_of_ble_eq_true rfl) (fun _ => rfl) d_law_538 ((st_forMoney 1200 M (canI [xs (i + 1)]) I).mono (fun r M1 _ _ h1 => ?_))
  refine m_aload_n C 2 d_law_541 rfl rfl ?_
  refine m_sarg C A hN (j := 1) (by omega) d_law_542 d_law_543 d_law_544 d_law_545 d_law_546 ?_
  refine m_callVi C (as := [vI (xs (i + 1)).toInt]) (rest := [vI r]) ok_X10_forMoney ml_law_76 so_51 rfl rfl rfl (Nat.le_of_ble_eq_true rfl) (fun _ => rfl) d_law_547 (Con.mono h1 (fun r2 M2 _ _ h2 => ?_))
  exact m_icmp_eq C (tgt := 1035) d_law_550 (by decide) (fun _ => K M2 h2.2) (fun e => absurd h2.1 e)
theorem lc_15 {X : CT} {N i : Nat} {xs : Nat → Int32} {M : Mem} (C : Cx X code R_law 1300) (A : SC X N xs) (hN : N ≤ 3072) (hi : i + 6 ≤ N) (I : Inv M) (K : ∀ M2, Inv M2 → WM X 1035 (L0 i) [] M2) : WM X 555 (L0 i) [] M := by
  refine m_aload_n C 1 d_law_555 rfl rfl ?_
  refine m_sarg C A hN (j := 1) (by omega) d_law_556 d_law_557 d_law_558 d_law_559 d_law_560 ?_
  refine m_callVi C (as := [vI (xs (i + 1)).toInt]) (rest := []) ok_X9_worst ml_law_77 so_0 rfl rfl rfl (Nat.le_of_ble_eq_true rfl) (fun _ => rfl) d_law_561 ((st_worst 1200 M (canI [xs (i + 1)]) I).mono (fun r M1 _ _ h1 => ?_))
  refine m_aload_n C 2 d_law_564 rfl rfl ?_
  refine m_sarg C A hN (j := 1) (by omega) d_law_565 d_law_566 d_law_567 d_law_568 d_law_569 ?_
  refine m_callVi C (as := [vI (xs (i + 1)).toInt]) (rest := [vI r]) ok_X10_worst ml_law_80 so_51 rfl rfl rfl (Nat.le_of_ble_eq_true rfl) (fun _ => rfl) d_law_570 (Con.mono h1 (fun r2 M2 _ _ h2 => ?_))
  exact m_icmp_eq C (tgt := 1035) d_law_573 (by decide) (fun _ => K M2 h2.2) (fun e => absurd h2.1 e)
theorem lc_16 {X : CT} {N i : Nat} {xs : Nat → Int32} {M : Mem} (C : Cx X code R_law 1300) (A : SC X N xs) (hN : N ≤ 3072) (hi : i + 6 ≤ N) (I : Inv M) (K : ∀ M2, Inv M2 → WM X 1035 (L0 i) [] M2) : WM X 578 (L0 i) [] M := by
  refine m_aload_n C 1 d_law_578 rfl rfl ?_
  refine m_sarg C A hN (j := 1) (by omega) d_law_579 d_law_580 d_law_581 d_law_582 d_law_583 ?_
  refine m_sarg C A hN (j := 2) (by omega) d_law_584 d_law_585 d_law_586 d_law_587 d_law_588 ?_
  refine m_sarg C A hN (j := 3) (by omega) d_law_589 d_law_590 d_law_591 d_law_592 d_law_593 ?_
  refine m_callVi C (as := [vI (xs (i + 1)).toInt, vI (xs (i + 2)).toInt, vI (xs (i + 3)).toInt]) (rest := []) ok_X9_tells ml_law_81 so_0 rfl rfl rfl (Nat.le_of_ble_eq_true rfl) (fun _ => rfl) d_law_594 ((st_tells 1200 M (canI [xs (i + 1), xs (i + 2), xs (i + 3)]) I).mono (fun r M1 _ _ h1 => ?_))
  refine m_aload_n C 2 d_law_597 rfl rfl ?_
  refine m_sarg C A hN (j := 1) (by omega) d_law_598 d_law_599 d_law_600 d_law_601 d_law_602 ?_
  refine m_sarg C A hN (j := 2) (by omega) d_law_603 d_law_604 d_law_605 d_law_606 d_law_607 ?_
  refine m_sarg C A hN (j := 3) (by omega) d_law_608 d_law_609 d_law_610 d_law_611 d_law_612 ?_
  refine m_callVi C (as := [vI (xs (i + 1)).toInt, vI (xs (i + 2)).toInt, vI (xs (i + 3)).toInt]) (rest := [vI r]) ok_X10_tells ml_law_84 so_51 rfl rfl rfl (Nat.le_of_ble_eq_true rfl) (fun _ => rfl) d_law_613 (Con.mono h1 (fun r2 M2 _ _ h2 => ?_))
  exact m_icmp_eq C (tgt := 1035) d_law_616 (by decide) (fun _ => K M2 h2.2) (fun e => absurd h2.1 e)
theorem lc_17 {X : CT} {N i : Nat} {xs : Nat → Int32} {M : Mem} (C : Cx X code R_law 1300) (A : SC X N xs) (hN : N ≤ 3072) (hi : i + 6 ≤ N) (I : Inv M) (K : ∀ M2, Inv M2 → WM X 1035 (L0 i) [] M2) : WM X 621 (L0 i) [] M := by
  refine m_aload_n C 1 d_law_621 rfl rfl ?_
  refine m_sarg C A hN (j := 1) (by omega) d_law_622 d_law_623 d_law_624 d_law_625 d_law_626 ?_
  refine m_sarg C A hN (j := 2) (by omega) d_law_627 d_law_628 d_law_629 d_law_630 d_law_631 ?_
  refine m_sarg C A hN (j := 3) (by omega) d_law_632 d_law_633 d_law_634 d_law_635 d_law_636 ?_
  refine m_callVi C (as := [vI (xs (i + 1)).toInt, vI (xs (i + 2)).toInt, vI (xs (i + 3)).toInt]) (rest := []) ok_X9_film ml_law_85 so_0 rfl rfl rfl (Nat.le_of_ble_eq_true rfl) (fun _ => rfl) d_law_637 ((st_film 1200 M (canI [xs (i + 1), xs (i + 2), xs (i + 3)]) I).mono (fun r M1 _ _ h1 => ?_))
  refine m_aload_n C 2 d_law_640 rfl rfl ?_
  refine m_sarg C A hN (j := 1) (by omega) d_law_641 d_law_642 d_law_643 d_law_644 d_law_645 ?_
  refine m_sarg C A hN (j := 2) (by omega) d_law_646 d_law_647 d_law_648 d_law_649 d_law_650 ?_
  refine m_sarg C A hN (j := 3) (by omega) d_law_651 d_law_652 d_law_653 d_law_654 d_law_655 ?_
  refine m_callVi C (as := [vI (xs (i + 1)).toInt, vI (xs (i + 2)).toInt, vI (xs (i + 3)).toInt]) (rest := [vI r]) ok_X10_film ml_law_88 so_51 rfl rfl rfl (Nat.le_of_ble_eq_true rfl) (fun _ => rfl) d_law_656 (Con.mono h1 (fun r2 M2 _ _ h2 => ?_))
  exact m_icmp_eq C (tgt := 1035) d_law_659 (by decide) (fun _ => K M2 h2.2) (fun e => absurd h2.1 e)
theorem lc_18 {X : CT} {N i : Nat} {xs : Nat → Int32} {M : Mem} (C : Cx X code R_law 1300) (A : SC X N xs) (hN : N ≤ 3072) (hi : i + 6 ≤ N) (I : Inv M) (K : ∀ M2, Inv M2 → WM X 1035 (L0 i) [] M2) : WM X 664 (L0 i) [] M := by
  refine m_aload_n C 1 d_law_664 rfl rfl ?_
  refine m_sarg C A hN (j := 1) (by omega) d_law_665 d_law_666 d_law_667 d_law_668 d_law_669 ?_
  refine m_sarg C A hN (j := 2) (by omega) d_law_670 d_law_671 d_law_672 d_law_673 d_law_674 ?_
  refine m_callVi C (as := [vI (xs (i + 1)).toInt, vI (xs (i + 2)).toInt]) (rest := []) ok_X9_drawn ml_law_89 so_0 rfl rfl rfl (Nat.le_of_ble_eq_true rfl) (fun _ => rfl) d_law_675 ((st_drawn 1200 M (canI [xs (i + 1), xs (i + 2)]) I).mono (fun r M1 _ _ h1 => ?_))
  refine m_aload_n C 2 d_law_678 rfl rfl ?_
  refine m_sarg C A hN (j := 1) (by omega) d_law_679 d_law_680 d_law_681 d_law_682 d_law_683 ?_
  refine m_sarg C A hN (j := 2) (by omega) d_law_684 d_law_685 d_law_686 d_law_687 d_law_688 ?_
  refine m_callVi C (as := [vI (xs (i + 1)).toInt, vI (xs (i + 2)).toInt]) (rest := [vI r]) ok_X10_drawn ml_law_92 so_51 rfl rfl rfl (Nat.le_of_ble_eq_true rfl) (fun _ => rfl) d_law_689 (Con.mono h1 (fun r2 M2 _ _ h2 => ?_))
  exact m_icmp_eq C (tgt := 1035) d_law_692 (by decide) (fun _ => K M2 h2.2) (fun e => absurd h2.1 e)
theorem lc_19 {X : CT} {N i : Nat} {xs : Nat → Int32} {M : Mem} (C : Cx X code R_law 1300) (A : SC X N xs) (hN : N ≤ 3072) (hi : i + 6 ≤ N) (I : Inv M) (K : ∀ M2, Inv M2 → WM X 1035 (L0 i) [] M2) : WM X 697 (L0 i) [] M := by
  refine m_aload_n C 1 d_law_697 rfl rfl ?_
  refine m_sarg C A hN (j := 1) (by omega) d_law_698 d_law_699 d_law_700 d_law_701 d_law_702 ?_
  refine m_sarg C A hN (j := 2) (by omega) d_law_703 d_law_704 d_law_705 d_law_706 d_law_707 ?_
  refine m_sarg C A hN (j := 3) (by omega) d_law_708 d_law_709 d_law_710 d_law_711 d_law_712 ?_
  refine m_sarg C A hN (j := 4) (by omega) d_law_713 d_law_714 d_law_715 d_law_716 d_law_717 ?_
  refine m_callVl C (as := [vI (xs (i + 1)).toInt, vI (xs (i + 2)).toInt, vI (xs (i + 3)).toInt, vI (xs (i + 4)).toInt]) (rest := []) ok_X9_chance ml_law_93 so_0 rfl rfl rfl (Nat.le_of_ble_eq_true rfl) (fun _ => rfl) d_law_718 ((st_chance 1200 M (canI [xs (i + 1), xs (i + 2), xs (i + 3), xs (i + 4)]) I).mono (fun r M1 _ _ h1 => ?_))
  refine m_aload_n C 2 d_law_721 rfl rfl ?_
  refine m_sarg C A hN (j := 1) (by omega) d_law_722 d_law_723 d_law_724 d_law_725 d_law_726 ?_
  refine m_sarg C A hN (j := 2) (by omega) d_law_727 d_law_728 d_law_729 d_law_730 d_law_731 ?_
  refine m_sarg C A hN (j := 3) (by omega) d_law_732 d_law_733 d_law_734 d_law_735 d_law_736 ?_
  refine m_sarg C A hN (j := 4) (by omega) d_law_737 d_law_738 d_law_739 d_law_740 d_law_741 ?_
  refine m_callVl C (as := [vI (xs (i + 1)).toInt, vI (xs (i + 2)).toInt, vI (xs (i + 3)).toInt, vI (xs (i + 4)).toInt]) (rest := [vL r]) ok_X10_chance ml_law_97 so_51 rfl rfl rfl (Nat.le_of_ble_eq_true rfl) (fun _ => rfl) d_law_742 (Con.mono h1 (fun r2 M2 _ _ h2 => ?_))
  refine m_lcmp C d_law_745 ?_
  rw [h2.1]
  refine m_if_eq C (tgt := 1035) d_law_746 (by decide) (fun _ => K M2 h2.2) (fun e => absurd (l_c_0 r2) e)
theorem lc_20 {X : CT} {N i : Nat} {xs : Nat → Int32} {M : Mem} (C : Cx X code R_law 1300) (A : SC X N xs) (hN : N ≤ 3072) (hi : i + 6 ≤ N) (I : Inv M) (K : ∀ M2, Inv M2 → WM X 1035 (L0 i) [] M2) : WM X 751 (L0 i) [] M := by
  refine m_aload_n C 1 d_law_751 rfl rfl ?_
  refine m_callVi C (as := []) (rest := []) ok_X9_image ml_law_98 so_0 rfl rfl rfl (Nat.le_of_ble_eq_true rfl) (fun _ => rfl) d_law_752 ((st_image 1200 M (canI []) I).mono (fun r M1 _ _ h1 => ?_))
  refine m_aload_n C 2 d_law_755 rfl rfl ?_
  refine m_callVi C (as := []) (rest := [vI r]) ok_X10_image ml_law_101 so_51 rfl rfl rfl (Nat.le_of_ble_eq_true rfl) (fun _ => rfl) d_law_756 (Con.mono h1 (fun r2 M2 _ _ h2 => ?_))
  exact m_icmp_eq C (tgt := 1035) d_law_759 (by decide) (fun _ => K M2 h2.2) (fun e => absurd h2.1 e)
theorem lc_21 {X : CT} {N i : Nat} {xs : Nat → Int32} {M : Mem} (C : Cx X code R_law 1300) (A : SC X N xs) (hN : N ≤ 3072) (hi : i + 6 ≤ N) (I : Inv M) (K : ∀ M2, Inv M2 → WM X 1035 (L0 i) [] M2) : WM X 764 (L0 i) [] M := by
  refine m_aload_n C 1 d_law_764 rfl rfl ?_
  refine m_callVi C (as := []) (rest := []) ok_X9_back ml_law_102 so_0 rfl rfl rfl (Nat.le_of_ble_eq_true rfl) (fun _ => rfl) d_law_765 ((st_back 1200 M (canI []) I).mono (fun r M1 _ _ h1 => ?_))
  refine m_aload_n C 2 d_law_768 rfl rfl ?_
  refine m_callVi C (as := []) (rest := [vI r]) ok_X10_back ml_law_105 so_51 rfl rfl rfl (Nat.le_of_ble_eq_true rfl) (fun _ => rfl) d_law_769 (Con.mono h1 (fun r2 M2 _ _ h2 => ?_))
  exact m_icmp_eq C (tgt := 1035) d_law_772 (by decide) (fun _ => K M2 h2.2) (fun e => absurd h2.1 e)
theorem lc_22 {X : CT} {N i : Nat} {xs : Nat → Int32} {M : Mem} (C : Cx X code R_law 1300) (A : SC X N xs) (hN : N ≤ 3072) (hi : i + 6 ≤ N) (I : Inv M) (K : ∀ M2, Inv M2 → WM X 1035 (L0 i) [] M2) : WM X 777 (L0 i) [] M := by
  refine m_aload_n C 1 d_law_777 rfl rfl ?_
  refine m_sarg C A hN (j := 1) (by omega) d_law_778 d_law_779 d_law_780 d_law_781 d_law_782 ?_
  refine m_callVi C (as := [vI (xs (i + 1)).toInt]) (rest := []) ok_X9_count ml_law_106 so_0 rfl rfl rfl (Nat.le_of_ble_eq_true rfl) (fun _ => rfl) d_law_783 ((st_count 1200 M (canI [xs (i + 1)]) I).mono (fun r M1 _ _ h1 => ?_))
  refine m_aload_n C 2 d_law_786 rfl rfl ?_
  refine m_sarg C A hN (j := 1) (by omega) d_law_787 d_law_788 d_law_789 d_law_790 d_law_791 ?_
  refine m_callVi C (as := [vI (xs (i + 1)).toInt]) (rest := [vI r]) ok_X10_count ml_law_109 so_51 rfl rfl rfl (Nat.le_of_ble_eq_true rfl) (fun _ => rfl) d_law_792 (Con.mono h1 (fun r2 M2 _ _ h2 => ?_))
  exact m_icmp_eq C (tgt := 1035) d_law_795 (by decide) (fun _ => K M2 h2.2) (fun e => absurd h2.1 e)
theorem lc_23 {X : CT} {N i : Nat} {xs : Nat → Int32} {M : Mem} (C : Cx X code R_law 1300) (A : SC X N xs) (hN : N ≤ 3072) (hi : i + 6 ≤ N) (I : Inv M) (K : ∀ M2, Inv M2 → WM X 1035 (L0 i) [] M2) : WM X 800 (L0 i) [] M := by
  refine m_aload_n C 1 d_law_800 rfl rfl ?_
  refine m_sarg C A hN (j := 1) (by omega) d_law_801 d_law_802 d_law_803 d_law_804 d_law_805 ?_
  refine m_sarg C A hN (j := 2) (by omega) d_law_806 d_law_807 d_law_808 d_law_809 d_law_810 ?_
  refine m_sarg C A hN (j := 3) (by omega) d_law_811 d_law_812 d_law_813 d_law_814 d_law_815 ?_
  refine m_callVi C (as := [vI (xs (i + 1)).toInt, vI (xs (i + 2)).toInt, vI (xs (i + 3)).toInt]) (rest := []) ok_X9_sheet ml_law_110 so_0 rfl rfl rfl (Nat.le_of_ble_eq_true rfl) (fun _ => rfl) d_law_816 ((st_sheet 1200 M (canI [xs (i + 1), xs (i + 2), xs (i + 3)]) I).mono (fun r M1 _ _ h1 => ?_))
  refine m_aload_n C 2 d_law_819 rfl rfl ?_
  refine m_sarg C A hN (j := 1) (by omega) d_law_820 d_law_821 d_law_822 d_law_823 d_law_824 ?_
  refine m_sarg C A hN (j := 2) (by omega) d_law_825 d_law_826 d_law_827 d_law_828 d_law_829 ?_
  refine m_sarg C A hN (j := 3) (by omega) d_law_830 d_law_831 d_law_832 d_law_833 d_law_834 ?_
  refine m_callVi C (as := [vI (xs (i + 1)).toInt, vI (xs (i + 2)).toInt, vI (xs (i + 3)).toInt]) (rest := [vI r]) ok_X10_sheet ml_law_113 so_51 rfl rfl rfl (Nat.le_of_ble_eq_true rfl) (fun _ => rfl) d_law_835 (Con.mono h1 (fun r2 M2 _ _ h2 => ?_))
  exact m_icmp_eq C (tgt := 1035) d_law_838 (by decide) (fun _ => K M2 h2.2) (fun e => absurd h2.1 e)
theorem lc_24 {X : CT} {N i : Nat} {xs : Nat → Int32} {M : Mem} (C : Cx X code R_law 1300) (A : SC X N xs) (hN : N ≤ 3072) (hi : i + 6 ≤ N) (I : Inv M) (K : ∀ M2, Inv M2 → WM X 1035 (L0 i) [] M2) : WM X 843 (L0 i) [] M := by
  refine m_aload_n C 1 d_law_843 rfl rfl ?_
  refine m_sarg C A hN (j := 1) (by omega) d_law_844 d_law_845 d_law_846 d_law_847 d_law_848 ?_
  refine m_sarg C A hN (j := 2) (by omega) d_law_849 d_law_850 d_law_851 d_law_852 d_law_853 ?_
  refine m_sarg C A hN (j := 3) (by omega) d_law_854 d_law_855 d_law_856 d_law_857 d_law_858 ?_
  refine m_callVi C (as := [vI (xs (i + 1)).toInt, vI (xs (i + 2)).toInt, vI (xs (i + 3)).toInt]) (rest := []) ok_X9_cell ml_law_114 so_0 rfl rfl rfl (Nat.le_of_ble_eq_true rfl) (fun _ => rfl) d_law_859 ((st_cell 1200 M (canI [xs (i + 1), xs (i + 2), xs (i + 3)]) I).mono (fun r M1 _ _ h1 => ?_))
  refine m_aload_n C 2 d_law_862 rfl rfl ?_
  refine m_sarg C A hN (j := 1) (by omega) d_law_863 d_law_864 d_law_865 d_law_866 d_law_867 ?_
  refine m_sarg C A hN (j := 2) (by omega) d_law_868 d_law_869 d_law_870 d_law_871 d_law_872 ?_
  refine m_sarg C A hN (j := 3) (by omega) d_law_873 d_law_874 d_law_875 d_law_876 d_law_877 ?_
  refine m_callVi C (as := [vI (xs (i + 1)).toInt, vI (xs (i + 2)).toInt, vI (xs (i + 3)).toInt]) (rest := [vI r]) ok_X10_cell ml_law_117 so_51 rfl rfl rfl (Nat.le_of_ble_eq_true rfl) (fun _ => rfl) d_law_878 (Con.mono h1 (fun r2 M2 _ _ h2 => ?_))
  exact m_icmp_eq C (tgt := 1035) d_law_881 (by decide) (fun _ => K M2 h2.2) (fun e => absurd h2.1 e)
theorem lc_25 {X : CT} {N i : Nat} {xs : Nat → Int32} {M : Mem} (C : Cx X code R_law 1300) (A : SC X N xs) (hN : N ≤ 3072) (hi : i + 6 ≤ N) (I : Inv M) (K : ∀ M2, Inv M2 → WM X 1035 (L0 i) [] M2) : WM X 886 (L0 i) [] M := by
  refine m_aload_n C 1 d_law_886 rfl rfl ?_
  refine m_sarg C A hN (j := 1) (by omega) d_law_887 d_law_888 d_law_889 d_law_890 d_law_891 ?_
  refine m_sarg C A hN (j := 2) (by omega) d_law_892 d_law_893 d_law_894 d_law_895 d_law_896 ?_
  refine m_sarg C A hN (j := 3) (by omega) d_law_897 d_law_898 d_law_899 d_law_900 d_law_901 ?_
  refine m_sarg C A hN (j := 4) (by omega) d_law_902 d_law_903 d_law_904 d_law_905 d_law_906 ?_
  refine m_sarg C A hN (j := 5) (by omega) d_law_907 d_law_908 d_law_909 d_law_910 d_law_911 ?_
  refine m_callVi C (as := [vI (xs (i + 1)).toInt, vI (xs (i + 2)).toInt, vI (xs (i + 3)).toInt, vI (xs (i + 4)).toInt, vI (xs (i + 5)).toInt]) (rest := []) ok_X9_copy ml_law_118 so_0 rfl rfl rfl (Nat.le_of_ble_eq_true rfl) (fun _ => rfl) d_law_912 ((st_copy 1200 M (canI [xs (i + 1), xs (i + 2), xs (i + 3), xs (i + 4), xs (i + 5)]) I).mono (fun r M1 _ _ h1 => ?_))
  refine m_aload_n C 2 d_law_915 rfl rfl ?_
  refine m_sarg C A hN (j := 1) (by omega) d_law_916 d_law_917 d_law_918 d_law_919 d_law_920 ?_
  refine m_sarg C A hN (j := 2) (by omega) d_law_921 d_law_922 d_law_923 d_law_924 d_law_925 ?_
  refine m_sarg C A hN (j := 3) (by omega) d_law_926 d_law_927 d_law_928 d_law_929 d_law_930 ?_
  refine m_sarg C A hN (j := 4) (by omega) d_law_931 d_law_932 d_law_933 d_law_934 d_law_935 ?_
  refine m_sarg C A hN (j := 5) (by omega) d_law_936 d_law_937 d_law_938 d_law_939 d_law_940 ?_
  refine m_callVi C (as := [vI (xs (i + 1)).toInt, vI (xs (i + 2)).toInt, vI (xs (i + 3)).toInt, vI (xs (i + 4)).toInt, vI (xs (i + 5)).toInt]) (rest := [vI r]) ok_X10_copy ml_law_122 so_51 rfl rfl rfl (Nat.le_of_ble_eq_true rfl) (fun _ => rfl) d_law_941 (Con.mono h1 (fun r2 M2 _ _ h2 => ?_))
  exact m_icmp_eq C (tgt := 1035) d_law_944 (by decide) (fun _ => K M2 h2.2) (fun e => absurd h2.1 e)
theorem lc_26 {X : CT} {N i : Nat} {xs : Nat → Int32} {M : Mem} (C : Cx X code R_law 1300) (A : SC X N xs) (hN : N ≤ 3072) (hi : i + 6 ≤ N) (I : Inv M) (K : ∀ M2, Inv M2 → WM X 1035 (L0 i) [] M2) : WM X 949 (L0 i) [] M := by
  refine m_aload_n C 1 d_law_949 rfl rfl ?_
  refine m_sarg C A hN (j := 1) (by omega) d_law_950 d_law_951 d_law_952 d_law_953 d_law_954 ?_
  refine m_sarg C A hN (j := 2) (by omega) d_law_955 d_law_956 d_law_957 d_law_958 d_law_959 ?_
  refine m_sarg C A hN (j := 3) (by omega) d_law_960 d_law_961 d_law_962 d_law_963 d_law_964 ?_
  refine m_sarg C A hN (j := 4) (by omega) d_law_965 d_law_966 d_law_967 d_law_968 d_law_969 ?_
  refine m_callVi C (as := [vI (xs (i + 1)).toInt, vI (xs (i + 2)).toInt, vI (xs (i + 3)).toInt, vI (xs (i + 4)).toInt]) (rest := []) ok_X9_flowers ml_law_123 so_0 rfl rfl rfl (Nat.le_of_ble_eq_true rfl) (fun _ => rfl) d_law_970 ((st_flowers 1200 M (canI [xs (i + 1), xs (i + 2), xs (i + 3), xs (i + 4)]) I).mono (fun r M1 _ _ h1 => ?_))
  refine m_aload_n C 2 d_law_973 rfl rfl ?_
  refine m_sarg C A hN (j := 1) (by omega) d_law_974 d_law_975 d_law_976 d_law_977 d_law_978 ?_
  refine m_sarg C A hN (j := 2) (by omega) d_law_979 d_law_980 d_law_981 d_law_982 d_law_983 ?_
  refine m_sarg C A hN (j := 3) (by omega) d_law_984 d_law_985 d_law_986 d_law_987 d_law_988 ?_
  refine m_sarg C A hN (j := 4) (by omega) d_law_989 d_law_990 d_law_991 d_law_992 d_law_993 ?_
  refine m_callVi C (as := [vI (xs (i + 1)).toInt, vI (xs (i + 2)).toInt, vI (xs (i + 3)).toInt, vI (xs (i + 4)).toInt]) (rest := [vI r]) ok_X10_flowers ml_law_127 so_51 rfl rfl rfl (Nat.le_of_ble_eq_true rfl) (fun _ => rfl) d_law_994 (Con.mono h1 (fun r2 M2 _ _ h2 => ?_))
  exact m_icmp_eq C (tgt := 1035) d_law_997 (by decide) (fun _ => K M2 h2.2) (fun e => absurd h2.1 e)
theorem lc_27 {X : CT} {N i : Nat} {xs : Nat → Int32} {M : Mem} (C : Cx X code R_law 1300) (A : SC X N xs) (hN : N ≤ 3072) (hi : i + 6 ≤ N) (I : Inv M) (K : ∀ M2, Inv M2 → WM X 1035 (L0 i) [] M2) : WM X 1002 (L0 i) [] M := by
  refine m_aload_n C 1 d_law_1002 rfl rfl ?_
  refine m_sarg C A hN (j := 1) (by omega) d_law_1003 d_law_1004 d_law_1005 d_law_1006 d_law_1007 ?_
  refine m_sarg C A hN (j := 2) (by omega) d_law_1008 d_law_1009 d_law_1010 d_law_1011 d_law_1012 ?_
  refine m_callVi C (as := [vI (xs (i + 1)).toInt, vI (xs (i + 2)).toInt]) (rest := []) ok_X9_taken ml_law_128 so_0 rfl rfl rfl (Nat.le_of_ble_eq_true rfl) (fun _ => rfl) d_law_1013 ((st_taken 1200 M (canI [xs (i + 1), xs (i + 2)]) I).mono (fun r M1 _ _ h1 => ?_))
  refine m_aload_n C 2 d_law_1016 rfl rfl ?_
  refine m_sarg C A hN (j := 1) (by omega) d_law_1017 d_law_1018 d_law_1019 d_law_1020 d_law_1021 ?_
  refine m_sarg C A hN (j := 2) (by omega) d_law_1022 d_law_1023 d_law_1024 d_law_1025 d_law_1026 ?_
  refine m_callVi C (as := [vI (xs (i + 1)).toInt, vI (xs (i + 2)).toInt]) (rest := [vI r]) ok_X10_taken ml_law_131 so_51 rfl rfl rfl (Nat.le_of_ble_eq_true rfl) (fun _ => rfl) d_law_1027 (Con.mono h1 (fun r2 M2 _ _ h2 => ?_))
  exact m_icmp_eq C (tgt := 1035) d_law_1030 (by decide) (fun _ => K M2 h2.2) (fun e => absurd h2.1 e)
theorem lc_all {X : CT} {N i : Nat} {xs : Nat → Int32} {M : Mem} (C : Cx X code R_law 1300) (A : SC X N xs) (hN : N ≤ 3072) (hi : i + 6 ≤ N) (I : Inv M) (K : ∀ M2, Inv M2 → WM X 1035 (L0 i) [] M2) {v : Int} (hv : 0 ≤ v ∧ v ≤ 31) : WM X 33 (L0 i) [vI v] M := by
  rcases (show v = 0 ∨ v = 1 ∨ v = 2 ∨ v = 3 ∨ v = 4 ∨ v = 5 ∨ v = 6 ∨ v = 7 ∨ v = 8 ∨ v = 9 ∨ v = 10 ∨ v = 11 ∨ v = 12 ∨ v = 13 ∨ v = 14 ∨ v = 15 ∨ v = 16 ∨ v = 17 ∨ v = 18 ∨ v = 19 ∨ v = 20 ∨ v = 21 ∨ v = 22 ∨ v = 23 ∨ v = 24 ∨ v = 25 ∨ v = 26 ∨ v = 27 ∨ 27 < v by omega) with rfl | rfl | rfl | rfl | rfl | rfl | rfl | rfl | rfl | rfl | rfl | rfl | rfl | rfl | rfl | rfl | rfl | rfl | rfl | rfl | rfl | rfl | rfl | rfl | rfl | rfl | rfl | rfl | e
  · exact m_tabI C (off := 127) (tgt := 160) d_law_33 (by decide) (by decide) rfl (by decide) (lc_0 C A hN hi I K)
  · exact m_tabI C (off := 170) (tgt := 203) d_law_33 (by decide) (by decide) rfl (by decide) (lc_1 C A hN hi I K)
  · exact m_tabI C (off := 203) (tgt := 236) d_law_33 (by decide) (by decide) rfl (by decide) (lc_2 C A hN hi I K)
  · exact m_tabI C (off := 236) (tgt := 269) d_law_33 (by decide) (by decide) rfl (by decide) (lc_3 C A hN hi I K)
  · exact m_tabI C (off := 259) (tgt := 292) d_law_33 (by decide) (by decide) rfl (by decide) (lc_4 C A hN hi I K)
  · exact m_tabI C (off := 272) (tgt := 305) d_law_33 (by decide) (by decide) rfl (by decide) (lc_5 C A hN hi I K)
  · exact m_tabI C (off := 295) (tgt := 328) d_law_33 (by decide) (by decide) rfl (by decide) (lc_6 C A hN hi I K)
  · exact m_tabI C (off := 318) (tgt := 351) d_law_33 (by decide) (by decide) rfl (by decide) (lc_7 C A hN hi I K)
  · exact m_tabI C (off := 341) (tgt := 374) d_law_33 (by decide) (by decide) rfl (by decide) (lc_8 C A hN hi I K)
  · exact m_tabI C (off := 374) (tgt := 407) d_law_33 (by decide) (by decide) rfl (by decide) (lc_9 C A hN hi I K)
  · exact m_tabI C (off := 397) (tgt := 430) d_law_33 (by decide) (by decide) rfl (by decide) (lc_10 C A hN hi I K)
  · exact m_tabI C (off := 420) (tgt := 453) d_law_33 (by decide) (by decide) rfl (by decide) (lc_11 C A hN hi I K)
  · exact m_tabI C (off := 443) (tgt := 476) d_law_33 (by decide) (by decide) rfl (by decide) (lc_12 C A hN hi I K)
  · exact m_tabI C (off := 466) (tgt := 499) d_law_33 (by decide) (by decide) rfl (by decide) (lc_13 C A hN hi I K)
  · exact m_tabI C (off := 499) (tgt := 532) d_law_33 (by decide) (by decide) rfl (by decide) (lc_14 C A hN hi I K)
  · exact m_tabI C (off := 522) (tgt := 555) d_law_33 (by decide) (by decide) rfl (by decide) (lc_15 C A hN hi I K)
  · exact m_tabI C (off := 545) (tgt := 578) d_law_33 (by decide) (by decide) rfl (by decide) (lc_16 C A hN hi I K)
  · exact m_tabI C (off := 588) (tgt := 621) d_law_33 (by decide) (by decide) rfl (by decide) (lc_17 C A hN hi I K)
  · exact m_tabI C (off := 631) (tgt := 664) d_law_33 (by decide) (by decide) rfl (by decide) (lc_18 C A hN hi I K)
  · exact m_tabI C (off := 664) (tgt := 697) d_law_33 (by decide) (by decide) rfl (by decide) (lc_19 C A hN hi I K)
  · exact m_tabI C (off := 718) (tgt := 751) d_law_33 (by decide) (by decide) rfl (by decide) (lc_20 C A hN hi I K)
  · exact m_tabI C (off := 731) (tgt := 764) d_law_33 (by decide) (by decide) rfl (by decide) (lc_21 C A hN hi I K)
  · exact m_tabI C (off := 744) (tgt := 777) d_law_33 (by decide) (by decide) rfl (by decide) (lc_22 C A hN hi I K)
  · exact m_tabI C (off := 767) (tgt := 800) d_law_33 (by decide) (by decide) rfl (by decide) (lc_23 C A hN hi I K)
  · exact m_tabI C (off := 810) (tgt := 843) d_law_33 (by decide) (by decide) rfl (by decide) (lc_24 C A hN hi I K)
  · exact m_tabI C (off := 853) (tgt := 886) d_law_33 (by decide) (by decide) rfl (by decide) (lc_25 C A hN hi I K)
  · exact m_tabI C (off := 916) (tgt := 949) d_law_33 (by decide) (by decide) rfl (by decide) (lc_26 C A hN hi I K)
  · exact m_tabI C (off := 969) (tgt := 1002) d_law_33 (by decide) (by decide) rfl (by decide) (lc_27 C A hN hi I K)
  · exact m_tabO C (tgt := 1035) d_law_33 (Or.inr e) (by decide) (K M I)
