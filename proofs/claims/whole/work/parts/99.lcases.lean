/-! THE LAW'S CASES (wip/whole/gen/genl.py) -/
theorem lL_13 : jWd (.methodLink "MoonRoomsLaw" 13 m8_ofCell.1) := jWd_t2 (i := 4) rfl rfl
theorem lL_17 : jWd (.methodLink "MoonRoomsLaw" 17 m9_ofCell.1) := jWd_t4 (i := 219) rfl rfl
theorem lL_18 : jWd (.methodLink "MoonRoomsLaw" 18 m8_lit.1) := jWd_t2 (i := 70) rfl rfl
theorem lL_22 : jWd (.methodLink "MoonRoomsLaw" 22 m9_lit.1) := jWd_t5 (i := 30) rfl rfl
theorem lL_23 : jWd (.methodLink "MoonRoomsLaw" 23 m8_weather.1) := jWd_t2 (i := 74) rfl rfl
theorem lL_26 : jWd (.methodLink "MoonRoomsLaw" 26 m9_weather.1) := jWd_t5 (i := 34) rfl rfl
theorem lL_27 : jWd (.methodLink "MoonRoomsLaw" 27 m8_tenant.1) := jWd_t2 (i := 78) rfl rfl
theorem lL_30 : jWd (.methodLink "MoonRoomsLaw" 30 m9_tenant.1) := jWd_t5 (i := 42) rfl rfl
theorem lL_31 : jWd (.methodLink "MoonRoomsLaw" 31 m8_ofTenant.1) := jWd_t2 (i := 92) rfl rfl
theorem lL_34 : jWd (.methodLink "MoonRoomsLaw" 34 m9_ofTenant.1) := jWd_t5 (i := 53) rfl rfl
theorem lL_35 : jWd (.methodLink "MoonRoomsLaw" 35 m8_become.1) := jWd_t2 (i := 112) rfl rfl
theorem lL_38 : jWd (.methodLink "MoonRoomsLaw" 38 m9_become.1) := jWd_t5 (i := 84) rfl rfl
theorem lL_39 : jWd (.methodLink "MoonRoomsLaw" 39 m8_as.1) := jWd_t2 (i := 116) rfl rfl
theorem lL_42 : jWd (.methodLink "MoonRoomsLaw" 42 m9_as.1) := jWd_t5 (i := 88) rfl rfl
theorem lL_43 : jWd (.methodLink "MoonRoomsLaw" 43 m8_lease.1) := jWd_t2 (i := 124) rfl rfl
theorem lL_46 : jWd (.methodLink "MoonRoomsLaw" 46 m9_lease.1) := jWd_t5 (i := 93) rfl rfl
theorem lL_47 : jWd (.methodLink "MoonRoomsLaw" 47 m8_purse.1) := jWd_t2 (i := 133) rfl rfl
theorem lL_50 : jWd (.methodLink "MoonRoomsLaw" 50 m9_purse.1) := jWd_t5 (i := 106) rfl rfl
theorem lL_51 : jWd (.methodLink "MoonRoomsLaw" 51 m8_pardon.1) := jWd_t2 (i := 137) rfl rfl
theorem lL_54 : jWd (.methodLink "MoonRoomsLaw" 54 m9_pardon.1) := jWd_t5 (i := 110) rfl rfl
theorem kL_55 : jWd (.constantLong "MoonRoomsLaw" 55 (4294967295)) := jWd_t6 (i := 78) rfl rfl
theorem lL_57 : jWd (.methodLink "MoonRoomsLaw" 57 m8_feed.1) := jWd_t2 (i := 145) rfl rfl
theorem lL_61 : jWd (.methodLink "MoonRoomsLaw" 61 m9_feed.1) := jWd_t4 (i := 88) rfl rfl
theorem lL_62 : jWd (.methodLink "MoonRoomsLaw" 62 m8_text.1) := jWd_t2 (i := 154) rfl rfl
theorem lL_65 : jWd (.methodLink "MoonRoomsLaw" 65 m9_text.1) := jWd_t4 (i := 103) rfl rfl
theorem lL_66 : jWd (.methodLink "MoonRoomsLaw" 66 m8_law.1) := jWd_t2 (i := 231) rfl rfl
theorem lL_70 : jWd (.methodLink "MoonRoomsLaw" 70 m9_law.1) := jWd_t4 (i := 195) rfl rfl
theorem lL_71 : jWd (.methodLink "MoonRoomsLaw" 71 m8_nights.1) := jWd_t2 (i := 236) rfl rfl
theorem lL_74 : jWd (.methodLink "MoonRoomsLaw" 74 m9_nights.1) := jWd_t5 (i := 118) rfl rfl
theorem lL_75 : jWd (.methodLink "MoonRoomsLaw" 75 m8_loose.1) := jWd_t3 (i := 31) rfl rfl
theorem lL_78 : jWd (.methodLink "MoonRoomsLaw" 78 m9_loose.1) := jWd_t5 (i := 138) rfl rfl
theorem lL_79 : jWd (.methodLink "MoonRoomsLaw" 79 m8_then.1) := jWd_t3 (i := 44) rfl rfl
theorem lL_83 : jWd (.methodLink "MoonRoomsLaw" 83 m9_then.1) := jWd_t5 (i := 151) rfl rfl
theorem lL_84 : jWd (.methodLink "MoonRoomsLaw" 84 m8_often.1) := jWd_t3 (i := 58) rfl rfl
theorem lL_87 : jWd (.methodLink "MoonRoomsLaw" 87 m9_often.1) := jWd_t5 (i := 162) rfl rfl
theorem lL_88 : jWd (.methodLink "MoonRoomsLaw" 88 m8_whole.1) := jWd_t3 (i := 62) rfl rfl
theorem lL_91 : jWd (.methodLink "MoonRoomsLaw" 91 m9_whole.1) := jWd_t5 (i := 166) rfl rfl
theorem lL_92 : jWd (.methodLink "MoonRoomsLaw" 92 m8_stays.1) := jWd_t3 (i := 67) rfl rfl
theorem lL_95 : jWd (.methodLink "MoonRoomsLaw" 95 m9_stays.1) := jWd_t5 (i := 171) rfl rfl
theorem lL_96 : jWd (.methodLink "MoonRoomsLaw" 96 m8_clash.1) := jWd_t3 (i := 71) rfl rfl
theorem lL_100 : jWd (.methodLink "MoonRoomsLaw" 100 m9_clash.1) := jWd_t5 (i := 175) rfl rfl
theorem lL_101 : jWd (.methodLink "MoonRoomsLaw" 101 m8_least.1) := jWd_t3 (i := 81) rfl rfl
theorem lL_104 : jWd (.methodLink "MoonRoomsLaw" 104 m9_least.1) := jWd_t5 (i := 187) rfl rfl
theorem lL_105 : jWd (.methodLink "MoonRoomsLaw" 105 m8_beside.1) := jWd_t3 (i := 94) rfl rfl
theorem lL_108 : jWd (.methodLink "MoonRoomsLaw" 108 m9_beside.1) := jWd_t5 (i := 191) rfl rfl
theorem lL_109 : jWd (.methodLink "MoonRoomsLaw" 109 m8_rooms.1) := jWd_t3 (i := 107) rfl rfl
theorem lL_112 : jWd (.methodLink "MoonRoomsLaw" 112 m9_rooms.1) := jWd_t5 (i := 195) rfl rfl
theorem lL_113 : jWd (.methodLink "MoonRoomsLaw" 113 m8_falls.1) := jWd_t3 (i := 138) rfl rfl
theorem lL_116 : jWd (.methodLink "MoonRoomsLaw" 116 m9_falls.1) := jWd_t5 (i := 222) rfl rfl
theorem lL_117 : jWd (.methodLink "MoonRoomsLaw" 117 m8_was.1) := jWd_t3 (i := 142) rfl rfl
theorem lL_120 : jWd (.methodLink "MoonRoomsLaw" 120 m9_was.1) := jWd_t5 (i := 226) rfl rfl
theorem lL_121 : jWd (.methodLink "MoonRoomsLaw" 121 m8_dear.1) := jWd_t3 (i := 146) rfl rfl
theorem lL_124 : jWd (.methodLink "MoonRoomsLaw" 124 m9_dear.1) := jWd_t5 (i := 230) rfl rfl
theorem lL_125 : jWd (.methodLink "MoonRoomsLaw" 125 m8_seed.1) := jWd_t3 (i := 150) rfl rfl
theorem lL_128 : jWd (.methodLink "MoonRoomsLaw" 128 m9_seed.1) := jWd_t5 (i := 234) rfl rfl
theorem lL_129 : jWd (.methodLink "MoonRoomsLaw" 129 m8_voice.1) := jWd_t3 (i := 154) rfl rfl
theorem lL_132 : jWd (.methodLink "MoonRoomsLaw" 132 m9_voice.1) := jWd_t5 (i := 238) rfl rfl
theorem lL_133 : jWd (.methodLink "MoonRoomsLaw" 133 m8_trace.1) := jWd_t3 (i := 174) rfl rfl
theorem lL_136 : jWd (.methodLink "MoonRoomsLaw" 136 m9_trace.1) := jWd_t6 (i := 26) rfl rfl
theorem lL_137 : jWd (.methodLink "MoonRoomsLaw" 137 m8_sheet.1) := jWd_t3 (i := 179) rfl rfl
theorem lL_140 : jWd (.methodLink "MoonRoomsLaw" 140 m9_sheet.1) := jWd_t6 (i := 30) rfl rfl
theorem lL_141 : jWd (.methodLink "MoonRoomsLaw" 141 m8_put.1) := jWd_t3 (i := 187) rfl rfl
theorem lL_144 : jWd (.methodLink "MoonRoomsLaw" 144 m9_put.1) := jWd_t6 (i := 34) rfl rfl
theorem lL_145 : jWd (.methodLink "MoonRoomsLaw" 145 m8_move.1) := jWd_t3 (i := 200) rfl rfl
theorem lL_149 : jWd (.methodLink "MoonRoomsLaw" 149 m9_move.1) := jWd_t6 (i := 38) rfl rfl
theorem lL_150 : jWd (.methodLink "MoonRoomsLaw" 150 m8_leases.1) := jWd_t3 (i := 205) rfl rfl
theorem lL_153 : jWd (.methodLink "MoonRoomsLaw" 153 m9_leases.1) := jWd_t6 (i := 42) rfl rfl
theorem lL_154 : jWd (.methodLink "MoonRoomsLaw" 154 m8_judge.1) := jWd_t3 (i := 209) rfl rfl
theorem lL_157 : jWd (.methodLink "MoonRoomsLaw" 157 m9_judge.1) := jWd_t6 (i := 46) rfl rfl
theorem lL_158 : jWd (.methodLink "MoonRoomsLaw" 158 m8_image.1) := jWd_t3 (i := 214) rfl rfl
theorem lL_161 : jWd (.methodLink "MoonRoomsLaw" 161 m9_image.1) := jWd_t6 (i := 50) rfl rfl
theorem lL_162 : jWd (.methodLink "MoonRoomsLaw" 162 m8_restore.1) := jWd_t3 (i := 218) rfl rfl
theorem lL_165 : jWd (.methodLink "MoonRoomsLaw" 165 m9_restore.1) := jWd_t6 (i := 54) rfl rfl
theorem lL_166 : jWd (.methodLink "MoonRoomsLaw" 166 m8_tell.1) := jWd_t3 (i := 222) rfl rfl
theorem lL_169 : jWd (.methodLink "MoonRoomsLaw" 169 m9_tell.1) := jWd_t6 (i := 58) rfl rfl
theorem lL_170 : jWd (.methodLink "MoonRoomsLaw" 170 m8_check.1) := jWd_t3 (i := 226) rfl rfl
theorem lL_173 : jWd (.methodLink "MoonRoomsLaw" 173 m9_check.1) := jWd_t6 (i := 62) rfl rfl
theorem lL_174 : jWd (.methodLink "MoonRoomsLaw" 174 m8_count.1) := jWd_t3 (i := 230) rfl rfl
theorem lL_177 : jWd (.methodLink "MoonRoomsLaw" 177 m9_count.1) := jWd_t6 (i := 66) rfl rfl
theorem lL_178 : jWd (.methodLink "MoonRoomsLaw" 178 m8_told.1) := jWd_t3 (i := 234) rfl rfl
theorem lL_181 : jWd (.methodLink "MoonRoomsLaw" 181 m9_told.1) := jWd_t6 (i := 74) rfl rfl
theorem law_0 {p : Program} {l : Launch} {e : Env} {s : State} {mm : MethodId} {below : List Frame} {meth : Method} {cc : Code} {L : Nat} {xs : Nat → Int32} {D : va_G} {cA : Nat → ClassId} {ad : Nat → Nat} {i : Nat} {c m : JMu} (cx : LX p s mm meth cc L xs D cA ad) (hi : i + 6 ≤ L) (hL : L ≤ 3072) (r : R c m) (kk : ∀ c1 m1, R c1 m1 → LW p l e s mm below meth cc D cA ad 1368 [] (nI i) c1 m1) : LW p l e s mm below meth cc D cA ad 208 [] (nI i) c m := by
  obtain ⟨v, c1, m1, e1, e2, r1⟩ := act_ofCell r (xs (i + 1)) (xs (i + 2))
  refine L_a1 cx dL_law_208 ?_
  refine L_arg 1 cx dL_law_209 dL_law_210 dL_law_211 dL_law_212 dL_law_213 (by decide) (by omega) hL ?_
  refine L_arg 2 cx dL_law_214 dL_law_215 dL_law_216 dL_law_217 dL_law_218 (by decide) (by omega) hL ?_
  refine L_callC (M' := m8_ofCell) (as := [.int (xs (i + 1)), .int (xs (i + 2))]) cx dL_law_219 lL_13 sm8_ofCell sm8_ofCell_w rfl (Nat.le_of_ble_eq_true rfl) rfl (Nat.le_of_ble_eq_true rfl) (c8_ofCell (xs (i + 1)) (xs (i + 2)) _ _ e1) ?_
  refine L_a2 cx dL_law_222 ?_
  refine L_arg 1 cx dL_law_223 dL_law_224 dL_law_225 dL_law_226 dL_law_227 (by decide) (by omega) hL ?_
  refine L_arg 2 cx dL_law_228 dL_law_229 dL_law_230 dL_law_231 dL_law_232 (by decide) (by omega) hL ?_
  refine L_callM (M' := m9_ofCell) (as := [.int (xs (i + 1)), .int (xs (i + 2))]) cx dL_law_233 lL_17 sm9_ofCell sm9_ofCell_w rfl (Nat.le_of_ble_eq_true rfl) rfl (Nat.le_of_ble_eq_true rfl) (c9_ofCell (xs (i + 1)) (xs (i + 2)) _ _ e2) ?_
  refine L_eq cx dL_law_236 (tgt := 1368) (by decide) ?_
  exact kk c1 m1 r1
theorem law_1 {p : Program} {l : Launch} {e : Env} {s : State} {mm : MethodId} {below : List Frame} {meth : Method} {cc : Code} {L : Nat} {xs : Nat → Int32} {D : va_G} {cA : Nat → ClassId} {ad : Nat → Nat} {i : Nat} {c m : JMu} (cx : LX p s mm meth cc L xs D cA ad) (hi : i + 6 ≤ L) (hL : L ≤ 3072) (r : R c m) (kk : ∀ c1 m1, R c1 m1 → LW p l e s mm below meth cc D cA ad 1368 [] (nI i) c1 m1) : LW p l e s mm below meth cc D cA ad 241 [] (nI i) c m := by
  obtain ⟨v, c1, m1, e1, e2, r1⟩ := act_lit r (xs (i + 1))
  refine L_a1 cx dL_law_241 ?_
  refine L_arg 1 cx dL_law_242 dL_law_243 dL_law_244 dL_law_245 dL_law_246 (by decide) (by omega) hL ?_
  refine L_callC (M' := m8_lit) (as := [.int (xs (i + 1))]) cx dL_law_247 lL_18 sm8_lit sm8_lit_w rfl (Nat.le_of_ble_eq_true rfl) rfl (Nat.le_of_ble_eq_true rfl) (c8_lit (xs (i + 1)) _ _ e1) ?_
  refine L_a2 cx dL_law_250 ?_
  refine L_arg 1 cx dL_law_251 dL_law_252 dL_law_253 dL_law_254 dL_law_255 (by decide) (by omega) hL ?_
  refine L_callM (M' := m9_lit) (as := [.int (xs (i + 1))]) cx dL_law_256 lL_22 sm9_lit sm9_lit_w rfl (Nat.le_of_ble_eq_true rfl) rfl (Nat.le_of_ble_eq_true rfl) (c9_lit (xs (i + 1)) _ _ e2) ?_
  refine L_eq cx dL_law_259 (tgt := 1368) (by decide) ?_
  exact kk c1 m1 r1
theorem law_2 {p : Program} {l : Launch} {e : Env} {s : State} {mm : MethodId} {below : List Frame} {meth : Method} {cc : Code} {L : Nat} {xs : Nat → Int32} {D : va_G} {cA : Nat → ClassId} {ad : Nat → Nat} {i : Nat} {c m : JMu} (cx : LX p s mm meth cc L xs D cA ad) (hi : i + 6 ≤ L) (hL : L ≤ 3072) (r : R c m) (kk : ∀ c1 m1, R c1 m1 → LW p l e s mm below meth cc D cA ad 1368 [] (nI i) c1 m1) : LW p l e s mm below meth cc D cA ad 264 [] (nI i) c m := by
  obtain ⟨v, c1, m1, e1, e2, r1⟩ := act_weather r (xs (i + 1))
  refine L_a1 cx dL_law_264 ?_
  refine L_arg 1 cx dL_law_265 dL_law_266 dL_law_267 dL_law_268 dL_law_269 (by decide) (by omega) hL ?_
  refine L_callC (M' := m8_weather) (as := [.int (xs (i + 1))]) cx dL_law_270 lL_23 sm8_weather sm8_weather_w rfl (Nat.le_of_ble_eq_true rfl) rfl (Nat.le_of_ble_eq_true rfl) (c8_weather (xs (i + 1)) _ _ e1) ?_
  refine L_a2 cx dL_law_273 ?_
  refine L_arg 1 cx dL_law_274 dL_law_275 dL_law_276 dL_law_277 dL_law_278 (by decide) (by omega) hL ?_
  refine L_callM (M' := m9_weather) (as := [.int (xs (i + 1))]) cx dL_law_279 lL_26 sm9_weather sm9_weather_w rfl (Nat.le_of_ble_eq_true rfl) rfl (Nat.le_of_ble_eq_true rfl) (c9_weather (xs (i + 1)) _ _ e2) ?_
  refine L_eq cx dL_law_282 (tgt := 1368) (by decide) ?_
  exact kk c1 m1 r1
theorem law_3 {p : Program} {l : Launch} {e : Env} {s : State} {mm : MethodId} {below : List Frame} {meth : Method} {cc : Code} {L : Nat} {xs : Nat → Int32} {D : va_G} {cA : Nat → ClassId} {ad : Nat → Nat} {i : Nat} {c m : JMu} (cx : LX p s mm meth cc L xs D cA ad) (hi : i + 6 ≤ L) (hL : L ≤ 3072) (r : R c m) (kk : ∀ c1 m1, R c1 m1 → LW p l e s mm below meth cc D cA ad 1368 [] (nI i) c1 m1) : LW p l e s mm below meth cc D cA ad 287 [] (nI i) c m := by
  obtain ⟨v, c1, m1, e1, e2, r1⟩ := act_tenant r (xs (i + 1))
  refine L_a1 cx dL_law_287 ?_
  refine L_arg 1 cx dL_law_288 dL_law_289 dL_law_290 dL_law_291 dL_law_292 (by decide) (by omega) hL ?_
  refine L_callC (M' := m8_tenant) (as := [.int (xs (i + 1))]) cx dL_law_293 lL_27 sm8_tenant sm8_tenant_w rfl (Nat.le_of_ble_eq_true rfl) rfl (Nat.le_of_ble_eq_true rfl) (c8_tenant (xs (i + 1)) _ _ e1) ?_
  refine L_a2 cx dL_law_296 ?_
  refine L_arg 1 cx dL_law_297 dL_law_298 dL_law_299 dL_law_300 dL_law_301 (by decide) (by omega) hL ?_
  refine L_callM (M' := m9_tenant) (as := [.int (xs (i + 1))]) cx dL_law_302 lL_30 sm9_tenant sm9_tenant_w rfl (Nat.le_of_ble_eq_true rfl) rfl (Nat.le_of_ble_eq_true rfl) (c9_tenant (xs (i + 1)) _ _ e2) ?_
  refine L_eq cx dL_law_305 (tgt := 1368) (by decide) ?_
  exact kk c1 m1 r1
theorem law_4 {p : Program} {l : Launch} {e : Env} {s : State} {mm : MethodId} {below : List Frame} {meth : Method} {cc : Code} {L : Nat} {xs : Nat → Int32} {D : va_G} {cA : Nat → ClassId} {ad : Nat → Nat} {i : Nat} {c m : JMu} (cx : LX p s mm meth cc L xs D cA ad) (hi : i + 6 ≤ L) (hL : L ≤ 3072) (r : R c m) (kk : ∀ c1 m1, R c1 m1 → LW p l e s mm below meth cc D cA ad 1368 [] (nI i) c1 m1) : LW p l e s mm below meth cc D cA ad 310 [] (nI i) c m := by
  obtain ⟨v, c1, m1, e1, e2, r1⟩ := act_ofTenant r (xs (i + 1)) (xs (i + 2))
  refine L_a1 cx dL_law_310 ?_
  refine L_arg 1 cx dL_law_311 dL_law_312 dL_law_313 dL_law_314 dL_law_315 (by decide) (by omega) hL ?_
  refine L_arg 2 cx dL_law_316 dL_law_317 dL_law_318 dL_law_319 dL_law_320 (by decide) (by omega) hL ?_
  refine L_callC (M' := m8_ofTenant) (as := [.int (xs (i + 1)), .int (xs (i + 2))]) cx dL_law_321 lL_31 sm8_ofTenant sm8_ofTenant_w rfl (Nat.le_of_ble_eq_true rfl) rfl (Nat.le_of_ble_eq_true rfl) (c8_ofTenant (xs (i + 1)) (xs (i + 2)) _ _ e1) ?_
  refine L_a2 cx dL_law_324 ?_
  refine L_arg 1 cx dL_law_325 dL_law_326 dL_law_327 dL_law_328 dL_law_329 (by decide) (by omega) hL ?_
  refine L_arg 2 cx dL_law_330 dL_law_331 dL_law_332 dL_law_333 dL_law_334 (by decide) (by omega) hL ?_
  refine L_callM (M' := m9_ofTenant) (as := [.int (xs (i + 1)), .int (xs (i + 2))]) cx dL_law_335 lL_34 sm9_ofTenant sm9_ofTenant_w rfl (Nat.le_of_ble_eq_true rfl) rfl (Nat.le_of_ble_eq_true rfl) (c9_ofTenant (xs (i + 1)) (xs (i + 2)) _ _ e2) ?_
  refine L_eq cx dL_law_338 (tgt := 1368) (by decide) ?_
  exact kk c1 m1 r1
theorem law_5 {p : Program} {l : Launch} {e : Env} {s : State} {mm : MethodId} {below : List Frame} {meth : Method} {cc : Code} {L : Nat} {xs : Nat → Int32} {D : va_G} {cA : Nat → ClassId} {ad : Nat → Nat} {i : Nat} {c m : JMu} (cx : LX p s mm meth cc L xs D cA ad) (hi : i + 6 ≤ L) (hL : L ≤ 3072) (r : R c m) (kk : ∀ c1 m1, R c1 m1 → LW p l e s mm below meth cc D cA ad 1368 [] (nI i) c1 m1) : LW p l e s mm below meth cc D cA ad 343 [] (nI i) c m := by
  obtain ⟨v, c1, m1, e1, e2, r1⟩ := act_become r (xs (i + 1)) (xs (i + 2))
  refine L_a1 cx dL_law_343 ?_
  refine L_arg 1 cx dL_law_344 dL_law_345 dL_law_346 dL_law_347 dL_law_348 (by decide) (by omega) hL ?_
  refine L_arg 2 cx dL_law_349 dL_law_350 dL_law_351 dL_law_352 dL_law_353 (by decide) (by omega) hL ?_
  refine L_callC (M' := m8_become) (as := [.int (xs (i + 1)), .int (xs (i + 2))]) cx dL_law_354 lL_35 sm8_become sm8_become_w rfl (Nat.le_of_ble_eq_true rfl) rfl (Nat.le_of_ble_eq_true rfl) (c8_become (xs (i + 1)) (xs (i + 2)) _ _ e1) ?_
  refine L_a2 cx dL_law_357 ?_
  refine L_arg 1 cx dL_law_358 dL_law_359 dL_law_360 dL_law_361 dL_law_362 (by decide) (by omega) hL ?_
  refine L_arg 2 cx dL_law_363 dL_law_364 dL_law_365 dL_law_366 dL_law_367 (by decide) (by omega) hL ?_
  refine L_callM (M' := m9_become) (as := [.int (xs (i + 1)), .int (xs (i + 2))]) cx dL_law_368 lL_38 sm9_become sm9_become_w rfl (Nat.le_of_ble_eq_true rfl) rfl (Nat.le_of_ble_eq_true rfl) (c9_become (xs (i + 1)) (xs (i + 2)) _ _ e2) ?_
  refine L_eq cx dL_law_371 (tgt := 1368) (by decide) ?_
  exact kk c1 m1 r1
theorem law_6 {p : Program} {l : Launch} {e : Env} {s : State} {mm : MethodId} {below : List Frame} {meth : Method} {cc : Code} {L : Nat} {xs : Nat → Int32} {D : va_G} {cA : Nat → ClassId} {ad : Nat → Nat} {i : Nat} {c m : JMu} (cx : LX p s mm meth cc L xs D cA ad) (hi : i + 6 ≤ L) (hL : L ≤ 3072) (r : R c m) (kk : ∀ c1 m1, R c1 m1 → LW p l e s mm below meth cc D cA ad 1368 [] (nI i) c1 m1) : LW p l e s mm below meth cc D cA ad 376 [] (nI i) c m := by
  obtain ⟨v, c1, m1, e1, e2, r1⟩ := act_as r (xs (i + 1)) (xs (i + 2))
  refine L_a1 cx dL_law_376 ?_
  refine L_arg 1 cx dL_law_377 dL_law_378 dL_law_379 dL_law_380 dL_law_381 (by decide) (by omega) hL ?_
  refine L_arg 2 cx dL_law_382 dL_law_383 dL_law_384 dL_law_385 dL_law_386 (by decide) (by omega) hL ?_
  refine L_callC (M' := m8_as) (as := [.int (xs (i + 1)), .int (xs (i + 2))]) cx dL_law_387 lL_39 sm8_as sm8_as_w rfl (Nat.le_of_ble_eq_true rfl) rfl (Nat.le_of_ble_eq_true rfl) (c8_as (xs (i + 1)) (xs (i + 2)) _ _ e1) ?_
  refine L_a2 cx dL_law_390 ?_
  refine L_arg 1 cx dL_law_391 dL_law_392 dL_law_393 dL_law_394 dL_law_395 (by decide) (by omega) hL ?_
  refine L_arg 2 cx dL_law_396 dL_law_397 dL_law_398 dL_law_399 dL_law_400 (by decide) (by omega) hL ?_
  refine L_callM (M' := m9_as) (as := [.int (xs (i + 1)), .int (xs (i + 2))]) cx dL_law_401 lL_42 sm9_as sm9_as_w rfl (Nat.le_of_ble_eq_true rfl) rfl (Nat.le_of_ble_eq_true rfl) (c9_as (xs (i + 1)) (xs (i + 2)) _ _ e2) ?_
  refine L_eq cx dL_law_404 (tgt := 1368) (by decide) ?_
  exact kk c1 m1 r1
theorem law_7 {p : Program} {l : Launch} {e : Env} {s : State} {mm : MethodId} {below : List Frame} {meth : Method} {cc : Code} {L : Nat} {xs : Nat → Int32} {D : va_G} {cA : Nat → ClassId} {ad : Nat → Nat} {i : Nat} {c m : JMu} (cx : LX p s mm meth cc L xs D cA ad) (hi : i + 6 ≤ L) (hL : L ≤ 3072) (r : R c m) (kk : ∀ c1 m1, R c1 m1 → LW p l e s mm below meth cc D cA ad 1368 [] (nI i) c1 m1) : LW p l e s mm below meth cc D cA ad 409 [] (nI i) c m := by
  obtain ⟨v, c1, m1, e1, e2, r1⟩ := act_lease r (xs (i + 1)) (xs (i + 2))
  refine L_a1 cx dL_law_409 ?_
  refine L_arg 1 cx dL_law_410 dL_law_411 dL_law_412 dL_law_413 dL_law_414 (by decide) (by omega) hL ?_
  refine L_arg 2 cx dL_law_415 dL_law_416 dL_law_417 dL_law_418 dL_law_419 (by decide) (by omega) hL ?_
  refine L_callC (M' := m8_lease) (as := [.int (xs (i + 1)), .int (xs (i + 2))]) cx dL_law_420 lL_43 sm8_lease sm8_lease_w rfl (Nat.le_of_ble_eq_true rfl) rfl (Nat.le_of_ble_eq_true rfl) (c8_lease (xs (i + 1)) (xs (i + 2)) _ _ e1) ?_
  refine L_a2 cx dL_law_423 ?_
  refine L_arg 1 cx dL_law_424 dL_law_425 dL_law_426 dL_law_427 dL_law_428 (by decide) (by omega) hL ?_
  refine L_arg 2 cx dL_law_429 dL_law_430 dL_law_431 dL_law_432 dL_law_433 (by decide) (by omega) hL ?_
  refine L_callM (M' := m9_lease) (as := [.int (xs (i + 1)), .int (xs (i + 2))]) cx dL_law_434 lL_46 sm9_lease sm9_lease_w rfl (Nat.le_of_ble_eq_true rfl) rfl (Nat.le_of_ble_eq_true rfl) (c9_lease (xs (i + 1)) (xs (i + 2)) _ _ e2) ?_
  refine L_eq cx dL_law_437 (tgt := 1368) (by decide) ?_
  exact kk c1 m1 r1
theorem law_8 {p : Program} {l : Launch} {e : Env} {s : State} {mm : MethodId} {below : List Frame} {meth : Method} {cc : Code} {L : Nat} {xs : Nat → Int32} {D : va_G} {cA : Nat → ClassId} {ad : Nat → Nat} {i : Nat} {c m : JMu} (cx : LX p s mm meth cc L xs D cA ad) (hi : i + 6 ≤ L) (hL : L ≤ 3072) (r : R c m) (kk : ∀ c1 m1, R c1 m1 → LW p l e s mm below meth cc D cA ad 1368 [] (nI i) c1 m1) : LW p l e s mm below meth cc D cA ad 442 [] (nI i) c m := by
  obtain ⟨v, c1, m1, e1, e2, r1⟩ := act_purse r (xs (i + 1)) (xs (i + 2))
  refine L_a1 cx dL_law_442 ?_
  refine L_arg 1 cx dL_law_443 dL_law_444 dL_law_445 dL_law_446 dL_law_447 (by decide) (by omega) hL ?_
  refine L_arg 2 cx dL_law_448 dL_law_449 dL_law_450 dL_law_451 dL_law_452 (by decide) (by omega) hL ?_
  refine L_callC (M' := m8_purse) (as := [.int (xs (i + 1)), .int (xs (i + 2))]) cx dL_law_453 lL_47 sm8_purse sm8_purse_w rfl (Nat.le_of_ble_eq_true rfl) rfl (Nat.le_of_ble_eq_true rfl) (c8_purse (xs (i + 1)) (xs (i + 2)) _ _ e1) ?_
  refine L_a2 cx dL_law_456 ?_
  refine L_arg 1 cx dL_law_457 dL_law_458 dL_law_459 dL_law_460 dL_law_461 (by decide) (by omega) hL ?_
  refine L_arg 2 cx dL_law_462 dL_law_463 dL_law_464 dL_law_465 dL_law_466 (by decide) (by omega) hL ?_
  refine L_callM (M' := m9_purse) (as := [.int (xs (i + 1)), .int (xs (i + 2))]) cx dL_law_467 lL_50 sm9_purse sm9_purse_w rfl (Nat.le_of_ble_eq_true rfl) rfl (Nat.le_of_ble_eq_true rfl) (c9_purse (xs (i + 1)) (xs (i + 2)) _ _ e2) ?_
  refine L_eq cx dL_law_470 (tgt := 1368) (by decide) ?_
  exact kk c1 m1 r1
theorem law_9 {p : Program} {l : Launch} {e : Env} {s : State} {mm : MethodId} {below : List Frame} {meth : Method} {cc : Code} {L : Nat} {xs : Nat → Int32} {D : va_G} {cA : Nat → ClassId} {ad : Nat → Nat} {i : Nat} {c m : JMu} (cx : LX p s mm meth cc L xs D cA ad) (hi : i + 6 ≤ L) (hL : L ≤ 3072) (r : R c m) (kk : ∀ c1 m1, R c1 m1 → LW p l e s mm below meth cc D cA ad 1368 [] (nI i) c1 m1) : LW p l e s mm below meth cc D cA ad 475 [] (nI i) c m := by
  obtain ⟨v, c1, m1, e1, e2, r1⟩ := act_pardon r (xs (i + 1))
  refine L_a1 cx dL_law_475 ?_
  refine L_arg 1 cx dL_law_476 dL_law_477 dL_law_478 dL_law_479 dL_law_480 (by decide) (by omega) hL ?_
  refine L_callC (M' := m8_pardon) (as := [.int (xs (i + 1))]) cx dL_law_481 lL_51 sm8_pardon sm8_pardon_w rfl (Nat.le_of_ble_eq_true rfl) rfl (Nat.le_of_ble_eq_true rfl) (c8_pardon (xs (i + 1)) _ _ e1) ?_
  refine L_a2 cx dL_law_484 ?_
  refine L_arg 1 cx dL_law_485 dL_law_486 dL_law_487 dL_law_488 dL_law_489 (by decide) (by omega) hL ?_
  refine L_callM (M' := m9_pardon) (as := [.int (xs (i + 1))]) cx dL_law_490 lL_54 sm9_pardon sm9_pardon_w rfl (Nat.le_of_ble_eq_true rfl) rfl (Nat.le_of_ble_eq_true rfl) (c9_pardon (xs (i + 1)) _ _ e2) ?_
  refine L_eq cx dL_law_493 (tgt := 1368) (by decide) ?_
  exact kk c1 m1 r1
theorem law_10 {p : Program} {l : Launch} {e : Env} {s : State} {mm : MethodId} {below : List Frame} {meth : Method} {cc : Code} {L : Nat} {xs : Nat → Int32} {D : va_G} {cA : Nat → ClassId} {ad : Nat → Nat} {i : Nat} {c m : JMu} (cx : LX p s mm meth cc L xs D cA ad) (hi : i + 6 ≤ L) (hL : L ≤ 3072) (r : R c m) (kk : ∀ c1 m1, R c1 m1 → LW p l e s mm below meth cc D cA ad 1368 [] (nI i) c1 m1) : LW p l e s mm below meth cc D cA ad 498 [] (nI i) c m := by
  obtain ⟨v, c1, m1, e1, e2, r1⟩ := act_feed r ((((xs (i + 1)).toInt64 <<< (((32 : Int32)).toInt64 &&& 63)) ||| ((xs (i + 2)).toInt64 &&& (4294967295 : Int64)))) (xs (i + 3))
  refine L_a1 cx dL_law_498 ?_
  refine L_arg 1 cx dL_law_499 dL_law_500 dL_law_501 dL_law_502 dL_law_503 (by decide) (by omega) hL ?_
  refine L_i2l cx dL_law_504 ?_
  refine L_bipush (v := 32) cx dL_law_505 (by decide) ?_
  refine L_lshl cx dL_law_507 ?_
  refine L_arg 2 cx dL_law_508 dL_law_509 dL_law_510 dL_law_511 dL_law_512 (by decide) (by omega) hL ?_
  refine L_i2l cx dL_law_513 ?_
  refine L_ldc2 (v := 4294967295) cx dL_law_514 kL_55 ?_
  refine L_land cx dL_law_517 ?_
  refine L_lor cx dL_law_518 ?_
  refine L_arg 3 cx dL_law_519 dL_law_520 dL_law_521 dL_law_522 dL_law_523 (by decide) (by omega) hL ?_
  refine L_callC (M' := m8_feed) (as := [.long ((((xs (i + 1)).toInt64 <<< (((32 : Int32)).toInt64 &&& 63)) ||| ((xs (i + 2)).toInt64 &&& (4294967295 : Int64)))), .int (xs (i + 3))]) cx dL_law_524 lL_57 sm8_feed sm8_feed_w rfl (Nat.le_of_ble_eq_true rfl) rfl (Nat.le_of_ble_eq_true rfl) (c8_feed ((((xs (i + 1)).toInt64 <<< (((32 : Int32)).toInt64 &&& 63)) ||| ((xs (i + 2)).toInt64 &&& (4294967295 : Int64)))) (xs (i + 3)) _ _ e1) ?_
  refine L_a2 cx dL_law_527 ?_
  refine L_arg 1 cx dL_law_528 dL_law_529 dL_law_530 dL_law_531 dL_law_532 (by decide) (by omega) hL ?_
  refine L_i2l cx dL_law_533 ?_
  refine L_bipush (v := 32) cx dL_law_534 (by decide) ?_
  refine L_lshl cx dL_law_536 ?_
  refine L_arg 2 cx dL_law_537 dL_law_538 dL_law_539 dL_law_540 dL_law_541 (by decide) (by omega) hL ?_
  refine L_i2l cx dL_law_542 ?_
  refine L_ldc2 (v := 4294967295) cx dL_law_543 kL_55 ?_
  refine L_land cx dL_law_546 ?_
  refine L_lor cx dL_law_547 ?_
  refine L_arg 3 cx dL_law_548 dL_law_549 dL_law_550 dL_law_551 dL_law_552 (by decide) (by omega) hL ?_
  refine L_callM (M' := m9_feed) (as := [.long ((((xs (i + 1)).toInt64 <<< (((32 : Int32)).toInt64 &&& 63)) ||| ((xs (i + 2)).toInt64 &&& (4294967295 : Int64)))), .int (xs (i + 3))]) cx dL_law_553 lL_61 sm9_feed sm9_feed_w rfl (Nat.le_of_ble_eq_true rfl) rfl (Nat.le_of_ble_eq_true rfl) (c9_feed ((((xs (i + 1)).toInt64 <<< (((32 : Int32)).toInt64 &&& 63)) ||| ((xs (i + 2)).toInt64 &&& (4294967295 : Int64)))) (xs (i + 3)) _ _ e2) ?_
  refine L_eq cx dL_law_556 (tgt := 1368) (by decide) ?_
  exact kk c1 m1 r1
theorem law_11 {p : Program} {l : Launch} {e : Env} {s : State} {mm : MethodId} {below : List Frame} {meth : Method} {cc : Code} {L : Nat} {xs : Nat → Int32} {D : va_G} {cA : Nat → ClassId} {ad : Nat → Nat} {i : Nat} {c m : JMu} (cx : LX p s mm meth cc L xs D cA ad) (hi : i + 6 ≤ L) (hL : L ≤ 3072) (r : R c m) (kk : ∀ c1 m1, R c1 m1 → LW p l e s mm below meth cc D cA ad 1368 [] (nI i) c1 m1) : LW p l e s mm below meth cc D cA ad 561 [] (nI i) c m := by
  obtain ⟨v, c1, m1, e1, e2, r1⟩ := act_text r (xs (i + 1))
  refine L_a1 cx dL_law_561 ?_
  refine L_arg 1 cx dL_law_562 dL_law_563 dL_law_564 dL_law_565 dL_law_566 (by decide) (by omega) hL ?_
  refine L_callC (M' := m8_text) (as := [.int (xs (i + 1))]) cx dL_law_567 lL_62 sm8_text sm8_text_w rfl (Nat.le_of_ble_eq_true rfl) rfl (Nat.le_of_ble_eq_true rfl) (c8_text (xs (i + 1)) _ _ e1) ?_
  refine L_a2 cx dL_law_570 ?_
  refine L_arg 1 cx dL_law_571 dL_law_572 dL_law_573 dL_law_574 dL_law_575 (by decide) (by omega) hL ?_
  refine L_callM (M' := m9_text) (as := [.int (xs (i + 1))]) cx dL_law_576 lL_65 sm9_text sm9_text_w rfl (Nat.le_of_ble_eq_true rfl) rfl (Nat.le_of_ble_eq_true rfl) (c9_text (xs (i + 1)) _ _ e2) ?_
  refine L_eq cx dL_law_579 (tgt := 1368) (by decide) ?_
  exact kk c1 m1 r1
theorem law_12 {p : Program} {l : Launch} {e : Env} {s : State} {mm : MethodId} {below : List Frame} {meth : Method} {cc : Code} {L : Nat} {xs : Nat → Int32} {D : va_G} {cA : Nat → ClassId} {ad : Nat → Nat} {i : Nat} {c m : JMu} (cx : LX p s mm meth cc L xs D cA ad) (hi : i + 6 ≤ L) (hL : L ≤ 3072) (r : R c m) (kk : ∀ c1 m1, R c1 m1 → LW p l e s mm below meth cc D cA ad 1368 [] (nI i) c1 m1) : LW p l e s mm below meth cc D cA ad 584 [] (nI i) c m := by
  obtain ⟨v, c1, m1, e1, e2, r1⟩ := act_law r (xs (i + 1)) (xs (i + 2)) (xs (i + 3)) (xs (i + 4))
  refine L_a1 cx dL_law_584 ?_
  refine L_arg 1 cx dL_law_585 dL_law_586 dL_law_587 dL_law_588 dL_law_589 (by decide) (by omega) hL ?_
  refine L_arg 2 cx dL_law_590 dL_law_591 dL_law_592 dL_law_593 dL_law_594 (by decide) (by omega) hL ?_
  refine L_arg 3 cx dL_law_595 dL_law_596 dL_law_597 dL_law_598 dL_law_599 (by decide) (by omega) hL ?_
  refine L_arg 4 cx dL_law_600 dL_law_601 dL_law_602 dL_law_603 dL_law_604 (by decide) (by omega) hL ?_
  refine L_callC (M' := m8_law) (as := [.int (xs (i + 1)), .int (xs (i + 2)), .int (xs (i + 3)), .int (xs (i + 4))]) cx dL_law_605 lL_66 sm8_law sm8_law_w rfl (Nat.le_of_ble_eq_true rfl) rfl (Nat.le_of_ble_eq_true rfl) (c8_law (xs (i + 1)) (xs (i + 2)) (xs (i + 3)) (xs (i + 4)) _ _ e1) ?_
  refine L_a2 cx dL_law_608 ?_
  refine L_arg 1 cx dL_law_609 dL_law_610 dL_law_611 dL_law_612 dL_law_613 (by decide) (by omega) hL ?_
  refine L_arg 2 cx dL_law_614 dL_law_615 dL_law_616 dL_law_617 dL_law_618 (by decide) (by omega) hL ?_
  refine L_arg 3 cx dL_law_619 dL_law_620 dL_law_621 dL_law_622 dL_law_623 (by decide) (by omega) hL ?_
  refine L_arg 4 cx dL_law_624 dL_law_625 dL_law_626 dL_law_627 dL_law_628 (by decide) (by omega) hL ?_
  refine L_callM (M' := m9_law) (as := [.int (xs (i + 1)), .int (xs (i + 2)), .int (xs (i + 3)), .int (xs (i + 4))]) cx dL_law_629 lL_70 sm9_law sm9_law_w rfl (Nat.le_of_ble_eq_true rfl) rfl (Nat.le_of_ble_eq_true rfl) (c9_law (xs (i + 1)) (xs (i + 2)) (xs (i + 3)) (xs (i + 4)) _ _ e2) ?_
  refine L_eq cx dL_law_632 (tgt := 1368) (by decide) ?_
  exact kk c1 m1 r1
theorem law_13 {p : Program} {l : Launch} {e : Env} {s : State} {mm : MethodId} {below : List Frame} {meth : Method} {cc : Code} {L : Nat} {xs : Nat → Int32} {D : va_G} {cA : Nat → ClassId} {ad : Nat → Nat} {i : Nat} {c m : JMu} (cx : LX p s mm meth cc L xs D cA ad) (hi : i + 6 ≤ L) (hL : L ≤ 3072) (r : R c m) (kk : ∀ c1 m1, R c1 m1 → LW p l e s mm below meth cc D cA ad 1368 [] (nI i) c1 m1) : LW p l e s mm below meth cc D cA ad 637 [] (nI i) c m := by
  obtain ⟨v, c1, m1, e1, e2, r1⟩ := act_nights r (xs (i + 1))
  refine L_a1 cx dL_law_637 ?_
  refine L_arg 1 cx dL_law_638 dL_law_639 dL_law_640 dL_law_641 dL_law_642 (by decide) (by omega) hL ?_
  refine L_callC (M' := m8_nights) (as := [.int (xs (i + 1))]) cx dL_law_643 lL_71 sm8_nights sm8_nights_w rfl (Nat.le_of_ble_eq_true rfl) rfl (Nat.le_of_ble_eq_true rfl) (c8_nights (xs (i + 1)) _ _ e1) ?_
  refine L_a2 cx dL_law_646 ?_
  refine L_arg 1 cx dL_law_647 dL_law_648 dL_law_649 dL_law_650 dL_law_651 (by decide) (by omega) hL ?_
  refine L_callM (M' := m9_nights) (as := [.int (xs (i + 1))]) cx dL_law_652 lL_74 sm9_nights sm9_nights_w rfl (Nat.le_of_ble_eq_true rfl) rfl (Nat.le_of_ble_eq_true rfl) (c9_nights (xs (i + 1)) _ _ e2) ?_
  refine L_eq cx dL_law_655 (tgt := 1368) (by decide) ?_
  exact kk c1 m1 r1
theorem law_14 {p : Program} {l : Launch} {e : Env} {s : State} {mm : MethodId} {below : List Frame} {meth : Method} {cc : Code} {L : Nat} {xs : Nat → Int32} {D : va_G} {cA : Nat → ClassId} {ad : Nat → Nat} {i : Nat} {c m : JMu} (cx : LX p s mm meth cc L xs D cA ad) (hi : i + 6 ≤ L) (hL : L ≤ 3072) (r : R c m) (kk : ∀ c1 m1, R c1 m1 → LW p l e s mm below meth cc D cA ad 1368 [] (nI i) c1 m1) : LW p l e s mm below meth cc D cA ad 660 [] (nI i) c m := by
  obtain ⟨v, c1, m1, e1, e2, r1⟩ := act_loose r (xs (i + 1))
  refine L_a1 cx dL_law_660 ?_
  refine L_arg 1 cx dL_law_661 dL_law_662 dL_law_663 dL_law_664 dL_law_665 (by decide) (by omega) hL ?_
  refine L_callC (M' := m8_loose) (as := [.int (xs (i + 1))]) cx dL_law_666 lL_75 sm8_loose sm8_loose_w rfl (Nat.le_of_ble_eq_true rfl) rfl (Nat.le_of_ble_eq_true rfl) (c8_loose (xs (i + 1)) _ _ e1) ?_
  refine L_a2 cx dL_law_669 ?_
  refine L_arg 1 cx dL_law_670 dL_law_671 dL_law_672 dL_law_673 dL_law_674 (by decide) (by omega) hL ?_
  refine L_callM (M' := m9_loose) (as := [.int (xs (i + 1))]) cx dL_law_675 lL_78 sm9_loose sm9_loose_w rfl (Nat.le_of_ble_eq_true rfl) rfl (Nat.le_of_ble_eq_true rfl) (c9_loose (xs (i + 1)) _ _ e2) ?_
  refine L_eq cx dL_law_678 (tgt := 1368) (by decide) ?_
  exact kk c1 m1 r1
theorem law_15 {p : Program} {l : Launch} {e : Env} {s : State} {mm : MethodId} {below : List Frame} {meth : Method} {cc : Code} {L : Nat} {xs : Nat → Int32} {D : va_G} {cA : Nat → ClassId} {ad : Nat → Nat} {i : Nat} {c m : JMu} (cx : LX p s mm meth cc L xs D cA ad) (hi : i + 6 ≤ L) (hL : L ≤ 3072) (r : R c m) (kk : ∀ c1 m1, R c1 m1 → LW p l e s mm below meth cc D cA ad 1368 [] (nI i) c1 m1) : LW p l e s mm below meth cc D cA ad 683 [] (nI i) c m := by
  obtain ⟨v, c1, m1, e1, e2, r1⟩ := act_then r (xs (i + 1)) (xs (i + 2)) (xs (i + 3))
  refine L_a1 cx dL_law_683 ?_
  refine L_arg 1 cx dL_law_684 dL_law_685 dL_law_686 dL_law_687 dL_law_688 (by decide) (by omega) hL ?_
  refine L_arg 2 cx dL_law_689 dL_law_690 dL_law_691 dL_law_692 dL_law_693 (by decide) (by omega) hL ?_
  refine L_arg 3 cx dL_law_694 dL_law_695 dL_law_696 dL_law_697 dL_law_698 (by decide) (by omega) hL ?_
  refine L_callC (M' := m8_then) (as := [.int (xs (i + 1)), .int (xs (i + 2)), .int (xs (i + 3))]) cx dL_law_699 lL_79 sm8_then sm8_then_w rfl (Nat.le_of_ble_eq_true rfl) rfl (Nat.le_of_ble_eq_true rfl) (c8_then (xs (i + 1)) (xs (i + 2)) (xs (i + 3)) _ _ e1) ?_
  refine L_a2 cx dL_law_702 ?_
  refine L_arg 1 cx dL_law_703 dL_law_704 dL_law_705 dL_law_706 dL_law_707 (by decide) (by omega) hL ?_
  refine L_arg 2 cx dL_law_708 dL_law_709 dL_law_710 dL_law_711 dL_law_712 (by decide) (by omega) hL ?_
  refine L_arg 3 cx dL_law_713 dL_law_714 dL_law_715 dL_law_716 dL_law_717 (by decide) (by omega) hL ?_
  refine L_callM (M' := m9_then) (as := [.int (xs (i + 1)), .int (xs (i + 2)), .int (xs (i + 3))]) cx dL_law_718 lL_83 sm9_then sm9_then_w rfl (Nat.le_of_ble_eq_true rfl) rfl (Nat.le_of_ble_eq_true rfl) (c9_then (xs (i + 1)) (xs (i + 2)) (xs (i + 3)) _ _ e2) ?_
  refine L_eq cx dL_law_721 (tgt := 1368) (by decide) ?_
  exact kk c1 m1 r1
theorem law_16 {p : Program} {l : Launch} {e : Env} {s : State} {mm : MethodId} {below : List Frame} {meth : Method} {cc : Code} {L : Nat} {xs : Nat → Int32} {D : va_G} {cA : Nat → ClassId} {ad : Nat → Nat} {i : Nat} {c m : JMu} (cx : LX p s mm meth cc L xs D cA ad) (hi : i + 6 ≤ L) (hL : L ≤ 3072) (r : R c m) (kk : ∀ c1 m1, R c1 m1 → LW p l e s mm below meth cc D cA ad 1368 [] (nI i) c1 m1) : LW p l e s mm below meth cc D cA ad 726 [] (nI i) c m := by
  obtain ⟨v, c1, m1, e1, e2, r1⟩ := act_often r (xs (i + 1)) (xs (i + 2))
  refine L_a1 cx dL_law_726 ?_
  refine L_arg 1 cx dL_law_727 dL_law_728 dL_law_729 dL_law_730 dL_law_731 (by decide) (by omega) hL ?_
  refine L_arg 2 cx dL_law_732 dL_law_733 dL_law_734 dL_law_735 dL_law_736 (by decide) (by omega) hL ?_
  refine L_callC (M' := m8_often) (as := [.int (xs (i + 1)), .int (xs (i + 2))]) cx dL_law_737 lL_84 sm8_often sm8_often_w rfl (Nat.le_of_ble_eq_true rfl) rfl (Nat.le_of_ble_eq_true rfl) (c8_often (xs (i + 1)) (xs (i + 2)) _ _ e1) ?_
  refine L_a2 cx dL_law_740 ?_
  refine L_arg 1 cx dL_law_741 dL_law_742 dL_law_743 dL_law_744 dL_law_745 (by decide) (by omega) hL ?_
  refine L_arg 2 cx dL_law_746 dL_law_747 dL_law_748 dL_law_749 dL_law_750 (by decide) (by omega) hL ?_
  refine L_callM (M' := m9_often) (as := [.int (xs (i + 1)), .int (xs (i + 2))]) cx dL_law_751 lL_87 sm9_often sm9_often_w rfl (Nat.le_of_ble_eq_true rfl) rfl (Nat.le_of_ble_eq_true rfl) (c9_often (xs (i + 1)) (xs (i + 2)) _ _ e2) ?_
  refine L_eq cx dL_law_754 (tgt := 1368) (by decide) ?_
  exact kk c1 m1 r1
theorem law_17 {p : Program} {l : Launch} {e : Env} {s : State} {mm : MethodId} {below : List Frame} {meth : Method} {cc : Code} {L : Nat} {xs : Nat → Int32} {D : va_G} {cA : Nat → ClassId} {ad : Nat → Nat} {i : Nat} {c m : JMu} (cx : LX p s mm meth cc L xs D cA ad) (hi : i + 6 ≤ L) (hL : L ≤ 3072) (r : R c m) (kk : ∀ c1 m1, R c1 m1 → LW p l e s mm below meth cc D cA ad 1368 [] (nI i) c1 m1) : LW p l e s mm below meth cc D cA ad 759 [] (nI i) c m := by
  obtain ⟨v, c1, m1, e1, e2, r1⟩ := act_whole r (xs (i + 1))
  refine L_a1 cx dL_law_759 ?_
  refine L_arg 1 cx dL_law_760 dL_law_761 dL_law_762 dL_law_763 dL_law_764 (by decide) (by omega) hL ?_
  refine L_callC (M' := m8_whole) (as := [.int (xs (i + 1))]) cx dL_law_765 lL_88 sm8_whole sm8_whole_w rfl (Nat.le_of_ble_eq_true rfl) rfl (Nat.le_of_ble_eq_true rfl) (c8_whole (xs (i + 1)) _ _ e1) ?_
  refine L_a2 cx dL_law_768 ?_
  refine L_arg 1 cx dL_law_769 dL_law_770 dL_law_771 dL_law_772 dL_law_773 (by decide) (by omega) hL ?_
  refine L_callM (M' := m9_whole) (as := [.int (xs (i + 1))]) cx dL_law_774 lL_91 sm9_whole sm9_whole_w rfl (Nat.le_of_ble_eq_true rfl) rfl (Nat.le_of_ble_eq_true rfl) (c9_whole (xs (i + 1)) _ _ e2) ?_
  refine L_eq cx dL_law_777 (tgt := 1368) (by decide) ?_
  exact kk c1 m1 r1
theorem law_18 {p : Program} {l : Launch} {e : Env} {s : State} {mm : MethodId} {below : List Frame} {meth : Method} {cc : Code} {L : Nat} {xs : Nat → Int32} {D : va_G} {cA : Nat → ClassId} {ad : Nat → Nat} {i : Nat} {c m : JMu} (cx : LX p s mm meth cc L xs D cA ad) (hi : i + 6 ≤ L) (hL : L ≤ 3072) (r : R c m) (kk : ∀ c1 m1, R c1 m1 → LW p l e s mm below meth cc D cA ad 1368 [] (nI i) c1 m1) : LW p l e s mm below meth cc D cA ad 782 [] (nI i) c m := by
  obtain ⟨v, c1, m1, e1, e2, r1⟩ := act_stays r (xs (i + 1))
  refine L_a1 cx dL_law_782 ?_
  refine L_arg 1 cx dL_law_783 dL_law_784 dL_law_785 dL_law_786 dL_law_787 (by decide) (by omega) hL ?_
  refine L_callC (M' := m8_stays) (as := [.int (xs (i + 1))]) cx dL_law_788 lL_92 sm8_stays sm8_stays_w rfl (Nat.le_of_ble_eq_true rfl) rfl (Nat.le_of_ble_eq_true rfl) (c8_stays (xs (i + 1)) _ _ e1) ?_
  refine L_a2 cx dL_law_791 ?_
  refine L_arg 1 cx dL_law_792 dL_law_793 dL_law_794 dL_law_795 dL_law_796 (by decide) (by omega) hL ?_
  refine L_callM (M' := m9_stays) (as := [.int (xs (i + 1))]) cx dL_law_797 lL_95 sm9_stays sm9_stays_w rfl (Nat.le_of_ble_eq_true rfl) rfl (Nat.le_of_ble_eq_true rfl) (c9_stays (xs (i + 1)) _ _ e2) ?_
  refine L_eq cx dL_law_800 (tgt := 1368) (by decide) ?_
  exact kk c1 m1 r1
theorem law_19 {p : Program} {l : Launch} {e : Env} {s : State} {mm : MethodId} {below : List Frame} {meth : Method} {cc : Code} {L : Nat} {xs : Nat → Int32} {D : va_G} {cA : Nat → ClassId} {ad : Nat → Nat} {i : Nat} {c m : JMu} (cx : LX p s mm meth cc L xs D cA ad) (hi : i + 6 ≤ L) (hL : L ≤ 3072) (r : R c m) (kk : ∀ c1 m1, R c1 m1 → LW p l e s mm below meth cc D cA ad 1368 [] (nI i) c1 m1) : LW p l e s mm below meth cc D cA ad 805 [] (nI i) c m := by
  obtain ⟨v, e1, e2⟩ := act_clash r
  refine L_a1 cx dL_law_805 ?_
  refine L_callC (M' := m8_clash) (as := []) cx dL_law_806 lL_96 sm8_clash sm8_clash_w rfl (Nat.le_of_ble_eq_true rfl) rfl (Nat.le_of_ble_eq_true rfl) (c8_clash _ _ e1) ?_
  refine L_a2 cx dL_law_809 ?_
  refine L_callM (M' := m9_clash) (as := []) cx dL_law_810 lL_100 sm9_clash sm9_clash_w rfl (Nat.le_of_ble_eq_true rfl) rfl (Nat.le_of_ble_eq_true rfl) (c9_clash _ _ e2) ?_
  refine L_eq cx dL_law_813 (tgt := 1368) (by decide) ?_
  exact kk c m r
theorem law_20 {p : Program} {l : Launch} {e : Env} {s : State} {mm : MethodId} {below : List Frame} {meth : Method} {cc : Code} {L : Nat} {xs : Nat → Int32} {D : va_G} {cA : Nat → ClassId} {ad : Nat → Nat} {i : Nat} {c m : JMu} (cx : LX p s mm meth cc L xs D cA ad) (hi : i + 6 ≤ L) (hL : L ≤ 3072) (r : R c m) (kk : ∀ c1 m1, R c1 m1 → LW p l e s mm below meth cc D cA ad 1368 [] (nI i) c1 m1) : LW p l e s mm below meth cc D cA ad 818 [] (nI i) c m := by
  obtain ⟨v, c1, m1, e1, e2, r1⟩ := act_least r (xs (i + 1))
  refine L_a1 cx dL_law_818 ?_
  refine L_arg 1 cx dL_law_819 dL_law_820 dL_law_821 dL_law_822 dL_law_823 (by decide) (by omega) hL ?_
  refine L_callC (M' := m8_least) (as := [.int (xs (i + 1))]) cx dL_law_824 lL_101 sm8_least sm8_least_w rfl (Nat.le_of_ble_eq_true rfl) rfl (Nat.le_of_ble_eq_true rfl) (c8_least (xs (i + 1)) _ _ e1) ?_
  refine L_a2 cx dL_law_827 ?_
  refine L_arg 1 cx dL_law_828 dL_law_829 dL_law_830 dL_law_831 dL_law_832 (by decide) (by omega) hL ?_
  refine L_callM (M' := m9_least) (as := [.int (xs (i + 1))]) cx dL_law_833 lL_104 sm9_least sm9_least_w rfl (Nat.le_of_ble_eq_true rfl) rfl (Nat.le_of_ble_eq_true rfl) (c9_least (xs (i + 1)) _ _ e2) ?_
  refine L_eq cx dL_law_836 (tgt := 1368) (by decide) ?_
  exact kk c1 m1 r1
theorem law_21 {p : Program} {l : Launch} {e : Env} {s : State} {mm : MethodId} {below : List Frame} {meth : Method} {cc : Code} {L : Nat} {xs : Nat → Int32} {D : va_G} {cA : Nat → ClassId} {ad : Nat → Nat} {i : Nat} {c m : JMu} (cx : LX p s mm meth cc L xs D cA ad) (hi : i + 6 ≤ L) (hL : L ≤ 3072) (r : R c m) (kk : ∀ c1 m1, R c1 m1 → LW p l e s mm below meth cc D cA ad 1368 [] (nI i) c1 m1) : LW p l e s mm below meth cc D cA ad 841 [] (nI i) c m := by
  obtain ⟨v, c1, m1, e1, e2, r1⟩ := act_beside r (xs (i + 1))
  refine L_a1 cx dL_law_841 ?_
  refine L_arg 1 cx dL_law_842 dL_law_843 dL_law_844 dL_law_845 dL_law_846 (by decide) (by omega) hL ?_
  refine L_callC (M' := m8_beside) (as := [.int (xs (i + 1))]) cx dL_law_847 lL_105 sm8_beside sm8_beside_w rfl (Nat.le_of_ble_eq_true rfl) rfl (Nat.le_of_ble_eq_true rfl) (c8_beside (xs (i + 1)) _ _ e1) ?_
  refine L_a2 cx dL_law_850 ?_
  refine L_arg 1 cx dL_law_851 dL_law_852 dL_law_853 dL_law_854 dL_law_855 (by decide) (by omega) hL ?_
  refine L_callM (M' := m9_beside) (as := [.int (xs (i + 1))]) cx dL_law_856 lL_108 sm9_beside sm9_beside_w rfl (Nat.le_of_ble_eq_true rfl) rfl (Nat.le_of_ble_eq_true rfl) (c9_beside (xs (i + 1)) _ _ e2) ?_
  refine L_eq cx dL_law_859 (tgt := 1368) (by decide) ?_
  exact kk c1 m1 r1
theorem law_22 {p : Program} {l : Launch} {e : Env} {s : State} {mm : MethodId} {below : List Frame} {meth : Method} {cc : Code} {L : Nat} {xs : Nat → Int32} {D : va_G} {cA : Nat → ClassId} {ad : Nat → Nat} {i : Nat} {c m : JMu} (cx : LX p s mm meth cc L xs D cA ad) (hi : i + 6 ≤ L) (hL : L ≤ 3072) (r : R c m) (kk : ∀ c1 m1, R c1 m1 → LW p l e s mm below meth cc D cA ad 1368 [] (nI i) c1 m1) : LW p l e s mm below meth cc D cA ad 864 [] (nI i) c m := by
  obtain ⟨v, c1, m1, e1, e2, r1⟩ := act_rooms r (xs (i + 1)) (xs (i + 2))
  refine L_a1 cx dL_law_864 ?_
  refine L_arg 1 cx dL_law_865 dL_law_866 dL_law_867 dL_law_868 dL_law_869 (by decide) (by omega) hL ?_
  refine L_arg 2 cx dL_law_870 dL_law_871 dL_law_872 dL_law_873 dL_law_874 (by decide) (by omega) hL ?_
  refine L_callC (M' := m8_rooms) (as := [.int (xs (i + 1)), .int (xs (i + 2))]) cx dL_law_875 lL_109 sm8_rooms sm8_rooms_w rfl (Nat.le_of_ble_eq_true rfl) rfl (Nat.le_of_ble_eq_true rfl) (c8_rooms (xs (i + 1)) (xs (i + 2)) _ _ e1) ?_
  refine L_a2 cx dL_law_878 ?_
  refine L_arg 1 cx dL_law_879 dL_law_880 dL_law_881 dL_law_882 dL_law_883 (by decide) (by omega) hL ?_
  refine L_arg 2 cx dL_law_884 dL_law_885 dL_law_886 dL_law_887 dL_law_888 (by decide) (by omega) hL ?_
  refine L_callM (M' := m9_rooms) (as := [.int (xs (i + 1)), .int (xs (i + 2))]) cx dL_law_889 lL_112 sm9_rooms sm9_rooms_w rfl (Nat.le_of_ble_eq_true rfl) rfl (Nat.le_of_ble_eq_true rfl) (c9_rooms (xs (i + 1)) (xs (i + 2)) _ _ e2) ?_
  refine L_eq cx dL_law_892 (tgt := 1368) (by decide) ?_
  exact kk c1 m1 r1
theorem law_23 {p : Program} {l : Launch} {e : Env} {s : State} {mm : MethodId} {below : List Frame} {meth : Method} {cc : Code} {L : Nat} {xs : Nat → Int32} {D : va_G} {cA : Nat → ClassId} {ad : Nat → Nat} {i : Nat} {c m : JMu} (cx : LX p s mm meth cc L xs D cA ad) (hi : i + 6 ≤ L) (hL : L ≤ 3072) (r : R c m) (kk : ∀ c1 m1, R c1 m1 → LW p l e s mm below meth cc D cA ad 1368 [] (nI i) c1 m1) : LW p l e s mm below meth cc D cA ad 897 [] (nI i) c m := by
  obtain ⟨v, c1, m1, e1, e2, r1⟩ := act_falls r (xs (i + 1)) (xs (i + 2))
  refine L_a1 cx dL_law_897 ?_
  refine L_arg 1 cx dL_law_898 dL_law_899 dL_law_900 dL_law_901 dL_law_902 (by decide) (by omega) hL ?_
  refine L_arg 2 cx dL_law_903 dL_law_904 dL_law_905 dL_law_906 dL_law_907 (by decide) (by omega) hL ?_
  refine L_callC (M' := m8_falls) (as := [.int (xs (i + 1)), .int (xs (i + 2))]) cx dL_law_908 lL_113 sm8_falls sm8_falls_w rfl (Nat.le_of_ble_eq_true rfl) rfl (Nat.le_of_ble_eq_true rfl) (c8_falls (xs (i + 1)) (xs (i + 2)) _ _ e1) ?_
  refine L_a2 cx dL_law_911 ?_
  refine L_arg 1 cx dL_law_912 dL_law_913 dL_law_914 dL_law_915 dL_law_916 (by decide) (by omega) hL ?_
  refine L_arg 2 cx dL_law_917 dL_law_918 dL_law_919 dL_law_920 dL_law_921 (by decide) (by omega) hL ?_
  refine L_callM (M' := m9_falls) (as := [.int (xs (i + 1)), .int (xs (i + 2))]) cx dL_law_922 lL_116 sm9_falls sm9_falls_w rfl (Nat.le_of_ble_eq_true rfl) rfl (Nat.le_of_ble_eq_true rfl) (c9_falls (xs (i + 1)) (xs (i + 2)) _ _ e2) ?_
  refine L_eq cx dL_law_925 (tgt := 1368) (by decide) ?_
  exact kk c1 m1 r1
theorem law_24 {p : Program} {l : Launch} {e : Env} {s : State} {mm : MethodId} {below : List Frame} {meth : Method} {cc : Code} {L : Nat} {xs : Nat → Int32} {D : va_G} {cA : Nat → ClassId} {ad : Nat → Nat} {i : Nat} {c m : JMu} (cx : LX p s mm meth cc L xs D cA ad) (hi : i + 6 ≤ L) (hL : L ≤ 3072) (r : R c m) (kk : ∀ c1 m1, R c1 m1 → LW p l e s mm below meth cc D cA ad 1368 [] (nI i) c1 m1) : LW p l e s mm below meth cc D cA ad 930 [] (nI i) c m := by
  obtain ⟨v, c1, m1, e1, e2, r1⟩ := act_was r (xs (i + 1))
  refine L_a1 cx dL_law_930 ?_
  refine L_arg 1 cx dL_law_931 dL_law_932 dL_law_933 dL_law_934 dL_law_935 (by decide) (by omega) hL ?_
  refine L_callC (M' := m8_was) (as := [.int (xs (i + 1))]) cx dL_law_936 lL_117 sm8_was sm8_was_w rfl (Nat.le_of_ble_eq_true rfl) rfl (Nat.le_of_ble_eq_true rfl) (c8_was (xs (i + 1)) _ _ e1) ?_
  refine L_a2 cx dL_law_939 ?_
  refine L_arg 1 cx dL_law_940 dL_law_941 dL_law_942 dL_law_943 dL_law_944 (by decide) (by omega) hL ?_
  refine L_callM (M' := m9_was) (as := [.int (xs (i + 1))]) cx dL_law_945 lL_120 sm9_was sm9_was_w rfl (Nat.le_of_ble_eq_true rfl) rfl (Nat.le_of_ble_eq_true rfl) (c9_was (xs (i + 1)) _ _ e2) ?_
  refine L_eq cx dL_law_948 (tgt := 1368) (by decide) ?_
  exact kk c1 m1 r1
theorem law_25 {p : Program} {l : Launch} {e : Env} {s : State} {mm : MethodId} {below : List Frame} {meth : Method} {cc : Code} {L : Nat} {xs : Nat → Int32} {D : va_G} {cA : Nat → ClassId} {ad : Nat → Nat} {i : Nat} {c m : JMu} (cx : LX p s mm meth cc L xs D cA ad) (hi : i + 6 ≤ L) (hL : L ≤ 3072) (r : R c m) (kk : ∀ c1 m1, R c1 m1 → LW p l e s mm below meth cc D cA ad 1368 [] (nI i) c1 m1) : LW p l e s mm below meth cc D cA ad 953 [] (nI i) c m := by
  obtain ⟨v, c1, m1, e1, e2, r1⟩ := act_dear r (xs (i + 1))
  refine L_a1 cx dL_law_953 ?_
  refine L_arg 1 cx dL_law_954 dL_law_955 dL_law_956 dL_law_957 dL_law_958 (by decide) (by omega) hL ?_
  refine L_callC (M' := m8_dear) (as := [.int (xs (i + 1))]) cx dL_law_959 lL_121 sm8_dear sm8_dear_w rfl (Nat.le_of_ble_eq_true rfl) rfl (Nat.le_of_ble_eq_true rfl) (c8_dear (xs (i + 1)) _ _ e1) ?_
  refine L_a2 cx dL_law_962 ?_
  refine L_arg 1 cx dL_law_963 dL_law_964 dL_law_965 dL_law_966 dL_law_967 (by decide) (by omega) hL ?_
  refine L_callM (M' := m9_dear) (as := [.int (xs (i + 1))]) cx dL_law_968 lL_124 sm9_dear sm9_dear_w rfl (Nat.le_of_ble_eq_true rfl) rfl (Nat.le_of_ble_eq_true rfl) (c9_dear (xs (i + 1)) _ _ e2) ?_
  refine L_eq cx dL_law_971 (tgt := 1368) (by decide) ?_
  exact kk c1 m1 r1
theorem law_26 {p : Program} {l : Launch} {e : Env} {s : State} {mm : MethodId} {below : List Frame} {meth : Method} {cc : Code} {L : Nat} {xs : Nat → Int32} {D : va_G} {cA : Nat → ClassId} {ad : Nat → Nat} {i : Nat} {c m : JMu} (cx : LX p s mm meth cc L xs D cA ad) (hi : i + 6 ≤ L) (hL : L ≤ 3072) (r : R c m) (kk : ∀ c1 m1, R c1 m1 → LW p l e s mm below meth cc D cA ad 1368 [] (nI i) c1 m1) : LW p l e s mm below meth cc D cA ad 976 [] (nI i) c m := by
  obtain ⟨v, c1, m1, e1, e2, r1⟩ := act_seed r (xs (i + 1))
  refine L_a1 cx dL_law_976 ?_
  refine L_arg 1 cx dL_law_977 dL_law_978 dL_law_979 dL_law_980 dL_law_981 (by decide) (by omega) hL ?_
  refine L_callC (M' := m8_seed) (as := [.int (xs (i + 1))]) cx dL_law_982 lL_125 sm8_seed sm8_seed_w rfl (Nat.le_of_ble_eq_true rfl) rfl (Nat.le_of_ble_eq_true rfl) (c8_seed (xs (i + 1)) _ _ e1) ?_
  refine L_a2 cx dL_law_985 ?_
  refine L_arg 1 cx dL_law_986 dL_law_987 dL_law_988 dL_law_989 dL_law_990 (by decide) (by omega) hL ?_
  refine L_callM (M' := m9_seed) (as := [.int (xs (i + 1))]) cx dL_law_991 lL_128 sm9_seed sm9_seed_w rfl (Nat.le_of_ble_eq_true rfl) rfl (Nat.le_of_ble_eq_true rfl) (c9_seed (xs (i + 1)) _ _ e2) ?_
  refine L_eq cx dL_law_994 (tgt := 1368) (by decide) ?_
  exact kk c1 m1 r1
theorem law_27 {p : Program} {l : Launch} {e : Env} {s : State} {mm : MethodId} {below : List Frame} {meth : Method} {cc : Code} {L : Nat} {xs : Nat → Int32} {D : va_G} {cA : Nat → ClassId} {ad : Nat → Nat} {i : Nat} {c m : JMu} (cx : LX p s mm meth cc L xs D cA ad) (hi : i + 6 ≤ L) (hL : L ≤ 3072) (r : R c m) (kk : ∀ c1 m1, R c1 m1 → LW p l e s mm below meth cc D cA ad 1368 [] (nI i) c1 m1) : LW p l e s mm below meth cc D cA ad 999 [] (nI i) c m := by
  obtain ⟨v, c1, m1, e1, e2, r1⟩ := act_voice r (xs (i + 1)) (xs (i + 2)) (xs (i + 3))
  refine L_a1 cx dL_law_999 ?_
  refine L_arg 1 cx dL_law_1000 dL_law_1001 dL_law_1002 dL_law_1003 dL_law_1004 (by decide) (by omega) hL ?_
  refine L_arg 2 cx dL_law_1005 dL_law_1006 dL_law_1007 dL_law_1008 dL_law_1009 (by decide) (by omega) hL ?_
  refine L_arg 3 cx dL_law_1010 dL_law_1011 dL_law_1012 dL_law_1013 dL_law_1014 (by decide) (by omega) hL ?_
  refine L_callC (M' := m8_voice) (as := [.int (xs (i + 1)), .int (xs (i + 2)), .int (xs (i + 3))]) cx dL_law_1015 lL_129 sm8_voice sm8_voice_w rfl (Nat.le_of_ble_eq_true rfl) rfl (Nat.le_of_ble_eq_true rfl) (c8_voice (xs (i + 1)) (xs (i + 2)) (xs (i + 3)) _ _ e1) ?_
  refine L_a2 cx dL_law_1018 ?_
  refine L_arg 1 cx dL_law_1019 dL_law_1020 dL_law_1021 dL_law_1022 dL_law_1023 (by decide) (by omega) hL ?_
  refine L_arg 2 cx dL_law_1024 dL_law_1025 dL_law_1026 dL_law_1027 dL_law_1028 (by decide) (by omega) hL ?_
  refine L_arg 3 cx dL_law_1029 dL_law_1030 dL_law_1031 dL_law_1032 dL_law_1033 (by decide) (by omega) hL ?_
  refine L_callM (M' := m9_voice) (as := [.int (xs (i + 1)), .int (xs (i + 2)), .int (xs (i + 3))]) cx dL_law_1034 lL_132 sm9_voice sm9_voice_w rfl (Nat.le_of_ble_eq_true rfl) rfl (Nat.le_of_ble_eq_true rfl) (c9_voice (xs (i + 1)) (xs (i + 2)) (xs (i + 3)) _ _ e2) ?_
  refine L_eq cx dL_law_1037 (tgt := 1368) (by decide) ?_
  exact kk c1 m1 r1
theorem law_28 {p : Program} {l : Launch} {e : Env} {s : State} {mm : MethodId} {below : List Frame} {meth : Method} {cc : Code} {L : Nat} {xs : Nat → Int32} {D : va_G} {cA : Nat → ClassId} {ad : Nat → Nat} {i : Nat} {c m : JMu} (cx : LX p s mm meth cc L xs D cA ad) (hi : i + 6 ≤ L) (hL : L ≤ 3072) (r : R c m) (kk : ∀ c1 m1, R c1 m1 → LW p l e s mm below meth cc D cA ad 1368 [] (nI i) c1 m1) : LW p l e s mm below meth cc D cA ad 1042 [] (nI i) c m := by
  obtain ⟨v, c1, m1, e1, e2, r1⟩ := act_trace r (xs (i + 1))
  refine L_a1 cx dL_law_1042 ?_
  refine L_arg 1 cx dL_law_1043 dL_law_1044 dL_law_1045 dL_law_1046 dL_law_1047 (by decide) (by omega) hL ?_
  refine L_callC (M' := m8_trace) (as := [.int (xs (i + 1))]) cx dL_law_1048 lL_133 sm8_trace sm8_trace_w rfl (Nat.le_of_ble_eq_true rfl) rfl (Nat.le_of_ble_eq_true rfl) (c8_trace (xs (i + 1)) _ _ e1) ?_
  refine L_a2 cx dL_law_1051 ?_
  refine L_arg 1 cx dL_law_1052 dL_law_1053 dL_law_1054 dL_law_1055 dL_law_1056 (by decide) (by omega) hL ?_
  refine L_callM (M' := m9_trace) (as := [.int (xs (i + 1))]) cx dL_law_1057 lL_136 sm9_trace sm9_trace_w rfl (Nat.le_of_ble_eq_true rfl) rfl (Nat.le_of_ble_eq_true rfl) (c9_trace (xs (i + 1)) _ _ e2) ?_
  refine L_eq cx dL_law_1060 (tgt := 1368) (by decide) ?_
  exact kk c1 m1 r1
theorem law_29 {p : Program} {l : Launch} {e : Env} {s : State} {mm : MethodId} {below : List Frame} {meth : Method} {cc : Code} {L : Nat} {xs : Nat → Int32} {D : va_G} {cA : Nat → ClassId} {ad : Nat → Nat} {i : Nat} {c m : JMu} (cx : LX p s mm meth cc L xs D cA ad) (hi : i + 6 ≤ L) (hL : L ≤ 3072) (r : R c m) (kk : ∀ c1 m1, R c1 m1 → LW p l e s mm below meth cc D cA ad 1368 [] (nI i) c1 m1) : LW p l e s mm below meth cc D cA ad 1065 [] (nI i) c m := by
  obtain ⟨v, c1, m1, e1, e2, r1⟩ := act_sheet r (xs (i + 1)) (xs (i + 2)) (xs (i + 3))
  refine L_a1 cx dL_law_1065 ?_
  refine L_arg 1 cx dL_law_1066 dL_law_1067 dL_law_1068 dL_law_1069 dL_law_1070 (by decide) (by omega) hL ?_
  refine L_arg 2 cx dL_law_1071 dL_law_1072 dL_law_1073 dL_law_1074 dL_law_1075 (by decide) (by omega) hL ?_
  refine L_arg 3 cx dL_law_1076 dL_law_1077 dL_law_1078 dL_law_1079 dL_law_1080 (by decide) (by omega) hL ?_
  refine L_callC (M' := m8_sheet) (as := [.int (xs (i + 1)), .int (xs (i + 2)), .int (xs (i + 3))]) cx dL_law_1081 lL_137 sm8_sheet sm8_sheet_w rfl (Nat.le_of_ble_eq_true rfl) rfl (Nat.le_of_ble_eq_true rfl) (c8_sheet (xs (i + 1)) (xs (i + 2)) (xs (i + 3)) _ _ e1) ?_
  refine L_a2 cx dL_law_1084 ?_
  refine L_arg 1 cx dL_law_1085 dL_law_1086 dL_law_1087 dL_law_1088 dL_law_1089 (by decide) (by omega) hL ?_
  refine L_arg 2 cx dL_law_1090 dL_law_1091 dL_law_1092 dL_law_1093 dL_law_1094 (by decide) (by omega) hL ?_
  refine L_arg 3 cx dL_law_1095 dL_law_1096 dL_law_1097 dL_law_1098 dL_law_1099 (by decide) (by omega) hL ?_
  refine L_callM (M' := m9_sheet) (as := [.int (xs (i + 1)), .int (xs (i + 2)), .int (xs (i + 3))]) cx dL_law_1100 lL_140 sm9_sheet sm9_sheet_w rfl (Nat.le_of_ble_eq_true rfl) rfl (Nat.le_of_ble_eq_true rfl) (c9_sheet (xs (i + 1)) (xs (i + 2)) (xs (i + 3)) _ _ e2) ?_
  refine L_eq cx dL_law_1103 (tgt := 1368) (by decide) ?_
  exact kk c1 m1 r1
theorem law_30 {p : Program} {l : Launch} {e : Env} {s : State} {mm : MethodId} {below : List Frame} {meth : Method} {cc : Code} {L : Nat} {xs : Nat → Int32} {D : va_G} {cA : Nat → ClassId} {ad : Nat → Nat} {i : Nat} {c m : JMu} (cx : LX p s mm meth cc L xs D cA ad) (hi : i + 6 ≤ L) (hL : L ≤ 3072) (r : R c m) (kk : ∀ c1 m1, R c1 m1 → LW p l e s mm below meth cc D cA ad 1368 [] (nI i) c1 m1) : LW p l e s mm below meth cc D cA ad 1108 [] (nI i) c m := by
  obtain ⟨v, c1, m1, e1, e2, r1⟩ := act_put r (xs (i + 1)) (xs (i + 2)) (xs (i + 3))
  refine L_a1 cx dL_law_1108 ?_
  refine L_arg 1 cx dL_law_1109 dL_law_1110 dL_law_1111 dL_law_1112 dL_law_1113 (by decide) (by omega) hL ?_
  refine L_arg 2 cx dL_law_1114 dL_law_1115 dL_law_1116 dL_law_1117 dL_law_1118 (by decide) (by omega) hL ?_
  refine L_arg 3 cx dL_law_1119 dL_law_1120 dL_law_1121 dL_law_1122 dL_law_1123 (by decide) (by omega) hL ?_
  refine L_callC (M' := m8_put) (as := [.int (xs (i + 1)), .int (xs (i + 2)), .int (xs (i + 3))]) cx dL_law_1124 lL_141 sm8_put sm8_put_w rfl (Nat.le_of_ble_eq_true rfl) rfl (Nat.le_of_ble_eq_true rfl) (c8_put (xs (i + 1)) (xs (i + 2)) (xs (i + 3)) _ _ e1) ?_
  refine L_a2 cx dL_law_1127 ?_
  refine L_arg 1 cx dL_law_1128 dL_law_1129 dL_law_1130 dL_law_1131 dL_law_1132 (by decide) (by omega) hL ?_
  refine L_arg 2 cx dL_law_1133 dL_law_1134 dL_law_1135 dL_law_1136 dL_law_1137 (by decide) (by omega) hL ?_
  refine L_arg 3 cx dL_law_1138 dL_law_1139 dL_law_1140 dL_law_1141 dL_law_1142 (by decide) (by omega) hL ?_
  refine L_callM (M' := m9_put) (as := [.int (xs (i + 1)), .int (xs (i + 2)), .int (xs (i + 3))]) cx dL_law_1143 lL_144 sm9_put sm9_put_w rfl (Nat.le_of_ble_eq_true rfl) rfl (Nat.le_of_ble_eq_true rfl) (c9_put (xs (i + 1)) (xs (i + 2)) (xs (i + 3)) _ _ e2) ?_
  refine L_eq cx dL_law_1146 (tgt := 1368) (by decide) ?_
  exact kk c1 m1 r1
theorem law_31 {p : Program} {l : Launch} {e : Env} {s : State} {mm : MethodId} {below : List Frame} {meth : Method} {cc : Code} {L : Nat} {xs : Nat → Int32} {D : va_G} {cA : Nat → ClassId} {ad : Nat → Nat} {i : Nat} {c m : JMu} (cx : LX p s mm meth cc L xs D cA ad) (hi : i + 6 ≤ L) (hL : L ≤ 3072) (r : R c m) (kk : ∀ c1 m1, R c1 m1 → LW p l e s mm below meth cc D cA ad 1368 [] (nI i) c1 m1) : LW p l e s mm below meth cc D cA ad 1151 [] (nI i) c m := by
  obtain ⟨v, c1, m1, e1, e2, r1⟩ := act_move r (xs (i + 1)) (xs (i + 2)) (xs (i + 3)) (xs (i + 4)) (xs (i + 5))
  refine L_a1 cx dL_law_1151 ?_
  refine L_arg 1 cx dL_law_1152 dL_law_1153 dL_law_1154 dL_law_1155 dL_law_1156 (by decide) (by omega) hL ?_
  refine L_arg 2 cx dL_law_1157 dL_law_1158 dL_law_1159 dL_law_1160 dL_law_1161 (by decide) (by omega) hL ?_
  refine L_arg 3 cx dL_law_1162 dL_law_1163 dL_law_1164 dL_law_1165 dL_law_1166 (by decide) (by omega) hL ?_
  refine L_arg 4 cx dL_law_1167 dL_law_1168 dL_law_1169 dL_law_1170 dL_law_1171 (by decide) (by omega) hL ?_
  refine L_arg 5 cx dL_law_1172 dL_law_1173 dL_law_1174 dL_law_1175 dL_law_1176 (by decide) (by omega) hL ?_
  refine L_callC (M' := m8_move) (as := [.int (xs (i + 1)), .int (xs (i + 2)), .int (xs (i + 3)), .int (xs (i + 4)), .int (xs (i + 5))]) cx dL_law_1177 lL_145 sm8_move sm8_move_w rfl (Nat.le_of_ble_eq_true rfl) rfl (Nat.le_of_ble_eq_true rfl) (c8_move (xs (i + 1)) (xs (i + 2)) (xs (i + 3)) (xs (i + 4)) (xs (i + 5)) _ _ e1) ?_
  refine L_a2 cx dL_law_1180 ?_
  refine L_arg 1 cx dL_law_1181 dL_law_1182 dL_law_1183 dL_law_1184 dL_law_1185 (by decide) (by omega) hL ?_
  refine L_arg 2 cx dL_law_1186 dL_law_1187 dL_law_1188 dL_law_1189 dL_law_1190 (by decide) (by omega) hL ?_
  refine L_arg 3 cx dL_law_1191 dL_law_1192 dL_law_1193 dL_law_1194 dL_law_1195 (by decide) (by omega) hL ?_
  refine L_arg 4 cx dL_law_1196 dL_law_1197 dL_law_1198 dL_law_1199 dL_law_1200 (by decide) (by omega) hL ?_
  refine L_arg 5 cx dL_law_1201 dL_law_1202 dL_law_1203 dL_law_1204 dL_law_1205 (by decide) (by omega) hL ?_
  refine L_callM (M' := m9_move) (as := [.int (xs (i + 1)), .int (xs (i + 2)), .int (xs (i + 3)), .int (xs (i + 4)), .int (xs (i + 5))]) cx dL_law_1206 lL_149 sm9_move sm9_move_w rfl (Nat.le_of_ble_eq_true rfl) rfl (Nat.le_of_ble_eq_true rfl) (c9_move (xs (i + 1)) (xs (i + 2)) (xs (i + 3)) (xs (i + 4)) (xs (i + 5)) _ _ e2) ?_
  refine L_eq cx dL_law_1209 (tgt := 1368) (by decide) ?_
  exact kk c1 m1 r1
theorem law_32 {p : Program} {l : Launch} {e : Env} {s : State} {mm : MethodId} {below : List Frame} {meth : Method} {cc : Code} {L : Nat} {xs : Nat → Int32} {D : va_G} {cA : Nat → ClassId} {ad : Nat → Nat} {i : Nat} {c m : JMu} (cx : LX p s mm meth cc L xs D cA ad) (hi : i + 6 ≤ L) (hL : L ≤ 3072) (r : R c m) (kk : ∀ c1 m1, R c1 m1 → LW p l e s mm below meth cc D cA ad 1368 [] (nI i) c1 m1) : LW p l e s mm below meth cc D cA ad 1214 [] (nI i) c m := by
  obtain ⟨v, c1, m1, e1, e2, r1⟩ := act_leases r (xs (i + 1))
  refine L_a1 cx dL_law_1214 ?_
  refine L_arg 1 cx dL_law_1215 dL_law_1216 dL_law_1217 dL_law_1218 dL_law_1219 (by decide) (by omega) hL ?_
  refine L_callC (M' := m8_leases) (as := [.int (xs (i + 1))]) cx dL_law_1220 lL_150 sm8_leases sm8_leases_w rfl (Nat.le_of_ble_eq_true rfl) rfl (Nat.le_of_ble_eq_true rfl) (c8_leases (xs (i + 1)) _ _ e1) ?_
  refine L_a2 cx dL_law_1223 ?_
  refine L_arg 1 cx dL_law_1224 dL_law_1225 dL_law_1226 dL_law_1227 dL_law_1228 (by decide) (by omega) hL ?_
  refine L_callM (M' := m9_leases) (as := [.int (xs (i + 1))]) cx dL_law_1229 lL_153 sm9_leases sm9_leases_w rfl (Nat.le_of_ble_eq_true rfl) rfl (Nat.le_of_ble_eq_true rfl) (c9_leases (xs (i + 1)) _ _ e2) ?_
  refine L_eq cx dL_law_1232 (tgt := 1368) (by decide) ?_
  exact kk c1 m1 r1
theorem law_33 {p : Program} {l : Launch} {e : Env} {s : State} {mm : MethodId} {below : List Frame} {meth : Method} {cc : Code} {L : Nat} {xs : Nat → Int32} {D : va_G} {cA : Nat → ClassId} {ad : Nat → Nat} {i : Nat} {c m : JMu} (cx : LX p s mm meth cc L xs D cA ad) (hi : i + 6 ≤ L) (hL : L ≤ 3072) (r : R c m) (kk : ∀ c1 m1, R c1 m1 → LW p l e s mm below meth cc D cA ad 1368 [] (nI i) c1 m1) : LW p l e s mm below meth cc D cA ad 1237 [] (nI i) c m := by
  obtain ⟨v, c1, m1, e1, e2, r1⟩ := act_judge r (xs (i + 1))
  refine L_a1 cx dL_law_1237 ?_
  refine L_arg 1 cx dL_law_1238 dL_law_1239 dL_law_1240 dL_law_1241 dL_law_1242 (by decide) (by omega) hL ?_
  refine L_callC (M' := m8_judge) (as := [.int (xs (i + 1))]) cx dL_law_1243 lL_154 sm8_judge sm8_judge_w rfl (Nat.le_of_ble_eq_true rfl) rfl (Nat.le_of_ble_eq_true rfl) (c8_judge (xs (i + 1)) _ _ e1) ?_
  refine L_a2 cx dL_law_1246 ?_
  refine L_arg 1 cx dL_law_1247 dL_law_1248 dL_law_1249 dL_law_1250 dL_law_1251 (by decide) (by omega) hL ?_
  refine L_callM (M' := m9_judge) (as := [.int (xs (i + 1))]) cx dL_law_1252 lL_157 sm9_judge sm9_judge_w rfl (Nat.le_of_ble_eq_true rfl) rfl (Nat.le_of_ble_eq_true rfl) (c9_judge (xs (i + 1)) _ _ e2) ?_
  refine L_eq cx dL_law_1255 (tgt := 1368) (by decide) ?_
  exact kk c1 m1 r1
theorem law_34 {p : Program} {l : Launch} {e : Env} {s : State} {mm : MethodId} {below : List Frame} {meth : Method} {cc : Code} {L : Nat} {xs : Nat → Int32} {D : va_G} {cA : Nat → ClassId} {ad : Nat → Nat} {i : Nat} {c m : JMu} (cx : LX p s mm meth cc L xs D cA ad) (hi : i + 6 ≤ L) (hL : L ≤ 3072) (r : R c m) (kk : ∀ c1 m1, R c1 m1 → LW p l e s mm below meth cc D cA ad 1368 [] (nI i) c1 m1) : LW p l e s mm below meth cc D cA ad 1260 [] (nI i) c m := by
  obtain ⟨v, c1, m1, e1, e2, r1⟩ := act_image r
  refine L_a1 cx dL_law_1260 ?_
  refine L_callC (M' := m8_image) (as := []) cx dL_law_1261 lL_158 sm8_image sm8_image_w rfl (Nat.le_of_ble_eq_true rfl) rfl (Nat.le_of_ble_eq_true rfl) (c8_image _ _ e1) ?_
  refine L_a2 cx dL_law_1264 ?_
  refine L_callM (M' := m9_image) (as := []) cx dL_law_1265 lL_161 sm9_image sm9_image_w rfl (Nat.le_of_ble_eq_true rfl) rfl (Nat.le_of_ble_eq_true rfl) (c9_image _ _ e2) ?_
  refine L_eq cx dL_law_1268 (tgt := 1368) (by decide) ?_
  exact kk c1 m1 r1
theorem law_35 {p : Program} {l : Launch} {e : Env} {s : State} {mm : MethodId} {below : List Frame} {meth : Method} {cc : Code} {L : Nat} {xs : Nat → Int32} {D : va_G} {cA : Nat → ClassId} {ad : Nat → Nat} {i : Nat} {c m : JMu} (cx : LX p s mm meth cc L xs D cA ad) (hi : i + 6 ≤ L) (hL : L ≤ 3072) (r : R c m) (kk : ∀ c1 m1, R c1 m1 → LW p l e s mm below meth cc D cA ad 1368 [] (nI i) c1 m1) : LW p l e s mm below meth cc D cA ad 1273 [] (nI i) c m := by
  obtain ⟨v, c1, m1, e1, e2, r1⟩ := act_restore r
  refine L_a1 cx dL_law_1273 ?_
  refine L_callC (M' := m8_restore) (as := []) cx dL_law_1274 lL_162 sm8_restore sm8_restore_w rfl (Nat.le_of_ble_eq_true rfl) rfl (Nat.le_of_ble_eq_true rfl) (c8_restore _ _ e1) ?_
  refine L_a2 cx dL_law_1277 ?_
  refine L_callM (M' := m9_restore) (as := []) cx dL_law_1278 lL_165 sm9_restore sm9_restore_w rfl (Nat.le_of_ble_eq_true rfl) rfl (Nat.le_of_ble_eq_true rfl) (c9_restore _ _ e2) ?_
  refine L_eq cx dL_law_1281 (tgt := 1368) (by decide) ?_
  exact kk c1 m1 r1
theorem law_36 {p : Program} {l : Launch} {e : Env} {s : State} {mm : MethodId} {below : List Frame} {meth : Method} {cc : Code} {L : Nat} {xs : Nat → Int32} {D : va_G} {cA : Nat → ClassId} {ad : Nat → Nat} {i : Nat} {c m : JMu} (cx : LX p s mm meth cc L xs D cA ad) (hi : i + 6 ≤ L) (hL : L ≤ 3072) (r : R c m) (kk : ∀ c1 m1, R c1 m1 → LW p l e s mm below meth cc D cA ad 1368 [] (nI i) c1 m1) : LW p l e s mm below meth cc D cA ad 1286 [] (nI i) c m := by
  obtain ⟨v, c1, m1, e1, e2, r1⟩ := act_tell r (xs (i + 1))
  refine L_a1 cx dL_law_1286 ?_
  refine L_arg 1 cx dL_law_1287 dL_law_1288 dL_law_1289 dL_law_1290 dL_law_1291 (by decide) (by omega) hL ?_
  refine L_callC (M' := m8_tell) (as := [.int (xs (i + 1))]) cx dL_law_1292 lL_166 sm8_tell sm8_tell_w rfl (Nat.le_of_ble_eq_true rfl) rfl (Nat.le_of_ble_eq_true rfl) (c8_tell (xs (i + 1)) _ _ e1) ?_
  refine L_a2 cx dL_law_1295 ?_
  refine L_arg 1 cx dL_law_1296 dL_law_1297 dL_law_1298 dL_law_1299 dL_law_1300 (by decide) (by omega) hL ?_
  refine L_callM (M' := m9_tell) (as := [.int (xs (i + 1))]) cx dL_law_1301 lL_169 sm9_tell sm9_tell_w rfl (Nat.le_of_ble_eq_true rfl) rfl (Nat.le_of_ble_eq_true rfl) (c9_tell (xs (i + 1)) _ _ e2) ?_
  refine L_eq cx dL_law_1304 (tgt := 1368) (by decide) ?_
  exact kk c1 m1 r1
theorem law_37 {p : Program} {l : Launch} {e : Env} {s : State} {mm : MethodId} {below : List Frame} {meth : Method} {cc : Code} {L : Nat} {xs : Nat → Int32} {D : va_G} {cA : Nat → ClassId} {ad : Nat → Nat} {i : Nat} {c m : JMu} (cx : LX p s mm meth cc L xs D cA ad) (hi : i + 6 ≤ L) (hL : L ≤ 3072) (r : R c m) (kk : ∀ c1 m1, R c1 m1 → LW p l e s mm below meth cc D cA ad 1368 [] (nI i) c1 m1) : LW p l e s mm below meth cc D cA ad 1309 [] (nI i) c m := by
  obtain ⟨v, c1, m1, e1, e2, r1⟩ := act_check r
  refine L_a1 cx dL_law_1309 ?_
  refine L_callC (M' := m8_check) (as := []) cx dL_law_1310 lL_170 sm8_check sm8_check_w rfl (Nat.le_of_ble_eq_true rfl) rfl (Nat.le_of_ble_eq_true rfl) (c8_check _ _ e1) ?_
  refine L_a2 cx dL_law_1313 ?_
  refine L_callM (M' := m9_check) (as := []) cx dL_law_1314 lL_173 sm9_check sm9_check_w rfl (Nat.le_of_ble_eq_true rfl) rfl (Nat.le_of_ble_eq_true rfl) (c9_check _ _ e2) ?_
  refine L_eq cx dL_law_1317 (tgt := 1368) (by decide) ?_
  exact kk c1 m1 r1
theorem law_38 {p : Program} {l : Launch} {e : Env} {s : State} {mm : MethodId} {below : List Frame} {meth : Method} {cc : Code} {L : Nat} {xs : Nat → Int32} {D : va_G} {cA : Nat → ClassId} {ad : Nat → Nat} {i : Nat} {c m : JMu} (cx : LX p s mm meth cc L xs D cA ad) (hi : i + 6 ≤ L) (hL : L ≤ 3072) (r : R c m) (kk : ∀ c1 m1, R c1 m1 → LW p l e s mm below meth cc D cA ad 1368 [] (nI i) c1 m1) : LW p l e s mm below meth cc D cA ad 1322 [] (nI i) c m := by
  obtain ⟨v, c1, m1, e1, e2, r1⟩ := act_count r (xs (i + 1))
  refine L_a1 cx dL_law_1322 ?_
  refine L_arg 1 cx dL_law_1323 dL_law_1324 dL_law_1325 dL_law_1326 dL_law_1327 (by decide) (by omega) hL ?_
  refine L_callC (M' := m8_count) (as := [.int (xs (i + 1))]) cx dL_law_1328 lL_174 sm8_count sm8_count_w rfl (Nat.le_of_ble_eq_true rfl) rfl (Nat.le_of_ble_eq_true rfl) (c8_count (xs (i + 1)) _ _ e1) ?_
  refine L_a2 cx dL_law_1331 ?_
  refine L_arg 1 cx dL_law_1332 dL_law_1333 dL_law_1334 dL_law_1335 dL_law_1336 (by decide) (by omega) hL ?_
  refine L_callM (M' := m9_count) (as := [.int (xs (i + 1))]) cx dL_law_1337 lL_177 sm9_count sm9_count_w rfl (Nat.le_of_ble_eq_true rfl) rfl (Nat.le_of_ble_eq_true rfl) (c9_count (xs (i + 1)) _ _ e2) ?_
  refine L_eq cx dL_law_1340 (tgt := 1368) (by decide) ?_
  exact kk c1 m1 r1
theorem law_39 {p : Program} {l : Launch} {e : Env} {s : State} {mm : MethodId} {below : List Frame} {meth : Method} {cc : Code} {L : Nat} {xs : Nat → Int32} {D : va_G} {cA : Nat → ClassId} {ad : Nat → Nat} {i : Nat} {c m : JMu} (cx : LX p s mm meth cc L xs D cA ad) (hi : i + 6 ≤ L) (hL : L ≤ 3072) (r : R c m) (kk : ∀ c1 m1, R c1 m1 → LW p l e s mm below meth cc D cA ad 1368 [] (nI i) c1 m1) : LW p l e s mm below meth cc D cA ad 1345 [] (nI i) c m := by
  obtain ⟨v, c1, m1, e1, e2, r1⟩ := act_told r (xs (i + 1))
  refine L_a1 cx dL_law_1345 ?_
  refine L_arg 1 cx dL_law_1346 dL_law_1347 dL_law_1348 dL_law_1349 dL_law_1350 (by decide) (by omega) hL ?_
  refine L_callC (M' := m8_told) (as := [.int (xs (i + 1))]) cx dL_law_1351 lL_178 sm8_told sm8_told_w rfl (Nat.le_of_ble_eq_true rfl) rfl (Nat.le_of_ble_eq_true rfl) (c8_told (xs (i + 1)) _ _ e1) ?_
  refine L_a2 cx dL_law_1354 ?_
  refine L_arg 1 cx dL_law_1355 dL_law_1356 dL_law_1357 dL_law_1358 dL_law_1359 (by decide) (by omega) hL ?_
  refine L_callM (M' := m9_told) (as := [.int (xs (i + 1))]) cx dL_law_1360 lL_181 sm9_told sm9_told_w rfl (Nat.le_of_ble_eq_true rfl) rfl (Nat.le_of_ble_eq_true rfl) (c9_told (xs (i + 1)) _ _ e2) ?_
  refine L_eq cx dL_law_1363 (tgt := 1368) (by decide) ?_
  exact kk c1 m1 r1
