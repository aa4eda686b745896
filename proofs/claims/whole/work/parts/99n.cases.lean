/-! the law's cases -/
set_option maxHeartbeats 4000000 in
set_option maxRecDepth 100000 in
theorem law_set {κ : zK} {l : Launch} {D : va_G} {kc : Nat → ClassId} {adx adm : Nat → Nat} {bc ns b L B : Nat} {xs : Nat → Int32} (C : zCX κ l (wX D kc adx 216) cL_law RL room_1 4 B) (CM : zCX κ l (wM D kc adm) cL_law RL room_1 4 B) (LW : zLw κ b L xs) (hcs : bc ≤ 600000 ∧ ns ≤ 7302250) {T i : Nat} {σ τ : zSt} (hi : i + 5 ≤ L) (hL : L ≤ 2560) (hG : GI T σ τ) (k : ∀ (T' : Nat) (σ' τ' : zSt), GI T' σ' τ' → zJX κ (wX D kc adx 216) (zl (wM D kc adm) τ') bc ns 1111 (zlof [(0, .ref b), (1, .ref (adx 215)), (2, .ref (adm 17)), (3, .int (nI i))]) [] σ') : zJX κ (wX D kc adx 216) (zl (wM D kc adm) τ) bc ns 152 (zlof [(0, .ref b), (1, .ref (adx 215)), (2, .ref (adm 17)), (3, .int (nI i))]) [] σ := by
  have hc := c_set (xs (i + 1)) (xs (i + 2)) ((zsl ((xs (i + 3)).toInt64) 32) ||| (((xs (i + 4)).toInt64) &&& (4294967295))) hG
  refine e_aload_n C dL_law_152 rfl rfl ?_
  refine e_aload_n C dL_law_153 rfl rfl ?_
  refine e_iload_n C dL_law_154 rfl rfl ?_
  refine e_iconst (v := nI 1) C dL_law_155 (by decide +kernel) ?_
  refine e_iaddN C dL_law_156 ?_
  refine e_sld C LW dL_law_157 (show i + 1 < L by omega) hL ?_
  refine e_aload_n C dL_law_158 rfl rfl ?_
  refine e_iload_n C dL_law_159 rfl rfl ?_
  refine e_iconst (v := nI 2) C dL_law_160 (by decide +kernel) ?_
  refine e_iaddN C dL_law_161 ?_
  refine e_sld C LW dL_law_162 (show i + 2 < L by omega) hL ?_
  refine e_aload_n C dL_law_163 rfl rfl ?_
  refine e_iload_n C dL_law_164 rfl rfl ?_
  refine e_iconst (v := nI 3) C dL_law_165 (by decide +kernel) ?_
  refine e_iaddN C dL_law_166 ?_
  refine e_sld C LW dL_law_167 (show i + 3 < L by omega) hL ?_
  refine e_i2l C dL_law_168 ?_
  refine e_bipush (v := nI 32) C dL_law_169 (by decide +kernel) ?_
  refine e_lshl C dL_law_171 (by decide) ?_
  refine e_aload_n C dL_law_172 rfl rfl ?_
  refine e_iload_n C dL_law_173 rfl rfl ?_
  refine e_iconst (v := nI 4) C dL_law_174 (by decide +kernel) ?_
  refine e_iaddN C dL_law_175 ?_
  refine e_sld C LW dL_law_176 (show i + 4 < L by omega) hL ?_
  refine e_i2l C dL_law_177 ?_
  refine e_ldc2 (v := (4294967295)) C dL_law_178 mw_1_6 ?_
  refine e_land C dL_law_181 ?_
  refine e_lor C dL_law_182 ?_
  refine e_callV1 (T := TX9) (N := 17) C dL_law_183 (k_X9_set l D kc adx 216 (by decide) (xs (i + 1)) (xs (i + 2)) ((zsl ((xs (i + 3)).toInt64) 32) ||| (((xs (i + 4)).toInt64) &&& (4294967295))) σ) zy_X9_set mw_14_13 rfl rfl (show 11 ≤ 215 by decide) (show 215 < 216 by decide) rfl rfl (Nat.le_of_ble_eq_true rfl) ⟨rfl, rfl, Nat.le_of_ble_eq_true rfl, Nat.le_of_ble_eq_true rfl⟩ hcs ?_
  refine e_static (fun hs => ?_)
  refine e_flip rfl rfl (stM D kc adm τ) ?_
  refine e_aload_n CM dL_law_186 rfl rfl ?_
  refine e_aload_n CM dL_law_187 rfl rfl ?_
  refine e_iload_n CM dL_law_188 rfl rfl ?_
  refine e_iconst (v := nI 1) CM dL_law_189 (by decide +kernel) ?_
  refine e_iaddN CM dL_law_190 ?_
  refine e_sld CM LW dL_law_191 (show i + 1 < L by omega) hL ?_
  refine e_aload_n CM dL_law_192 rfl rfl ?_
  refine e_iload_n CM dL_law_193 rfl rfl ?_
  refine e_iconst (v := nI 2) CM dL_law_194 (by decide +kernel) ?_
  refine e_iaddN CM dL_law_195 ?_
  refine e_sld CM LW dL_law_196 (show i + 2 < L by omega) hL ?_
  refine e_aload_n CM dL_law_197 rfl rfl ?_
  refine e_iload_n CM dL_law_198 rfl rfl ?_
  refine e_iconst (v := nI 3) CM dL_law_199 (by decide +kernel) ?_
  refine e_iaddN CM dL_law_200 ?_
  refine e_sld CM LW dL_law_201 (show i + 3 < L by omega) hL ?_
  refine e_i2l CM dL_law_202 ?_
  refine e_bipush (v := nI 32) CM dL_law_203 (by decide +kernel) ?_
  refine e_lshl CM dL_law_205 (by decide) ?_
  refine e_aload_n CM dL_law_206 rfl rfl ?_
  refine e_iload_n CM dL_law_207 rfl rfl ?_
  refine e_iconst (v := nI 4) CM dL_law_208 (by decide +kernel) ?_
  refine e_iaddN CM dL_law_209 ?_
  refine e_sld CM LW dL_law_210 (show i + 4 < L by omega) hL ?_
  refine e_i2l CM dL_law_211 ?_
  refine e_ldc2 (v := (4294967295)) CM dL_law_212 mw_1_6 ?_
  refine e_land CM dL_law_215 ?_
  refine e_lor CM dL_law_216 ?_
  refine e_callV1 (T := TX10) (N := 23) CM dL_law_217 (k_X10_set l D kc adm (xs (i + 1)) (xs (i + 2)) ((zsl ((xs (i + 3)).toInt64) 32) ||| (((xs (i + 4)).toInt64) &&& (4294967295))) τ) zy_X10_set mw_14_23 rfl rfl (Nat.zero_le _) (show 17 < 18 by decide) rfl rfl (Nat.le_of_ble_eq_true rfl) ⟨rfl, rfl, Nat.le_of_ble_eq_true rfl, Nat.le_of_ble_eq_true rfl⟩ hcs ?_
  refine e_flip rfl rfl hs ?_
  exact e_icmp_eq (tgt := 1111) C dL_law_220 (by decide) (fun _ => k T _ _ hc.2) (fun q => absurd hc.1 q)
set_option maxHeartbeats 4000000 in
set_option maxRecDepth 100000 in
theorem law_word {κ : zK} {l : Launch} {D : va_G} {kc : Nat → ClassId} {adx adm : Nat → Nat} {bc ns b L B : Nat} {xs : Nat → Int32} (C : zCX κ l (wX D kc adx 216) cL_law RL room_1 4 B) (CM : zCX κ l (wM D kc adm) cL_law RL room_1 4 B) (LW : zLw κ b L xs) (hcs : bc ≤ 600000 ∧ ns ≤ 7302250) {T i : Nat} {σ τ : zSt} (hi : i + 5 ≤ L) (hL : L ≤ 2560) (hG : GI T σ τ) (k : ∀ (T' : Nat) (σ' τ' : zSt), GI T' σ' τ' → zJX κ (wX D kc adx 216) (zl (wM D kc adm) τ') bc ns 1111 (zlof [(0, .ref b), (1, .ref (adx 215)), (2, .ref (adm 17)), (3, .int (nI i))]) [] σ') : zJX κ (wX D kc adx 216) (zl (wM D kc adm) τ) bc ns 225 (zlof [(0, .ref b), (1, .ref (adx 215)), (2, .ref (adm 17)), (3, .int (nI i))]) [] σ := by
  have hc := c_word (xs (i + 1)) (xs (i + 2)) hG
  refine e_aload_n C dL_law_225 rfl rfl ?_
  refine e_aload_n C dL_law_226 rfl rfl ?_
  refine e_iload_n C dL_law_227 rfl rfl ?_
  refine e_iconst (v := nI 1) C dL_law_228 (by decide +kernel) ?_
  refine e_iaddN C dL_law_229 ?_
  refine e_sld C LW dL_law_230 (show i + 1 < L by omega) hL ?_
  refine e_aload_n C dL_law_231 rfl rfl ?_
  refine e_iload_n C dL_law_232 rfl rfl ?_
  refine e_iconst (v := nI 2) C dL_law_233 (by decide +kernel) ?_
  refine e_iaddN C dL_law_234 ?_
  refine e_sld C LW dL_law_235 (show i + 2 < L by omega) hL ?_
  refine e_callV1 (T := TX9) (N := 17) C dL_law_236 (k_X9_word l D kc adx 216 (by decide) (xs (i + 1)) (xs (i + 2)) σ) zy_X9_word mw_15_9 rfl rfl (show 11 ≤ 215 by decide) (show 215 < 216 by decide) rfl rfl (Nat.le_of_ble_eq_true rfl) ⟨rfl, rfl, Nat.le_of_ble_eq_true rfl, Nat.le_of_ble_eq_true rfl⟩ hcs ?_
  refine e_static (fun hs => ?_)
  refine e_flip rfl rfl (stM D kc adm τ) ?_
  refine e_aload_n CM dL_law_239 rfl rfl ?_
  refine e_aload_n CM dL_law_240 rfl rfl ?_
  refine e_iload_n CM dL_law_241 rfl rfl ?_
  refine e_iconst (v := nI 1) CM dL_law_242 (by decide +kernel) ?_
  refine e_iaddN CM dL_law_243 ?_
  refine e_sld CM LW dL_law_244 (show i + 1 < L by omega) hL ?_
  refine e_aload_n CM dL_law_245 rfl rfl ?_
  refine e_iload_n CM dL_law_246 rfl rfl ?_
  refine e_iconst (v := nI 2) CM dL_law_247 (by decide +kernel) ?_
  refine e_iaddN CM dL_law_248 ?_
  refine e_sld CM LW dL_law_249 (show i + 2 < L by omega) hL ?_
  refine e_callV1 (T := TX10) (N := 23) CM dL_law_250 (k_X10_word l D kc adm (xs (i + 1)) (xs (i + 2)) τ) zy_X10_word mw_15_13 rfl rfl (Nat.zero_le _) (show 17 < 18 by decide) rfl rfl (Nat.le_of_ble_eq_true rfl) ⟨rfl, rfl, Nat.le_of_ble_eq_true rfl, Nat.le_of_ble_eq_true rfl⟩ hcs ?_
  refine e_flip rfl rfl hs ?_
  refine e_lcmp C dL_law_253 ?_
  exact e_if_eq (tgt := 1111) C dL_law_254 (by decide) (fun _ => k T _ _ hG) (fun q => absurd (cmp_0 hc) q)
set_option maxHeartbeats 4000000 in
set_option maxRecDepth 100000 in
theorem law_copy {κ : zK} {l : Launch} {D : va_G} {kc : Nat → ClassId} {adx adm : Nat → Nat} {bc ns b L B : Nat} {xs : Nat → Int32} (C : zCX κ l (wX D kc adx 216) cL_law RL room_1 4 B) (CM : zCX κ l (wM D kc adm) cL_law RL room_1 4 B) (LW : zLw κ b L xs) (hcs : bc ≤ 600000 ∧ ns ≤ 7302250) {T i : Nat} {σ τ : zSt} (hi : i + 5 ≤ L) (hL : L ≤ 2560) (hG : GI T σ τ) (k : ∀ (T' : Nat) (σ' τ' : zSt), GI T' σ' τ' → zJX κ (wX D kc adx 216) (zl (wM D kc adm) τ') bc ns 1111 (zlof [(0, .ref b), (1, .ref (adx 215)), (2, .ref (adm 17)), (3, .int (nI i))]) [] σ') : zJX κ (wX D kc adx 216) (zl (wM D kc adm) τ) bc ns 259 (zlof [(0, .ref b), (1, .ref (adx 215)), (2, .ref (adm 17)), (3, .int (nI i))]) [] σ := by
  have hc := c_copy (xs (i + 1)) (xs (i + 2)) hG
  refine e_aload_n C dL_law_259 rfl rfl ?_
  refine e_aload_n C dL_law_260 rfl rfl ?_
  refine e_iload_n C dL_law_261 rfl rfl ?_
  refine e_iconst (v := nI 1) C dL_law_262 (by decide +kernel) ?_
  refine e_iaddN C dL_law_263 ?_
  refine e_sld C LW dL_law_264 (show i + 1 < L by omega) hL ?_
  refine e_aload_n C dL_law_265 rfl rfl ?_
  refine e_iload_n C dL_law_266 rfl rfl ?_
  refine e_iconst (v := nI 2) C dL_law_267 (by decide +kernel) ?_
  refine e_iaddN C dL_law_268 ?_
  refine e_sld C LW dL_law_269 (show i + 2 < L by omega) hL ?_
  refine e_callV1 (T := TX9) (N := 17) C dL_law_270 (k_X9_copy l D kc adx 216 (by decide) (xs (i + 1)) (xs (i + 2)) σ) zy_X9_copy mw_15_17 rfl rfl (show 11 ≤ 215 by decide) (show 215 < 216 by decide) rfl rfl (Nat.le_of_ble_eq_true rfl) ⟨rfl, rfl, Nat.le_of_ble_eq_true rfl, Nat.le_of_ble_eq_true rfl⟩ hcs ?_
  refine e_static (fun hs => ?_)
  refine e_flip rfl rfl (stM D kc adm τ) ?_
  refine e_aload_n CM dL_law_273 rfl rfl ?_
  refine e_aload_n CM dL_law_274 rfl rfl ?_
  refine e_iload_n CM dL_law_275 rfl rfl ?_
  refine e_iconst (v := nI 1) CM dL_law_276 (by decide +kernel) ?_
  refine e_iaddN CM dL_law_277 ?_
  refine e_sld CM LW dL_law_278 (show i + 1 < L by omega) hL ?_
  refine e_aload_n CM dL_law_279 rfl rfl ?_
  refine e_iload_n CM dL_law_280 rfl rfl ?_
  refine e_iconst (v := nI 2) CM dL_law_281 (by decide +kernel) ?_
  refine e_iaddN CM dL_law_282 ?_
  refine e_sld CM LW dL_law_283 (show i + 2 < L by omega) hL ?_
  refine e_callV1 (T := TX10) (N := 23) CM dL_law_284 (k_X10_copy l D kc adm (xs (i + 1)) (xs (i + 2)) τ) zy_X10_copy mw_16_5 rfl rfl (Nat.zero_le _) (show 17 < 18 by decide) rfl rfl (Nat.le_of_ble_eq_true rfl) ⟨rfl, rfl, Nat.le_of_ble_eq_true rfl, Nat.le_of_ble_eq_true rfl⟩ hcs ?_
  refine e_flip rfl rfl hs ?_
  exact e_icmp_eq (tgt := 1111) C dL_law_287 (by decide) (fun _ => k T _ _ hc.2) (fun q => absurd hc.1 q)
set_option maxHeartbeats 4000000 in
set_option maxRecDepth 100000 in
theorem law_type {κ : zK} {l : Launch} {D : va_G} {kc : Nat → ClassId} {adx adm : Nat → Nat} {bc ns b L B : Nat} {xs : Nat → Int32} (C : zCX κ l (wX D kc adx 216) cL_law RL room_1 4 B) (CM : zCX κ l (wM D kc adm) cL_law RL room_1 4 B) (LW : zLw κ b L xs) (hcs : bc ≤ 600000 ∧ ns ≤ 7302250) {T i : Nat} {σ τ : zSt} (hi : i + 5 ≤ L) (hL : L ≤ 2560) (hG : GI T σ τ) (k : ∀ (T' : Nat) (σ' τ' : zSt), GI T' σ' τ' → zJX κ (wX D kc adx 216) (zl (wM D kc adm) τ') bc ns 1111 (zlof [(0, .ref b), (1, .ref (adx 215)), (2, .ref (adm 17)), (3, .int (nI i))]) [] σ') : zJX κ (wX D kc adx 216) (zl (wM D kc adm) τ) bc ns 292 (zlof [(0, .ref b), (1, .ref (adx 215)), (2, .ref (adm 17)), (3, .int (nI i))]) [] σ := by
  obtain ⟨he, T1, hg⟩ := c_type ((zsl ((xs (i + 1)).toInt64) 32) ||| (((xs (i + 2)).toInt64) &&& (4294967295))) (xs (i + 3)) hG
  refine e_aload_n C dL_law_292 rfl rfl ?_
  refine e_aload_n C dL_law_293 rfl rfl ?_
  refine e_iload_n C dL_law_294 rfl rfl ?_
  refine e_iconst (v := nI 1) C dL_law_295 (by decide +kernel) ?_
  refine e_iaddN C dL_law_296 ?_
  refine e_sld C LW dL_law_297 (show i + 1 < L by omega) hL ?_
  refine e_i2l C dL_law_298 ?_
  refine e_bipush (v := nI 32) C dL_law_299 (by decide +kernel) ?_
  refine e_lshl C dL_law_301 (by decide) ?_
  refine e_aload_n C dL_law_302 rfl rfl ?_
  refine e_iload_n C dL_law_303 rfl rfl ?_
  refine e_iconst (v := nI 2) C dL_law_304 (by decide +kernel) ?_
  refine e_iaddN C dL_law_305 ?_
  refine e_sld C LW dL_law_306 (show i + 2 < L by omega) hL ?_
  refine e_i2l C dL_law_307 ?_
  refine e_ldc2 (v := (4294967295)) C dL_law_308 mw_1_6 ?_
  refine e_land C dL_law_311 ?_
  refine e_lor C dL_law_312 ?_
  refine e_aload_n C dL_law_313 rfl rfl ?_
  refine e_iload_n C dL_law_314 rfl rfl ?_
  refine e_iconst (v := nI 3) C dL_law_315 (by decide +kernel) ?_
  refine e_iaddN C dL_law_316 ?_
  refine e_sld C LW dL_law_317 (show i + 3 < L by omega) hL ?_
  refine e_callV1 (T := TX9) (N := 17) C dL_law_318 (k_X9_type l D kc adx 216 (by decide) ((zsl ((xs (i + 1)).toInt64) 32) ||| (((xs (i + 2)).toInt64) &&& (4294967295))) (xs (i + 3)) T σ hG.2.2.2.2.2.1 hG.2.2.2.2.1) zy_X9_type mw_16_17 rfl rfl (show 11 ≤ 215 by decide) (show 215 < 216 by decide) rfl rfl (Nat.le_of_ble_eq_true rfl) ⟨rfl, rfl, Nat.le_of_ble_eq_true rfl, Nat.le_of_ble_eq_true rfl⟩ hcs ?_
  refine e_static (fun hs => ?_)
  refine e_flip rfl rfl (stM D kc adm τ) ?_
  refine e_aload_n CM dL_law_321 rfl rfl ?_
  refine e_aload_n CM dL_law_322 rfl rfl ?_
  refine e_iload_n CM dL_law_323 rfl rfl ?_
  refine e_iconst (v := nI 1) CM dL_law_324 (by decide +kernel) ?_
  refine e_iaddN CM dL_law_325 ?_
  refine e_sld CM LW dL_law_326 (show i + 1 < L by omega) hL ?_
  refine e_i2l CM dL_law_327 ?_
  refine e_bipush (v := nI 32) CM dL_law_328 (by decide +kernel) ?_
  refine e_lshl CM dL_law_330 (by decide) ?_
  refine e_aload_n CM dL_law_331 rfl rfl ?_
  refine e_iload_n CM dL_law_332 rfl rfl ?_
  refine e_iconst (v := nI 2) CM dL_law_333 (by decide +kernel) ?_
  refine e_iaddN CM dL_law_334 ?_
  refine e_sld CM LW dL_law_335 (show i + 2 < L by omega) hL ?_
  refine e_i2l CM dL_law_336 ?_
  refine e_ldc2 (v := (4294967295)) CM dL_law_337 mw_1_6 ?_
  refine e_land CM dL_law_340 ?_
  refine e_lor CM dL_law_341 ?_
  refine e_aload_n CM dL_law_342 rfl rfl ?_
  refine e_iload_n CM dL_law_343 rfl rfl ?_
  refine e_iconst (v := nI 3) CM dL_law_344 (by decide +kernel) ?_
  refine e_iaddN CM dL_law_345 ?_
  refine e_sld CM LW dL_law_346 (show i + 3 < L by omega) hL ?_
  refine e_callV1 (T := TX10) (N := 23) CM dL_law_347 (k_X10_type l D kc adm ((zsl ((xs (i + 1)).toInt64) 32) ||| (((xs (i + 2)).toInt64) &&& (4294967295))) (xs (i + 3)) T τ hG.2.2.2.2.2.2.1 hG.2.2.2.2.1) zy_X10_type mw_17_2 rfl rfl (Nat.zero_le _) (show 17 < 18 by decide) rfl rfl (Nat.le_of_ble_eq_true rfl) ⟨rfl, rfl, Nat.le_of_ble_eq_true rfl, Nat.le_of_ble_eq_true rfl⟩ hcs ?_
  refine e_flip rfl rfl hs ?_
  exact e_icmp_eq (tgt := 1111) C dL_law_350 (by decide) (fun _ => k T1 _ _ hg) (fun q => absurd he q)
set_option maxHeartbeats 4000000 in
set_option maxRecDepth 100000 in
theorem law_clear {κ : zK} {l : Launch} {D : va_G} {kc : Nat → ClassId} {adx adm : Nat → Nat} {bc ns b L B : Nat} {xs : Nat → Int32} (C : zCX κ l (wX D kc adx 216) cL_law RL room_1 4 B) (CM : zCX κ l (wM D kc adm) cL_law RL room_1 4 B) (LW : zLw κ b L xs) (hcs : bc ≤ 600000 ∧ ns ≤ 7302250) {T i : Nat} {σ τ : zSt} (hi : i + 5 ≤ L) (hL : L ≤ 2560) (hG : GI T σ τ) (k : ∀ (T' : Nat) (σ' τ' : zSt), GI T' σ' τ' → zJX κ (wX D kc adx 216) (zl (wM D kc adm) τ') bc ns 1111 (zlof [(0, .ref b), (1, .ref (adx 215)), (2, .ref (adm 17)), (3, .int (nI i))]) [] σ') : zJX κ (wX D kc adx 216) (zl (wM D kc adm) τ) bc ns 355 (zlof [(0, .ref b), (1, .ref (adx 215)), (2, .ref (adm 17)), (3, .int (nI i))]) [] σ := by
  have hc := c_clear hG
  refine e_aload_n C dL_law_355 rfl rfl ?_
  refine e_callV1 (T := TX9) (N := 17) C dL_law_356 (k_X9_clear l D kc adx 216 (by decide) σ) zy_X9_clear mw_17_7 rfl rfl (show 11 ≤ 215 by decide) (show 215 < 216 by decide) rfl rfl (Nat.le_of_ble_eq_true rfl) ⟨rfl, rfl, Nat.le_of_ble_eq_true rfl, Nat.le_of_ble_eq_true rfl⟩ hcs ?_
  refine e_static (fun hs => ?_)
  refine e_flip rfl rfl (stM D kc adm τ) ?_
  refine e_aload_n CM dL_law_359 rfl rfl ?_
  refine e_callV1 (T := TX10) (N := 23) CM dL_law_360 (k_X10_clear l D kc adm τ) zy_X10_clear mw_17_11 rfl rfl (Nat.zero_le _) (show 17 < 18 by decide) rfl rfl (Nat.le_of_ble_eq_true rfl) ⟨rfl, rfl, Nat.le_of_ble_eq_true rfl, Nat.le_of_ble_eq_true rfl⟩ hcs ?_
  refine e_flip rfl rfl hs ?_
  exact e_icmp_eq (tgt := 1111) C dL_law_363 (by decide) (fun _ => k 0 _ _ hc.2) (fun q => absurd hc.1 q)
set_option maxHeartbeats 4000000 in
set_option maxRecDepth 100000 in
theorem law_at {κ : zK} {l : Launch} {D : va_G} {kc : Nat → ClassId} {adx adm : Nat → Nat} {bc ns b L B : Nat} {xs : Nat → Int32} (C : zCX κ l (wX D kc adx 216) cL_law RL room_1 4 B) (CM : zCX κ l (wM D kc adm) cL_law RL room_1 4 B) (LW : zLw κ b L xs) (hcs : bc ≤ 600000 ∧ ns ≤ 7302250) {T i : Nat} {σ τ : zSt} (hi : i + 5 ≤ L) (hL : L ≤ 2560) (hG : GI T σ τ) (k : ∀ (T' : Nat) (σ' τ' : zSt), GI T' σ' τ' → zJX κ (wX D kc adx 216) (zl (wM D kc adm) τ') bc ns 1111 (zlof [(0, .ref b), (1, .ref (adx 215)), (2, .ref (adm 17)), (3, .int (nI i))]) [] σ') : zJX κ (wX D kc adx 216) (zl (wM D kc adm) τ) bc ns 368 (zlof [(0, .ref b), (1, .ref (adx 215)), (2, .ref (adm 17)), (3, .int (nI i))]) [] σ := by
  have hc := c_at (xs (i + 1)) hG
  refine e_aload_n C dL_law_368 rfl rfl ?_
  refine e_aload_n C dL_law_369 rfl rfl ?_
  refine e_iload_n C dL_law_370 rfl rfl ?_
  refine e_iconst (v := nI 1) C dL_law_371 (by decide +kernel) ?_
  refine e_iaddN C dL_law_372 ?_
  refine e_sld C LW dL_law_373 (show i + 1 < L by omega) hL ?_
  refine e_callV1 (T := TX9) (N := 17) C dL_law_374 (k_X9_at l D kc adx 216 (by decide) (xs (i + 1)) T σ hG.2.2.2.2.2.1 hG.2.2.2.2.1) zy_X9_at mw_17_15 rfl rfl (show 11 ≤ 215 by decide) (show 215 < 216 by decide) rfl rfl (Nat.le_of_ble_eq_true rfl) ⟨rfl, rfl, Nat.le_of_ble_eq_true rfl, Nat.le_of_ble_eq_true rfl⟩ hcs ?_
  refine e_static (fun hs => ?_)
  refine e_flip rfl rfl (stM D kc adm τ) ?_
  refine e_aload_n CM dL_law_377 rfl rfl ?_
  refine e_aload_n CM dL_law_378 rfl rfl ?_
  refine e_iload_n CM dL_law_379 rfl rfl ?_
  refine e_iconst (v := nI 1) CM dL_law_380 (by decide +kernel) ?_
  refine e_iaddN CM dL_law_381 ?_
  refine e_sld CM LW dL_law_382 (show i + 1 < L by omega) hL ?_
  refine e_callV1 (T := TX10) (N := 23) CM dL_law_383 (k_X10_at l D kc adm (xs (i + 1)) T τ hG.2.2.2.2.2.2.1 hG.2.2.2.2.1) zy_X10_at mw_17_23 rfl rfl (Nat.zero_le _) (show 17 < 18 by decide) rfl rfl (Nat.le_of_ble_eq_true rfl) ⟨rfl, rfl, Nat.le_of_ble_eq_true rfl, Nat.le_of_ble_eq_true rfl⟩ hcs ?_
  refine e_flip rfl rfl hs ?_
  exact e_icmp_eq (tgt := 1111) C dL_law_386 (by decide) (fun _ => k T _ _ hG) (fun q => absurd hc q)
set_option maxHeartbeats 4000000 in
set_option maxRecDepth 100000 in
theorem law_flip {κ : zK} {l : Launch} {D : va_G} {kc : Nat → ClassId} {adx adm : Nat → Nat} {bc ns b L B : Nat} {xs : Nat → Int32} (C : zCX κ l (wX D kc adx 216) cL_law RL room_1 4 B) (CM : zCX κ l (wM D kc adm) cL_law RL room_1 4 B) (LW : zLw κ b L xs) (hcs : bc ≤ 600000 ∧ ns ≤ 7302250) {T i : Nat} {σ τ : zSt} (hi : i + 5 ≤ L) (hL : L ≤ 2560) (hG : GI T σ τ) (k : ∀ (T' : Nat) (σ' τ' : zSt), GI T' σ' τ' → zJX κ (wX D kc adx 216) (zl (wM D kc adm) τ') bc ns 1111 (zlof [(0, .ref b), (1, .ref (adx 215)), (2, .ref (adm 17)), (3, .int (nI i))]) [] σ') : zJX κ (wX D kc adx 216) (zl (wM D kc adm) τ) bc ns 391 (zlof [(0, .ref b), (1, .ref (adx 215)), (2, .ref (adm 17)), (3, .int (nI i))]) [] σ := by
  have hc := c_flip (xs (i + 1)) (xs (i + 2)) (xs (i + 3)) hG
  refine e_aload_n C dL_law_391 rfl rfl ?_
  refine e_aload_n C dL_law_392 rfl rfl ?_
  refine e_iload_n C dL_law_393 rfl rfl ?_
  refine e_iconst (v := nI 1) C dL_law_394 (by decide +kernel) ?_
  refine e_iaddN C dL_law_395 ?_
  refine e_sld C LW dL_law_396 (show i + 1 < L by omega) hL ?_
  refine e_aload_n C dL_law_397 rfl rfl ?_
  refine e_iload_n C dL_law_398 rfl rfl ?_
  refine e_iconst (v := nI 2) C dL_law_399 (by decide +kernel) ?_
  refine e_iaddN C dL_law_400 ?_
  refine e_sld C LW dL_law_401 (show i + 2 < L by omega) hL ?_
  refine e_aload_n C dL_law_402 rfl rfl ?_
  refine e_iload_n C dL_law_403 rfl rfl ?_
  refine e_iconst (v := nI 3) C dL_law_404 (by decide +kernel) ?_
  refine e_iaddN C dL_law_405 ?_
  refine e_sld C LW dL_law_406 (show i + 3 < L by omega) hL ?_
  refine e_callV1 (T := TX9) (N := 17) C dL_law_407 (k_X9_flip l D kc adx 216 (by decide) (xs (i + 1)) (xs (i + 2)) (xs (i + 3)) σ) zy_X9_flip mw_18_3 rfl rfl (show 11 ≤ 215 by decide) (show 215 < 216 by decide) rfl rfl (Nat.le_of_ble_eq_true rfl) ⟨rfl, rfl, Nat.le_of_ble_eq_true rfl, Nat.le_of_ble_eq_true rfl⟩ hcs ?_
  refine e_static (fun hs => ?_)
  refine e_flip rfl rfl (stM D kc adm τ) ?_
  refine e_aload_n CM dL_law_410 rfl rfl ?_
  refine e_aload_n CM dL_law_411 rfl rfl ?_
  refine e_iload_n CM dL_law_412 rfl rfl ?_
  refine e_iconst (v := nI 1) CM dL_law_413 (by decide +kernel) ?_
  refine e_iaddN CM dL_law_414 ?_
  refine e_sld CM LW dL_law_415 (show i + 1 < L by omega) hL ?_
  refine e_aload_n CM dL_law_416 rfl rfl ?_
  refine e_iload_n CM dL_law_417 rfl rfl ?_
  refine e_iconst (v := nI 2) CM dL_law_418 (by decide +kernel) ?_
  refine e_iaddN CM dL_law_419 ?_
  refine e_sld CM LW dL_law_420 (show i + 2 < L by omega) hL ?_
  refine e_aload_n CM dL_law_421 rfl rfl ?_
  refine e_iload_n CM dL_law_422 rfl rfl ?_
  refine e_iconst (v := nI 3) CM dL_law_423 (by decide +kernel) ?_
  refine e_iaddN CM dL_law_424 ?_
  refine e_sld CM LW dL_law_425 (show i + 3 < L by omega) hL ?_
  refine e_callV1 (T := TX10) (N := 23) CM dL_law_426 (k_X10_flip l D kc adm (xs (i + 1)) (xs (i + 2)) (xs (i + 3)) τ) zy_X10_flip mw_18_10 rfl rfl (Nat.zero_le _) (show 17 < 18 by decide) rfl rfl (Nat.le_of_ble_eq_true rfl) ⟨rfl, rfl, Nat.le_of_ble_eq_true rfl, Nat.le_of_ble_eq_true rfl⟩ hcs ?_
  refine e_flip rfl rfl hs ?_
  exact e_icmp_eq (tgt := 1111) C dL_law_429 (by decide) (fun _ => k T _ _ hc.2) (fun q => absurd hc.1 q)
set_option maxHeartbeats 4000000 in
set_option maxRecDepth 100000 in
theorem law_field {κ : zK} {l : Launch} {D : va_G} {kc : Nat → ClassId} {adx adm : Nat → Nat} {bc ns b L B : Nat} {xs : Nat → Int32} (C : zCX κ l (wX D kc adx 216) cL_law RL room_1 4 B) (CM : zCX κ l (wM D kc adm) cL_law RL room_1 4 B) (LW : zLw κ b L xs) (hcs : bc ≤ 600000 ∧ ns ≤ 7302250) {T i : Nat} {σ τ : zSt} (hi : i + 5 ≤ L) (hL : L ≤ 2560) (hG : GI T σ τ) (k : ∀ (T' : Nat) (σ' τ' : zSt), GI T' σ' τ' → zJX κ (wX D kc adx 216) (zl (wM D kc adm) τ') bc ns 1111 (zlof [(0, .ref b), (1, .ref (adx 215)), (2, .ref (adm 17)), (3, .int (nI i))]) [] σ') : zJX κ (wX D kc adx 216) (zl (wM D kc adm) τ) bc ns 434 (zlof [(0, .ref b), (1, .ref (adx 215)), (2, .ref (adm 17)), (3, .int (nI i))]) [] σ := by
  have hc := c_field (xs (i + 1)) (xs (i + 2)) (xs (i + 3)) (xs (i + 4)) hG
  refine e_aload_n C dL_law_434 rfl rfl ?_
  refine e_aload_n C dL_law_435 rfl rfl ?_
  refine e_iload_n C dL_law_436 rfl rfl ?_
  refine e_iconst (v := nI 1) C dL_law_437 (by decide +kernel) ?_
  refine e_iaddN C dL_law_438 ?_
  refine e_sld C LW dL_law_439 (show i + 1 < L by omega) hL ?_
  refine e_aload_n C dL_law_440 rfl rfl ?_
  refine e_iload_n C dL_law_441 rfl rfl ?_
  refine e_iconst (v := nI 2) C dL_law_442 (by decide +kernel) ?_
  refine e_iaddN C dL_law_443 ?_
  refine e_sld C LW dL_law_444 (show i + 2 < L by omega) hL ?_
  refine e_aload_n C dL_law_445 rfl rfl ?_
  refine e_iload_n C dL_law_446 rfl rfl ?_
  refine e_iconst (v := nI 3) C dL_law_447 (by decide +kernel) ?_
  refine e_iaddN C dL_law_448 ?_
  refine e_sld C LW dL_law_449 (show i + 3 < L by omega) hL ?_
  refine e_aload_n C dL_law_450 rfl rfl ?_
  refine e_iload_n C dL_law_451 rfl rfl ?_
  refine e_iconst (v := nI 4) C dL_law_452 (by decide +kernel) ?_
  refine e_iaddN C dL_law_453 ?_
  refine e_sld C LW dL_law_454 (show i + 4 < L by omega) hL ?_
  refine e_callV1 (T := TX9) (N := 17) C dL_law_455 (k_X9_field l D kc adx 216 (by decide) (xs (i + 1)) (xs (i + 2)) (xs (i + 3)) (xs (i + 4)) σ) zy_X9_field mw_18_14 rfl rfl (show 11 ≤ 215 by decide) (show 215 < 216 by decide) rfl rfl (Nat.le_of_ble_eq_true rfl) ⟨rfl, rfl, Nat.le_of_ble_eq_true rfl, Nat.le_of_ble_eq_true rfl⟩ hcs ?_
  refine e_static (fun hs => ?_)
  refine e_flip rfl rfl (stM D kc adm τ) ?_
  refine e_aload_n CM dL_law_458 rfl rfl ?_
  refine e_aload_n CM dL_law_459 rfl rfl ?_
  refine e_iload_n CM dL_law_460 rfl rfl ?_
  refine e_iconst (v := nI 1) CM dL_law_461 (by decide +kernel) ?_
  refine e_iaddN CM dL_law_462 ?_
  refine e_sld CM LW dL_law_463 (show i + 1 < L by omega) hL ?_
  refine e_aload_n CM dL_law_464 rfl rfl ?_
  refine e_iload_n CM dL_law_465 rfl rfl ?_
  refine e_iconst (v := nI 2) CM dL_law_466 (by decide +kernel) ?_
  refine e_iaddN CM dL_law_467 ?_
  refine e_sld CM LW dL_law_468 (show i + 2 < L by omega) hL ?_
  refine e_aload_n CM dL_law_469 rfl rfl ?_
  refine e_iload_n CM dL_law_470 rfl rfl ?_
  refine e_iconst (v := nI 3) CM dL_law_471 (by decide +kernel) ?_
  refine e_iaddN CM dL_law_472 ?_
  refine e_sld CM LW dL_law_473 (show i + 3 < L by omega) hL ?_
  refine e_aload_n CM dL_law_474 rfl rfl ?_
  refine e_iload_n CM dL_law_475 rfl rfl ?_
  refine e_iconst (v := nI 4) CM dL_law_476 (by decide +kernel) ?_
  refine e_iaddN CM dL_law_477 ?_
  refine e_sld CM LW dL_law_478 (show i + 4 < L by omega) hL ?_
  refine e_callV1 (T := TX10) (N := 23) CM dL_law_479 (k_X10_field l D kc adm (xs (i + 1)) (xs (i + 2)) (xs (i + 3)) (xs (i + 4)) τ) zy_X10_field mw_20_20 rfl rfl (Nat.zero_le _) (show 17 < 18 by decide) rfl rfl (Nat.le_of_ble_eq_true rfl) ⟨rfl, rfl, Nat.le_of_ble_eq_true rfl, Nat.le_of_ble_eq_true rfl⟩ hcs ?_
  refine e_flip rfl rfl hs ?_
  exact e_icmp_eq (tgt := 1111) C dL_law_482 (by decide) (fun _ => k T _ _ hc.2) (fun q => absurd hc.1 q)
set_option maxHeartbeats 4000000 in
set_option maxRecDepth 100000 in
theorem law_power {κ : zK} {l : Launch} {D : va_G} {kc : Nat → ClassId} {adx adm : Nat → Nat} {bc ns b L B : Nat} {xs : Nat → Int32} (C : zCX κ l (wX D kc adx 216) cL_law RL room_1 4 B) (CM : zCX κ l (wM D kc adm) cL_law RL room_1 4 B) (LW : zLw κ b L xs) (hcs : bc ≤ 600000 ∧ ns ≤ 7302250) {T i : Nat} {σ τ : zSt} (hi : i + 5 ≤ L) (hL : L ≤ 2560) (hG : GI T σ τ) (k : ∀ (T' : Nat) (σ' τ' : zSt), GI T' σ' τ' → zJX κ (wX D kc adx 216) (zl (wM D kc adm) τ') bc ns 1111 (zlof [(0, .ref b), (1, .ref (adx 215)), (2, .ref (adm 17)), (3, .int (nI i))]) [] σ') : zJX κ (wX D kc adx 216) (zl (wM D kc adm) τ) bc ns 487 (zlof [(0, .ref b), (1, .ref (adx 215)), (2, .ref (adm 17)), (3, .int (nI i))]) [] σ := by
  have hc := c_power (xs (i + 1)) (xs (i + 2)) (xs (i + 3)) hG
  refine e_aload_n C dL_law_487 rfl rfl ?_
  refine e_aload_n C dL_law_488 rfl rfl ?_
  refine e_iload_n C dL_law_489 rfl rfl ?_
  refine e_iconst (v := nI 1) C dL_law_490 (by decide +kernel) ?_
  refine e_iaddN C dL_law_491 ?_
  refine e_sld C LW dL_law_492 (show i + 1 < L by omega) hL ?_
  refine e_aload_n C dL_law_493 rfl rfl ?_
  refine e_iload_n C dL_law_494 rfl rfl ?_
  refine e_iconst (v := nI 2) C dL_law_495 (by decide +kernel) ?_
  refine e_iaddN C dL_law_496 ?_
  refine e_sld C LW dL_law_497 (show i + 2 < L by omega) hL ?_
  refine e_aload_n C dL_law_498 rfl rfl ?_
  refine e_iload_n C dL_law_499 rfl rfl ?_
  refine e_iconst (v := nI 3) C dL_law_500 (by decide +kernel) ?_
  refine e_iaddN C dL_law_501 ?_
  refine e_sld C LW dL_law_502 (show i + 3 < L by omega) hL ?_
  refine e_callV1 (T := TX9) (N := 17) C dL_law_503 (k_X9_power l D kc adx 216 (by decide) (xs (i + 1)) (xs (i + 2)) (xs (i + 3)) σ) zy_X9_power mw_21_8 rfl rfl (show 11 ≤ 215 by decide) (show 215 < 216 by decide) rfl rfl (Nat.le_of_ble_eq_true rfl) ⟨rfl, rfl, Nat.le_of_ble_eq_true rfl, Nat.le_of_ble_eq_true rfl⟩ hcs ?_
  refine e_static (fun hs => ?_)
  refine e_flip rfl rfl (stM D kc adm τ) ?_
  refine e_aload_n CM dL_law_506 rfl rfl ?_
  refine e_aload_n CM dL_law_507 rfl rfl ?_
  refine e_iload_n CM dL_law_508 rfl rfl ?_
  refine e_iconst (v := nI 1) CM dL_law_509 (by decide +kernel) ?_
  refine e_iaddN CM dL_law_510 ?_
  refine e_sld CM LW dL_law_511 (show i + 1 < L by omega) hL ?_
  refine e_aload_n CM dL_law_512 rfl rfl ?_
  refine e_iload_n CM dL_law_513 rfl rfl ?_
  refine e_iconst (v := nI 2) CM dL_law_514 (by decide +kernel) ?_
  refine e_iaddN CM dL_law_515 ?_
  refine e_sld CM LW dL_law_516 (show i + 2 < L by omega) hL ?_
  refine e_aload_n CM dL_law_517 rfl rfl ?_
  refine e_iload_n CM dL_law_518 rfl rfl ?_
  refine e_iconst (v := nI 3) CM dL_law_519 (by decide +kernel) ?_
  refine e_iaddN CM dL_law_520 ?_
  refine e_sld CM LW dL_law_521 (show i + 3 < L by omega) hL ?_
  refine e_callV1 (T := TX10) (N := 23) CM dL_law_522 (k_X10_power l D kc adm (xs (i + 1)) (xs (i + 2)) (xs (i + 3)) τ) zy_X10_power mw_21_13 rfl rfl (Nat.zero_le _) (show 17 < 18 by decide) rfl rfl (Nat.le_of_ble_eq_true rfl) ⟨rfl, rfl, Nat.le_of_ble_eq_true rfl, Nat.le_of_ble_eq_true rfl⟩ hcs ?_
  refine e_flip rfl rfl hs ?_
  exact e_icmp_eq (tgt := 1111) C dL_law_525 (by decide) (fun _ => k T _ _ hc.2) (fun q => absurd hc.1 q)
set_option maxHeartbeats 4000000 in
set_option maxRecDepth 100000 in
theorem law_root {κ : zK} {l : Launch} {D : va_G} {kc : Nat → ClassId} {adx adm : Nat → Nat} {bc ns b L B : Nat} {xs : Nat → Int32} (C : zCX κ l (wX D kc adx 216) cL_law RL room_1 4 B) (CM : zCX κ l (wM D kc adm) cL_law RL room_1 4 B) (LW : zLw κ b L xs) (hcs : bc ≤ 600000 ∧ ns ≤ 7302250) {T i : Nat} {σ τ : zSt} (hi : i + 5 ≤ L) (hL : L ≤ 2560) (hG : GI T σ τ) (k : ∀ (T' : Nat) (σ' τ' : zSt), GI T' σ' τ' → zJX κ (wX D kc adx 216) (zl (wM D kc adm) τ') bc ns 1111 (zlof [(0, .ref b), (1, .ref (adx 215)), (2, .ref (adm 17)), (3, .int (nI i))]) [] σ') : zJX κ (wX D kc adx 216) (zl (wM D kc adm) τ) bc ns 530 (zlof [(0, .ref b), (1, .ref (adx 215)), (2, .ref (adm 17)), (3, .int (nI i))]) [] σ := by
  have hc := c_root (xs (i + 1)) (xs (i + 2)) hG
  refine e_aload_n C dL_law_530 rfl rfl ?_
  refine e_aload_n C dL_law_531 rfl rfl ?_
  refine e_iload_n C dL_law_532 rfl rfl ?_
  refine e_iconst (v := nI 1) C dL_law_533 (by decide +kernel) ?_
  refine e_iaddN C dL_law_534 ?_
  refine e_sld C LW dL_law_535 (show i + 1 < L by omega) hL ?_
  refine e_aload_n C dL_law_536 rfl rfl ?_
  refine e_iload_n C dL_law_537 rfl rfl ?_
  refine e_iconst (v := nI 2) C dL_law_538 (by decide +kernel) ?_
  refine e_iaddN C dL_law_539 ?_
  refine e_sld C LW dL_law_540 (show i + 2 < L by omega) hL ?_
  refine e_callV1 (T := TX9) (N := 17) C dL_law_541 (k_X9_root l D kc adx 216 (by decide) (xs (i + 1)) (xs (i + 2)) σ) zy_X9_root mw_21_17 rfl rfl (show 11 ≤ 215 by decide) (show 215 < 216 by decide) rfl rfl (Nat.le_of_ble_eq_true rfl) ⟨rfl, rfl, Nat.le_of_ble_eq_true rfl, Nat.le_of_ble_eq_true rfl⟩ hcs ?_
  refine e_static (fun hs => ?_)
  refine e_flip rfl rfl (stM D kc adm τ) ?_
  refine e_aload_n CM dL_law_544 rfl rfl ?_
  refine e_aload_n CM dL_law_545 rfl rfl ?_
  refine e_iload_n CM dL_law_546 rfl rfl ?_
  refine e_iconst (v := nI 1) CM dL_law_547 (by decide +kernel) ?_
  refine e_iaddN CM dL_law_548 ?_
  refine e_sld CM LW dL_law_549 (show i + 1 < L by omega) hL ?_
  refine e_aload_n CM dL_law_550 rfl rfl ?_
  refine e_iload_n CM dL_law_551 rfl rfl ?_
  refine e_iconst (v := nI 2) CM dL_law_552 (by decide +kernel) ?_
  refine e_iaddN CM dL_law_553 ?_
  refine e_sld CM LW dL_law_554 (show i + 2 < L by omega) hL ?_
  refine e_callV1 (T := TX10) (N := 23) CM dL_law_555 (k_X10_root l D kc adm (xs (i + 1)) (xs (i + 2)) τ) zy_X10_root mw_22_15 rfl rfl (Nat.zero_le _) (show 17 < 18 by decide) rfl rfl (Nat.le_of_ble_eq_true rfl) ⟨rfl, rfl, Nat.le_of_ble_eq_true rfl, Nat.le_of_ble_eq_true rfl⟩ hcs ?_
  refine e_flip rfl rfl hs ?_
  exact e_icmp_eq (tgt := 1111) C dL_law_558 (by decide) (fun _ => k T _ _ hc.2) (fun q => absurd hc.1 q)
set_option maxHeartbeats 4000000 in
set_option maxRecDepth 100000 in
theorem law_about {κ : zK} {l : Launch} {D : va_G} {kc : Nat → ClassId} {adx adm : Nat → Nat} {bc ns b L B : Nat} {xs : Nat → Int32} (C : zCX κ l (wX D kc adx 216) cL_law RL room_1 4 B) (CM : zCX κ l (wM D kc adm) cL_law RL room_1 4 B) (LW : zLw κ b L xs) (hcs : bc ≤ 600000 ∧ ns ≤ 7302250) {T i : Nat} {σ τ : zSt} (hi : i + 5 ≤ L) (hL : L ≤ 2560) (hG : GI T σ τ) (k : ∀ (T' : Nat) (σ' τ' : zSt), GI T' σ' τ' → zJX κ (wX D kc adx 216) (zl (wM D kc adm) τ') bc ns 1111 (zlof [(0, .ref b), (1, .ref (adx 215)), (2, .ref (adm 17)), (3, .int (nI i))]) [] σ') : zJX κ (wX D kc adx 216) (zl (wM D kc adm) τ) bc ns 563 (zlof [(0, .ref b), (1, .ref (adx 215)), (2, .ref (adm 17)), (3, .int (nI i))]) [] σ := by
  have hc := c_about (xs (i + 1)) (xs (i + 2)) hG
  refine e_aload_n C dL_law_563 rfl rfl ?_
  refine e_aload_n C dL_law_564 rfl rfl ?_
  refine e_iload_n C dL_law_565 rfl rfl ?_
  refine e_iconst (v := nI 1) C dL_law_566 (by decide +kernel) ?_
  refine e_iaddN C dL_law_567 ?_
  refine e_sld C LW dL_law_568 (show i + 1 < L by omega) hL ?_
  refine e_aload_n C dL_law_569 rfl rfl ?_
  refine e_iload_n C dL_law_570 rfl rfl ?_
  refine e_iconst (v := nI 2) C dL_law_571 (by decide +kernel) ?_
  refine e_iaddN C dL_law_572 ?_
  refine e_sld C LW dL_law_573 (show i + 2 < L by omega) hL ?_
  refine e_callV1 (T := TX9) (N := 17) C dL_law_574 (k_X9_about l D kc adx 216 (by decide) (xs (i + 1)) (xs (i + 2)) σ) zy_X9_about mw_22_19 rfl rfl (show 11 ≤ 215 by decide) (show 215 < 216 by decide) rfl rfl (Nat.le_of_ble_eq_true rfl) ⟨rfl, rfl, Nat.le_of_ble_eq_true rfl, Nat.le_of_ble_eq_true rfl⟩ hcs ?_
  refine e_static (fun hs => ?_)
  refine e_flip rfl rfl (stM D kc adm τ) ?_
  refine e_aload_n CM dL_law_577 rfl rfl ?_
  refine e_aload_n CM dL_law_578 rfl rfl ?_
  refine e_iload_n CM dL_law_579 rfl rfl ?_
  refine e_iconst (v := nI 1) CM dL_law_580 (by decide +kernel) ?_
  refine e_iaddN CM dL_law_581 ?_
  refine e_sld CM LW dL_law_582 (show i + 1 < L by omega) hL ?_
  refine e_aload_n CM dL_law_583 rfl rfl ?_
  refine e_iload_n CM dL_law_584 rfl rfl ?_
  refine e_iconst (v := nI 2) CM dL_law_585 (by decide +kernel) ?_
  refine e_iaddN CM dL_law_586 ?_
  refine e_sld CM LW dL_law_587 (show i + 2 < L by omega) hL ?_
  refine e_callV1 (T := TX10) (N := 23) CM dL_law_588 (k_X10_about l D kc adm (xs (i + 1)) (xs (i + 2)) τ) zy_X10_about mw_23_17 rfl rfl (Nat.zero_le _) (show 17 < 18 by decide) rfl rfl (Nat.le_of_ble_eq_true rfl) ⟨rfl, rfl, Nat.le_of_ble_eq_true rfl, Nat.le_of_ble_eq_true rfl⟩ hcs ?_
  refine e_flip rfl rfl hs ?_
  exact e_icmp_eq (tgt := 1111) C dL_law_591 (by decide) (fun _ => k T _ _ hc.2) (fun q => absurd hc.1 q)
set_option maxHeartbeats 4000000 in
set_option maxRecDepth 100000 in
theorem law_compare {κ : zK} {l : Launch} {D : va_G} {kc : Nat → ClassId} {adx adm : Nat → Nat} {bc ns b L B : Nat} {xs : Nat → Int32} (C : zCX κ l (wX D kc adx 216) cL_law RL room_1 4 B) (CM : zCX κ l (wM D kc adm) cL_law RL room_1 4 B) (LW : zLw κ b L xs) (hcs : bc ≤ 600000 ∧ ns ≤ 7302250) {T i : Nat} {σ τ : zSt} (hi : i + 5 ≤ L) (hL : L ≤ 2560) (hG : GI T σ τ) (k : ∀ (T' : Nat) (σ' τ' : zSt), GI T' σ' τ' → zJX κ (wX D kc adx 216) (zl (wM D kc adm) τ') bc ns 1111 (zlof [(0, .ref b), (1, .ref (adx 215)), (2, .ref (adm 17)), (3, .int (nI i))]) [] σ') : zJX κ (wX D kc adx 216) (zl (wM D kc adm) τ) bc ns 596 (zlof [(0, .ref b), (1, .ref (adx 215)), (2, .ref (adm 17)), (3, .int (nI i))]) [] σ := by
  have hc := c_compare (xs (i + 1)) (xs (i + 2)) hG
  refine e_aload_n C dL_law_596 rfl rfl ?_
  refine e_aload_n C dL_law_597 rfl rfl ?_
  refine e_iload_n C dL_law_598 rfl rfl ?_
  refine e_iconst (v := nI 1) C dL_law_599 (by decide +kernel) ?_
  refine e_iaddN C dL_law_600 ?_
  refine e_sld C LW dL_law_601 (show i + 1 < L by omega) hL ?_
  refine e_aload_n C dL_law_602 rfl rfl ?_
  refine e_iload_n C dL_law_603 rfl rfl ?_
  refine e_iconst (v := nI 2) C dL_law_604 (by decide +kernel) ?_
  refine e_iaddN C dL_law_605 ?_
  refine e_sld C LW dL_law_606 (show i + 2 < L by omega) hL ?_
  refine e_callV1 (T := TX9) (N := 17) C dL_law_607 (k_X9_compare l D kc adx 216 (by decide) (xs (i + 1)) (xs (i + 2)) σ) zy_X9_compare mw_23_21 rfl rfl (show 11 ≤ 215 by decide) (show 215 < 216 by decide) rfl rfl (Nat.le_of_ble_eq_true rfl) ⟨rfl, rfl, Nat.le_of_ble_eq_true rfl, Nat.le_of_ble_eq_true rfl⟩ hcs ?_
  refine e_static (fun hs => ?_)
  refine e_flip rfl rfl (stM D kc adm τ) ?_
  refine e_aload_n CM dL_law_610 rfl rfl ?_
  refine e_aload_n CM dL_law_611 rfl rfl ?_
  refine e_iload_n CM dL_law_612 rfl rfl ?_
  refine e_iconst (v := nI 1) CM dL_law_613 (by decide +kernel) ?_
  refine e_iaddN CM dL_law_614 ?_
  refine e_sld CM LW dL_law_615 (show i + 1 < L by omega) hL ?_
  refine e_aload_n CM dL_law_616 rfl rfl ?_
  refine e_iload_n CM dL_law_617 rfl rfl ?_
  refine e_iconst (v := nI 2) CM dL_law_618 (by decide +kernel) ?_
  refine e_iaddN CM dL_law_619 ?_
  refine e_sld CM LW dL_law_620 (show i + 2 < L by omega) hL ?_
  refine e_callV1 (T := TX10) (N := 23) CM dL_law_621 (k_X10_compare l D kc adm (xs (i + 1)) (xs (i + 2)) τ) zy_X10_compare mw_24_1 rfl rfl (Nat.zero_le _) (show 17 < 18 by decide) rfl rfl (Nat.le_of_ble_eq_true rfl) ⟨rfl, rfl, Nat.le_of_ble_eq_true rfl, Nat.le_of_ble_eq_true rfl⟩ hcs ?_
  refine e_flip rfl rfl hs ?_
  exact e_icmp_eq (tgt := 1111) C dL_law_624 (by decide) (fun _ => k T _ _ hc.2) (fun q => absurd hc.1 q)
set_option maxHeartbeats 4000000 in
set_option maxRecDepth 100000 in
theorem law_scalar {κ : zK} {l : Launch} {D : va_G} {kc : Nat → ClassId} {adx adm : Nat → Nat} {bc ns b L B : Nat} {xs : Nat → Int32} (C : zCX κ l (wX D kc adx 216) cL_law RL room_1 4 B) (CM : zCX κ l (wM D kc adm) cL_law RL room_1 4 B) (LW : zLw κ b L xs) (hcs : bc ≤ 600000 ∧ ns ≤ 7302250) {T i : Nat} {σ τ : zSt} (hi : i + 5 ≤ L) (hL : L ≤ 2560) (hG : GI T σ τ) (k : ∀ (T' : Nat) (σ' τ' : zSt), GI T' σ' τ' → zJX κ (wX D kc adx 216) (zl (wM D kc adm) τ') bc ns 1111 (zlof [(0, .ref b), (1, .ref (adx 215)), (2, .ref (adm 17)), (3, .int (nI i))]) [] σ') : zJX κ (wX D kc adx 216) (zl (wM D kc adm) τ) bc ns 629 (zlof [(0, .ref b), (1, .ref (adx 215)), (2, .ref (adm 17)), (3, .int (nI i))]) [] σ := by
  have hc := c_scalar (xs (i + 1)) (xs (i + 2)) (xs (i + 3)) (xs (i + 4)) hG
  refine e_aload_n C dL_law_629 rfl rfl ?_
  refine e_aload_n C dL_law_630 rfl rfl ?_
  refine e_iload_n C dL_law_631 rfl rfl ?_
  refine e_iconst (v := nI 1) C dL_law_632 (by decide +kernel) ?_
  refine e_iaddN C dL_law_633 ?_
  refine e_sld C LW dL_law_634 (show i + 1 < L by omega) hL ?_
  refine e_aload_n C dL_law_635 rfl rfl ?_
  refine e_iload_n C dL_law_636 rfl rfl ?_
  refine e_iconst (v := nI 2) C dL_law_637 (by decide +kernel) ?_
  refine e_iaddN C dL_law_638 ?_
  refine e_sld C LW dL_law_639 (show i + 2 < L by omega) hL ?_
  refine e_aload_n C dL_law_640 rfl rfl ?_
  refine e_iload_n C dL_law_641 rfl rfl ?_
  refine e_iconst (v := nI 3) C dL_law_642 (by decide +kernel) ?_
  refine e_iaddN C dL_law_643 ?_
  refine e_sld C LW dL_law_644 (show i + 3 < L by omega) hL ?_
  refine e_aload_n C dL_law_645 rfl rfl ?_
  refine e_iload_n C dL_law_646 rfl rfl ?_
  refine e_iconst (v := nI 4) C dL_law_647 (by decide +kernel) ?_
  refine e_iaddN C dL_law_648 ?_
  refine e_sld C LW dL_law_649 (show i + 4 < L by omega) hL ?_
  refine e_callV1 (T := TX9) (N := 17) C dL_law_650 (k_X9_scalar l D kc adx 216 (by decide) (xs (i + 1)) (xs (i + 2)) (xs (i + 3)) (xs (i + 4)) σ) zy_X9_scalar mw_24_5 rfl rfl (show 11 ≤ 215 by decide) (show 215 < 216 by decide) rfl rfl (Nat.le_of_ble_eq_true rfl) ⟨rfl, rfl, Nat.le_of_ble_eq_true rfl, Nat.le_of_ble_eq_true rfl⟩ hcs ?_
  refine e_static (fun hs => ?_)
  refine e_flip rfl rfl (stM D kc adm τ) ?_
  refine e_aload_n CM dL_law_653 rfl rfl ?_
  refine e_aload_n CM dL_law_654 rfl rfl ?_
  refine e_iload_n CM dL_law_655 rfl rfl ?_
  refine e_iconst (v := nI 1) CM dL_law_656 (by decide +kernel) ?_
  refine e_iaddN CM dL_law_657 ?_
  refine e_sld CM LW dL_law_658 (show i + 1 < L by omega) hL ?_
  refine e_aload_n CM dL_law_659 rfl rfl ?_
  refine e_iload_n CM dL_law_660 rfl rfl ?_
  refine e_iconst (v := nI 2) CM dL_law_661 (by decide +kernel) ?_
  refine e_iaddN CM dL_law_662 ?_
  refine e_sld CM LW dL_law_663 (show i + 2 < L by omega) hL ?_
  refine e_aload_n CM dL_law_664 rfl rfl ?_
  refine e_iload_n CM dL_law_665 rfl rfl ?_
  refine e_iconst (v := nI 3) CM dL_law_666 (by decide +kernel) ?_
  refine e_iaddN CM dL_law_667 ?_
  refine e_sld CM LW dL_law_668 (show i + 3 < L by omega) hL ?_
  refine e_aload_n CM dL_law_669 rfl rfl ?_
  refine e_iload_n CM dL_law_670 rfl rfl ?_
  refine e_iconst (v := nI 4) CM dL_law_671 (by decide +kernel) ?_
  refine e_iaddN CM dL_law_672 ?_
  refine e_sld CM LW dL_law_673 (show i + 4 < L by omega) hL ?_
  refine e_callV1 (T := TX10) (N := 23) CM dL_law_674 (k_X10_scalar l D kc adm (xs (i + 1)) (xs (i + 2)) (xs (i + 3)) (xs (i + 4)) τ) zy_X10_scalar mw_25_6 rfl rfl (Nat.zero_le _) (show 17 < 18 by decide) rfl rfl (Nat.le_of_ble_eq_true rfl) ⟨rfl, rfl, Nat.le_of_ble_eq_true rfl, Nat.le_of_ble_eq_true rfl⟩ hcs ?_
  refine e_flip rfl rfl hs ?_
  exact e_icmp_eq (tgt := 1111) C dL_law_677 (by decide) (fun _ => k T _ _ hc.2) (fun q => absurd hc.1 q)
set_option maxHeartbeats 4000000 in
set_option maxRecDepth 100000 in
theorem law_isPoint {κ : zK} {l : Launch} {D : va_G} {kc : Nat → ClassId} {adx adm : Nat → Nat} {bc ns b L B : Nat} {xs : Nat → Int32} (C : zCX κ l (wX D kc adx 216) cL_law RL room_1 4 B) (CM : zCX κ l (wM D kc adm) cL_law RL room_1 4 B) (LW : zLw κ b L xs) (hcs : bc ≤ 600000 ∧ ns ≤ 7302250) {T i : Nat} {σ τ : zSt} (hi : i + 5 ≤ L) (hL : L ≤ 2560) (hG : GI T σ τ) (k : ∀ (T' : Nat) (σ' τ' : zSt), GI T' σ' τ' → zJX κ (wX D kc adx 216) (zl (wM D kc adm) τ') bc ns 1111 (zlof [(0, .ref b), (1, .ref (adx 215)), (2, .ref (adm 17)), (3, .int (nI i))]) [] σ') : zJX κ (wX D kc adx 216) (zl (wM D kc adm) τ) bc ns 682 (zlof [(0, .ref b), (1, .ref (adx 215)), (2, .ref (adm 17)), (3, .int (nI i))]) [] σ := by
  have hc := c_isPoint (xs (i + 1)) hG
  refine e_aload_n C dL_law_682 rfl rfl ?_
  refine e_aload_n C dL_law_683 rfl rfl ?_
  refine e_iload_n C dL_law_684 rfl rfl ?_
  refine e_iconst (v := nI 1) C dL_law_685 (by decide +kernel) ?_
  refine e_iaddN C dL_law_686 ?_
  refine e_sld C LW dL_law_687 (show i + 1 < L by omega) hL ?_
  refine e_callV1 (T := TX9) (N := 17) C dL_law_688 (k_X9_isPoint l D kc adx 216 (by decide) (xs (i + 1)) σ) zy_X9_isPoint mw_26_1 rfl rfl (show 11 ≤ 215 by decide) (show 215 < 216 by decide) rfl rfl (Nat.le_of_ble_eq_true rfl) ⟨rfl, rfl, Nat.le_of_ble_eq_true rfl, Nat.le_of_ble_eq_true rfl⟩ hcs ?_
  refine e_static (fun hs => ?_)
  refine e_flip rfl rfl (stM D kc adm τ) ?_
  refine e_aload_n CM dL_law_691 rfl rfl ?_
  refine e_aload_n CM dL_law_692 rfl rfl ?_
  refine e_iload_n CM dL_law_693 rfl rfl ?_
  refine e_iconst (v := nI 1) CM dL_law_694 (by decide +kernel) ?_
  refine e_iaddN CM dL_law_695 ?_
  refine e_sld CM LW dL_law_696 (show i + 1 < L by omega) hL ?_
  refine e_callV1 (T := TX10) (N := 23) CM dL_law_697 (k_X10_isPoint l D kc adm (xs (i + 1)) τ) zy_X10_isPoint mw_26_20 rfl rfl (Nat.zero_le _) (show 17 < 18 by decide) rfl rfl (Nat.le_of_ble_eq_true rfl) ⟨rfl, rfl, Nat.le_of_ble_eq_true rfl, Nat.le_of_ble_eq_true rfl⟩ hcs ?_
  refine e_flip rfl rfl hs ?_
  exact e_icmp_eq (tgt := 1111) C dL_law_700 (by decide) (fun _ => k T _ _ hc.2) (fun q => absurd hc.1 q)
set_option maxHeartbeats 4000000 in
set_option maxRecDepth 100000 in
theorem law_across {κ : zK} {l : Launch} {D : va_G} {kc : Nat → ClassId} {adx adm : Nat → Nat} {bc ns b L B : Nat} {xs : Nat → Int32} (C : zCX κ l (wX D kc adx 216) cL_law RL room_1 4 B) (CM : zCX κ l (wM D kc adm) cL_law RL room_1 4 B) (LW : zLw κ b L xs) (hcs : bc ≤ 600000 ∧ ns ≤ 7302250) {T i : Nat} {σ τ : zSt} (hi : i + 5 ≤ L) (hL : L ≤ 2560) (hG : GI T σ τ) (k : ∀ (T' : Nat) (σ' τ' : zSt), GI T' σ' τ' → zJX κ (wX D kc adx 216) (zl (wM D kc adm) τ') bc ns 1111 (zlof [(0, .ref b), (1, .ref (adx 215)), (2, .ref (adm 17)), (3, .int (nI i))]) [] σ') : zJX κ (wX D kc adx 216) (zl (wM D kc adm) τ) bc ns 705 (zlof [(0, .ref b), (1, .ref (adx 215)), (2, .ref (adm 17)), (3, .int (nI i))]) [] σ := by
  have hc := c_across (xs (i + 1)) (xs (i + 2)) hG
  refine e_aload_n C dL_law_705 rfl rfl ?_
  refine e_aload_n C dL_law_706 rfl rfl ?_
  refine e_iload_n C dL_law_707 rfl rfl ?_
  refine e_iconst (v := nI 1) C dL_law_708 (by decide +kernel) ?_
  refine e_iaddN C dL_law_709 ?_
  refine e_sld C LW dL_law_710 (show i + 1 < L by omega) hL ?_
  refine e_aload_n C dL_law_711 rfl rfl ?_
  refine e_iload_n C dL_law_712 rfl rfl ?_
  refine e_iconst (v := nI 2) C dL_law_713 (by decide +kernel) ?_
  refine e_iaddN C dL_law_714 ?_
  refine e_sld C LW dL_law_715 (show i + 2 < L by omega) hL ?_
  refine e_callV1 (T := TX9) (N := 17) C dL_law_716 (k_X9_across l D kc adx 216 (by decide) (xs (i + 1)) (xs (i + 2)) σ) zy_X9_across mw_27_4 rfl rfl (show 11 ≤ 215 by decide) (show 215 < 216 by decide) rfl rfl (Nat.le_of_ble_eq_true rfl) ⟨rfl, rfl, Nat.le_of_ble_eq_true rfl, Nat.le_of_ble_eq_true rfl⟩ hcs ?_
  refine e_static (fun hs => ?_)
  refine e_flip rfl rfl (stM D kc adm τ) ?_
  refine e_aload_n CM dL_law_719 rfl rfl ?_
  refine e_aload_n CM dL_law_720 rfl rfl ?_
  refine e_iload_n CM dL_law_721 rfl rfl ?_
  refine e_iconst (v := nI 1) CM dL_law_722 (by decide +kernel) ?_
  refine e_iaddN CM dL_law_723 ?_
  refine e_sld CM LW dL_law_724 (show i + 1 < L by omega) hL ?_
  refine e_aload_n CM dL_law_725 rfl rfl ?_
  refine e_iload_n CM dL_law_726 rfl rfl ?_
  refine e_iconst (v := nI 2) CM dL_law_727 (by decide +kernel) ?_
  refine e_iaddN CM dL_law_728 ?_
  refine e_sld CM LW dL_law_729 (show i + 2 < L by omega) hL ?_
  refine e_callV1 (T := TX10) (N := 23) CM dL_law_730 (k_X10_across l D kc adm (xs (i + 1)) (xs (i + 2)) τ) zy_X10_across mw_27_9 rfl rfl (Nat.zero_le _) (show 17 < 18 by decide) rfl rfl (Nat.le_of_ble_eq_true rfl) ⟨rfl, rfl, Nat.le_of_ble_eq_true rfl, Nat.le_of_ble_eq_true rfl⟩ hcs ?_
  refine e_flip rfl rfl hs ?_
  exact e_icmp_eq (tgt := 1111) C dL_law_733 (by decide) (fun _ => k T _ _ hc.2) (fun q => absurd hc.1 q)
set_option maxHeartbeats 4000000 in
set_option maxRecDepth 100000 in
theorem law_sum {κ : zK} {l : Launch} {D : va_G} {kc : Nat → ClassId} {adx adm : Nat → Nat} {bc ns b L B : Nat} {xs : Nat → Int32} (C : zCX κ l (wX D kc adx 216) cL_law RL room_1 4 B) (CM : zCX κ l (wM D kc adm) cL_law RL room_1 4 B) (LW : zLw κ b L xs) (hcs : bc ≤ 600000 ∧ ns ≤ 7302250) {T i : Nat} {σ τ : zSt} (hi : i + 5 ≤ L) (hL : L ≤ 2560) (hG : GI T σ τ) (k : ∀ (T' : Nat) (σ' τ' : zSt), GI T' σ' τ' → zJX κ (wX D kc adx 216) (zl (wM D kc adm) τ') bc ns 1111 (zlof [(0, .ref b), (1, .ref (adx 215)), (2, .ref (adm 17)), (3, .int (nI i))]) [] σ') : zJX κ (wX D kc adx 216) (zl (wM D kc adm) τ) bc ns 738 (zlof [(0, .ref b), (1, .ref (adx 215)), (2, .ref (adm 17)), (3, .int (nI i))]) [] σ := by
  have hc := c_sum (xs (i + 1)) (xs (i + 2)) (xs (i + 3)) (xs (i + 4)) hG
  refine e_aload_n C dL_law_738 rfl rfl ?_
  refine e_aload_n C dL_law_739 rfl rfl ?_
  refine e_iload_n C dL_law_740 rfl rfl ?_
  refine e_iconst (v := nI 1) C dL_law_741 (by decide +kernel) ?_
  refine e_iaddN C dL_law_742 ?_
  refine e_sld C LW dL_law_743 (show i + 1 < L by omega) hL ?_
  refine e_aload_n C dL_law_744 rfl rfl ?_
  refine e_iload_n C dL_law_745 rfl rfl ?_
  refine e_iconst (v := nI 2) C dL_law_746 (by decide +kernel) ?_
  refine e_iaddN C dL_law_747 ?_
  refine e_sld C LW dL_law_748 (show i + 2 < L by omega) hL ?_
  refine e_aload_n C dL_law_749 rfl rfl ?_
  refine e_iload_n C dL_law_750 rfl rfl ?_
  refine e_iconst (v := nI 3) C dL_law_751 (by decide +kernel) ?_
  refine e_iaddN C dL_law_752 ?_
  refine e_sld C LW dL_law_753 (show i + 3 < L by omega) hL ?_
  refine e_aload_n C dL_law_754 rfl rfl ?_
  refine e_iload_n C dL_law_755 rfl rfl ?_
  refine e_iconst (v := nI 4) C dL_law_756 (by decide +kernel) ?_
  refine e_iaddN C dL_law_757 ?_
  refine e_sld C LW dL_law_758 (show i + 4 < L by omega) hL ?_
  refine e_callV1 (T := TX9) (N := 17) C dL_law_759 (k_X9_sum l D kc adx 216 (by decide) (xs (i + 1)) (xs (i + 2)) (xs (i + 3)) (xs (i + 4)) σ) zy_X9_sum mw_27_13 rfl rfl (show 11 ≤ 215 by decide) (show 215 < 216 by decide) rfl rfl (Nat.le_of_ble_eq_true rfl) ⟨rfl, rfl, Nat.le_of_ble_eq_true rfl, Nat.le_of_ble_eq_true rfl⟩ hcs ?_
  refine e_static (fun hs => ?_)
  refine e_flip rfl rfl (stM D kc adm τ) ?_
  refine e_aload_n CM dL_law_762 rfl rfl ?_
  refine e_aload_n CM dL_law_763 rfl rfl ?_
  refine e_iload_n CM dL_law_764 rfl rfl ?_
  refine e_iconst (v := nI 1) CM dL_law_765 (by decide +kernel) ?_
  refine e_iaddN CM dL_law_766 ?_
  refine e_sld CM LW dL_law_767 (show i + 1 < L by omega) hL ?_
  refine e_aload_n CM dL_law_768 rfl rfl ?_
  refine e_iload_n CM dL_law_769 rfl rfl ?_
  refine e_iconst (v := nI 2) CM dL_law_770 (by decide +kernel) ?_
  refine e_iaddN CM dL_law_771 ?_
  refine e_sld CM LW dL_law_772 (show i + 2 < L by omega) hL ?_
  refine e_aload_n CM dL_law_773 rfl rfl ?_
  refine e_iload_n CM dL_law_774 rfl rfl ?_
  refine e_iconst (v := nI 3) CM dL_law_775 (by decide +kernel) ?_
  refine e_iaddN CM dL_law_776 ?_
  refine e_sld CM LW dL_law_777 (show i + 3 < L by omega) hL ?_
  refine e_aload_n CM dL_law_778 rfl rfl ?_
  refine e_iload_n CM dL_law_779 rfl rfl ?_
  refine e_iconst (v := nI 4) CM dL_law_780 (by decide +kernel) ?_
  refine e_iaddN CM dL_law_781 ?_
  refine e_sld CM LW dL_law_782 (show i + 4 < L by omega) hL ?_
  refine e_callV1 (T := TX10) (N := 23) CM dL_law_783 (k_X10_sum l D kc adm (xs (i + 1)) (xs (i + 2)) (xs (i + 3)) (xs (i + 4)) τ) zy_X10_sum mw_28_8 rfl rfl (Nat.zero_le _) (show 17 < 18 by decide) rfl rfl (Nat.le_of_ble_eq_true rfl) ⟨rfl, rfl, Nat.le_of_ble_eq_true rfl, Nat.le_of_ble_eq_true rfl⟩ hcs ?_
  refine e_flip rfl rfl hs ?_
  exact e_icmp_eq (tgt := 1111) C dL_law_786 (by decide) (fun _ => k T _ _ hc.2) (fun q => absurd hc.1 q)
set_option maxHeartbeats 4000000 in
set_option maxRecDepth 100000 in
theorem law_times {κ : zK} {l : Launch} {D : va_G} {kc : Nat → ClassId} {adx adm : Nat → Nat} {bc ns b L B : Nat} {xs : Nat → Int32} (C : zCX κ l (wX D kc adx 216) cL_law RL room_1 4 B) (CM : zCX κ l (wM D kc adm) cL_law RL room_1 4 B) (LW : zLw κ b L xs) (hcs : bc ≤ 600000 ∧ ns ≤ 7302250) {T i : Nat} {σ τ : zSt} (hi : i + 5 ≤ L) (hL : L ≤ 2560) (hG : GI T σ τ) (k : ∀ (T' : Nat) (σ' τ' : zSt), GI T' σ' τ' → zJX κ (wX D kc adx 216) (zl (wM D kc adm) τ') bc ns 1111 (zlof [(0, .ref b), (1, .ref (adx 215)), (2, .ref (adm 17)), (3, .int (nI i))]) [] σ') : zJX κ (wX D kc adx 216) (zl (wM D kc adm) τ) bc ns 791 (zlof [(0, .ref b), (1, .ref (adx 215)), (2, .ref (adm 17)), (3, .int (nI i))]) [] σ := by
  have hc := c_times (xs (i + 1)) (xs (i + 2)) (xs (i + 3)) hG
  refine e_aload_n C dL_law_791 rfl rfl ?_
  refine e_aload_n C dL_law_792 rfl rfl ?_
  refine e_iload_n C dL_law_793 rfl rfl ?_
  refine e_iconst (v := nI 1) C dL_law_794 (by decide +kernel) ?_
  refine e_iaddN C dL_law_795 ?_
  refine e_sld C LW dL_law_796 (show i + 1 < L by omega) hL ?_
  refine e_aload_n C dL_law_797 rfl rfl ?_
  refine e_iload_n C dL_law_798 rfl rfl ?_
  refine e_iconst (v := nI 2) C dL_law_799 (by decide +kernel) ?_
  refine e_iaddN C dL_law_800 ?_
  refine e_sld C LW dL_law_801 (show i + 2 < L by omega) hL ?_
  refine e_aload_n C dL_law_802 rfl rfl ?_
  refine e_iload_n C dL_law_803 rfl rfl ?_
  refine e_iconst (v := nI 3) C dL_law_804 (by decide +kernel) ?_
  refine e_iaddN C dL_law_805 ?_
  refine e_sld C LW dL_law_806 (show i + 3 < L by omega) hL ?_
  refine e_callV1 (T := TX9) (N := 17) C dL_law_807 (k_X9_times l D kc adx 216 (by decide) (xs (i + 1)) (xs (i + 2)) (xs (i + 3)) σ) zy_X9_times mw_29_4 rfl rfl (show 11 ≤ 215 by decide) (show 215 < 216 by decide) rfl rfl (Nat.le_of_ble_eq_true rfl) ⟨rfl, rfl, Nat.le_of_ble_eq_true rfl, Nat.le_of_ble_eq_true rfl⟩ hcs ?_
  refine e_static (fun hs => ?_)
  refine e_flip rfl rfl (stM D kc adm τ) ?_
  refine e_aload_n CM dL_law_810 rfl rfl ?_
  refine e_aload_n CM dL_law_811 rfl rfl ?_
  refine e_iload_n CM dL_law_812 rfl rfl ?_
  refine e_iconst (v := nI 1) CM dL_law_813 (by decide +kernel) ?_
  refine e_iaddN CM dL_law_814 ?_
  refine e_sld CM LW dL_law_815 (show i + 1 < L by omega) hL ?_
  refine e_aload_n CM dL_law_816 rfl rfl ?_
  refine e_iload_n CM dL_law_817 rfl rfl ?_
  refine e_iconst (v := nI 2) CM dL_law_818 (by decide +kernel) ?_
  refine e_iaddN CM dL_law_819 ?_
  refine e_sld CM LW dL_law_820 (show i + 2 < L by omega) hL ?_
  refine e_aload_n CM dL_law_821 rfl rfl ?_
  refine e_iload_n CM dL_law_822 rfl rfl ?_
  refine e_iconst (v := nI 3) CM dL_law_823 (by decide +kernel) ?_
  refine e_iaddN CM dL_law_824 ?_
  refine e_sld CM LW dL_law_825 (show i + 3 < L by omega) hL ?_
  refine e_callV1 (T := TX10) (N := 23) CM dL_law_826 (k_X10_times l D kc adm (xs (i + 1)) (xs (i + 2)) (xs (i + 3)) τ) zy_X10_times mw_29_22 rfl rfl (Nat.zero_le _) (show 17 < 18 by decide) rfl rfl (Nat.le_of_ble_eq_true rfl) ⟨rfl, rfl, Nat.le_of_ble_eq_true rfl, Nat.le_of_ble_eq_true rfl⟩ hcs ?_
  refine e_flip rfl rfl hs ?_
  exact e_icmp_eq (tgt := 1111) C dL_law_829 (by decide) (fun _ => k T _ _ hc.2) (fun q => absurd hc.1 q)
set_option maxHeartbeats 4000000 in
set_option maxRecDepth 100000 in
theorem law_base {κ : zK} {l : Launch} {D : va_G} {kc : Nat → ClassId} {adx adm : Nat → Nat} {bc ns b L B : Nat} {xs : Nat → Int32} (C : zCX κ l (wX D kc adx 216) cL_law RL room_1 4 B) (CM : zCX κ l (wM D kc adm) cL_law RL room_1 4 B) (LW : zLw κ b L xs) (hcs : bc ≤ 600000 ∧ ns ≤ 7302250) {T i : Nat} {σ τ : zSt} (hi : i + 5 ≤ L) (hL : L ≤ 2560) (hG : GI T σ τ) (k : ∀ (T' : Nat) (σ' τ' : zSt), GI T' σ' τ' → zJX κ (wX D kc adx 216) (zl (wM D kc adm) τ') bc ns 1111 (zlof [(0, .ref b), (1, .ref (adx 215)), (2, .ref (adm 17)), (3, .int (nI i))]) [] σ') : zJX κ (wX D kc adx 216) (zl (wM D kc adm) τ) bc ns 834 (zlof [(0, .ref b), (1, .ref (adx 215)), (2, .ref (adm 17)), (3, .int (nI i))]) [] σ := by
  have hc := c_base (xs (i + 1)) (xs (i + 2)) hG
  refine e_aload_n C dL_law_834 rfl rfl ?_
  refine e_aload_n C dL_law_835 rfl rfl ?_
  refine e_iload_n C dL_law_836 rfl rfl ?_
  refine e_iconst (v := nI 1) C dL_law_837 (by decide +kernel) ?_
  refine e_iaddN C dL_law_838 ?_
  refine e_sld C LW dL_law_839 (show i + 1 < L by omega) hL ?_
  refine e_aload_n C dL_law_840 rfl rfl ?_
  refine e_iload_n C dL_law_841 rfl rfl ?_
  refine e_iconst (v := nI 2) C dL_law_842 (by decide +kernel) ?_
  refine e_iaddN C dL_law_843 ?_
  refine e_sld C LW dL_law_844 (show i + 2 < L by omega) hL ?_
  refine e_callV1 (T := TX9) (N := 17) C dL_law_845 (k_X9_base l D kc adx 216 (by decide) (xs (i + 1)) (xs (i + 2)) σ) zy_X9_base mw_30_10 rfl rfl (show 11 ≤ 215 by decide) (show 215 < 216 by decide) rfl rfl (Nat.le_of_ble_eq_true rfl) ⟨rfl, rfl, Nat.le_of_ble_eq_true rfl, Nat.le_of_ble_eq_true rfl⟩ hcs ?_
  refine e_static (fun hs => ?_)
  refine e_flip rfl rfl (stM D kc adm τ) ?_
  refine e_aload_n CM dL_law_848 rfl rfl ?_
  refine e_aload_n CM dL_law_849 rfl rfl ?_
  refine e_iload_n CM dL_law_850 rfl rfl ?_
  refine e_iconst (v := nI 1) CM dL_law_851 (by decide +kernel) ?_
  refine e_iaddN CM dL_law_852 ?_
  refine e_sld CM LW dL_law_853 (show i + 1 < L by omega) hL ?_
  refine e_aload_n CM dL_law_854 rfl rfl ?_
  refine e_iload_n CM dL_law_855 rfl rfl ?_
  refine e_iconst (v := nI 2) CM dL_law_856 (by decide +kernel) ?_
  refine e_iaddN CM dL_law_857 ?_
  refine e_sld CM LW dL_law_858 (show i + 2 < L by omega) hL ?_
  refine e_callV1 (T := TX10) (N := 23) CM dL_law_859 (k_X10_base l D kc adm (xs (i + 1)) (xs (i + 2)) τ) zy_X10_base mw_30_15 rfl rfl (Nat.zero_le _) (show 17 < 18 by decide) rfl rfl (Nat.le_of_ble_eq_true rfl) ⟨rfl, rfl, Nat.le_of_ble_eq_true rfl, Nat.le_of_ble_eq_true rfl⟩ hcs ?_
  refine e_flip rfl rfl hs ?_
  exact e_icmp_eq (tgt := 1111) C dL_law_862 (by decide) (fun _ => k T _ _ hc.2) (fun q => absurd hc.1 q)
set_option maxHeartbeats 4000000 in
set_option maxRecDepth 100000 in
theorem law_small {κ : zK} {l : Launch} {D : va_G} {kc : Nat → ClassId} {adx adm : Nat → Nat} {bc ns b L B : Nat} {xs : Nat → Int32} (C : zCX κ l (wX D kc adx 216) cL_law RL room_1 4 B) (CM : zCX κ l (wM D kc adm) cL_law RL room_1 4 B) (LW : zLw κ b L xs) (hcs : bc ≤ 600000 ∧ ns ≤ 7302250) {T i : Nat} {σ τ : zSt} (hi : i + 5 ≤ L) (hL : L ≤ 2560) (hG : GI T σ τ) (k : ∀ (T' : Nat) (σ' τ' : zSt), GI T' σ' τ' → zJX κ (wX D kc adx 216) (zl (wM D kc adm) τ') bc ns 1111 (zlof [(0, .ref b), (1, .ref (adx 215)), (2, .ref (adm 17)), (3, .int (nI i))]) [] σ') : zJX κ (wX D kc adx 216) (zl (wM D kc adm) τ) bc ns 867 (zlof [(0, .ref b), (1, .ref (adx 215)), (2, .ref (adm 17)), (3, .int (nI i))]) [] σ := by
  have hc := c_small (xs (i + 1)) hG
  refine e_aload_n C dL_law_867 rfl rfl ?_
  refine e_aload_n C dL_law_868 rfl rfl ?_
  refine e_iload_n C dL_law_869 rfl rfl ?_
  refine e_iconst (v := nI 1) C dL_law_870 (by decide +kernel) ?_
  refine e_iaddN C dL_law_871 ?_
  refine e_sld C LW dL_law_872 (show i + 1 < L by omega) hL ?_
  refine e_callV1 (T := TX9) (N := 17) C dL_law_873 (k_X9_small l D kc adx 216 (by decide) (xs (i + 1)) σ) zy_X9_small mw_30_19 rfl rfl (show 11 ≤ 215 by decide) (show 215 < 216 by decide) rfl rfl (Nat.le_of_ble_eq_true rfl) ⟨rfl, rfl, Nat.le_of_ble_eq_true rfl, Nat.le_of_ble_eq_true rfl⟩ hcs ?_
  refine e_static (fun hs => ?_)
  refine e_flip rfl rfl (stM D kc adm τ) ?_
  refine e_aload_n CM dL_law_876 rfl rfl ?_
  refine e_aload_n CM dL_law_877 rfl rfl ?_
  refine e_iload_n CM dL_law_878 rfl rfl ?_
  refine e_iconst (v := nI 1) CM dL_law_879 (by decide +kernel) ?_
  refine e_iaddN CM dL_law_880 ?_
  refine e_sld CM LW dL_law_881 (show i + 1 < L by omega) hL ?_
  refine e_callV1 (T := TX10) (N := 23) CM dL_law_882 (k_X10_small l D kc adm (xs (i + 1)) τ) zy_X10_small mw_31_5 rfl rfl (Nat.zero_le _) (show 17 < 18 by decide) rfl rfl (Nat.le_of_ble_eq_true rfl) ⟨rfl, rfl, Nat.le_of_ble_eq_true rfl, Nat.le_of_ble_eq_true rfl⟩ hcs ?_
  refine e_flip rfl rfl hs ?_
  exact e_icmp_eq (tgt := 1111) C dL_law_885 (by decide) (fun _ => k T _ _ hc.2) (fun q => absurd hc.1 q)
set_option maxHeartbeats 4000000 in
set_option maxRecDepth 100000 in
theorem law_other {κ : zK} {l : Launch} {D : va_G} {kc : Nat → ClassId} {adx adm : Nat → Nat} {bc ns b L B : Nat} {xs : Nat → Int32} (C : zCX κ l (wX D kc adx 216) cL_law RL room_1 4 B) (CM : zCX κ l (wM D kc adm) cL_law RL room_1 4 B) (LW : zLw κ b L xs) (hcs : bc ≤ 600000 ∧ ns ≤ 7302250) {T i : Nat} {σ τ : zSt} (hi : i + 5 ≤ L) (hL : L ≤ 2560) (hG : GI T σ τ) (k : ∀ (T' : Nat) (σ' τ' : zSt), GI T' σ' τ' → zJX κ (wX D kc adx 216) (zl (wM D kc adm) τ') bc ns 1111 (zlof [(0, .ref b), (1, .ref (adx 215)), (2, .ref (adm 17)), (3, .int (nI i))]) [] σ') : zJX κ (wX D kc adx 216) (zl (wM D kc adm) τ) bc ns 890 (zlof [(0, .ref b), (1, .ref (adx 215)), (2, .ref (adm 17)), (3, .int (nI i))]) [] σ := by
  have hc := c_other (xs (i + 1)) (xs (i + 2)) hG
  refine e_aload_n C dL_law_890 rfl rfl ?_
  refine e_aload_n C dL_law_891 rfl rfl ?_
  refine e_iload_n C dL_law_892 rfl rfl ?_
  refine e_iconst (v := nI 1) C dL_law_893 (by decide +kernel) ?_
  refine e_iaddN C dL_law_894 ?_
  refine e_sld C LW dL_law_895 (show i + 1 < L by omega) hL ?_
  refine e_aload_n C dL_law_896 rfl rfl ?_
  refine e_iload_n C dL_law_897 rfl rfl ?_
  refine e_iconst (v := nI 2) C dL_law_898 (by decide +kernel) ?_
  refine e_iaddN C dL_law_899 ?_
  refine e_sld C LW dL_law_900 (show i + 2 < L by omega) hL ?_
  refine e_callV1 (T := TX9) (N := 17) C dL_law_901 (k_X9_other l D kc adx 216 (by decide) (xs (i + 1)) (xs (i + 2)) σ) zy_X9_other mw_31_13 rfl rfl (show 11 ≤ 215 by decide) (show 215 < 216 by decide) rfl rfl (Nat.le_of_ble_eq_true rfl) ⟨rfl, rfl, Nat.le_of_ble_eq_true rfl, Nat.le_of_ble_eq_true rfl⟩ hcs ?_
  refine e_static (fun hs => ?_)
  refine e_flip rfl rfl (stM D kc adm τ) ?_
  refine e_aload_n CM dL_law_904 rfl rfl ?_
  refine e_aload_n CM dL_law_905 rfl rfl ?_
  refine e_iload_n CM dL_law_906 rfl rfl ?_
  refine e_iconst (v := nI 1) CM dL_law_907 (by decide +kernel) ?_
  refine e_iaddN CM dL_law_908 ?_
  refine e_sld CM LW dL_law_909 (show i + 1 < L by omega) hL ?_
  refine e_aload_n CM dL_law_910 rfl rfl ?_
  refine e_iload_n CM dL_law_911 rfl rfl ?_
  refine e_iconst (v := nI 2) CM dL_law_912 (by decide +kernel) ?_
  refine e_iaddN CM dL_law_913 ?_
  refine e_sld CM LW dL_law_914 (show i + 2 < L by omega) hL ?_
  refine e_callV1 (T := TX10) (N := 23) CM dL_law_915 (k_X10_other l D kc adm (xs (i + 1)) (xs (i + 2)) τ) zy_X10_other mw_31_21 rfl rfl (Nat.zero_le _) (show 17 < 18 by decide) rfl rfl (Nat.le_of_ble_eq_true rfl) ⟨rfl, rfl, Nat.le_of_ble_eq_true rfl, Nat.le_of_ble_eq_true rfl⟩ hcs ?_
  refine e_flip rfl rfl hs ?_
  exact e_icmp_eq (tgt := 1111) C dL_law_918 (by decide) (fun _ => k T _ _ hc.2) (fun q => absurd hc.1 q)
set_option maxHeartbeats 4000000 in
set_option maxRecDepth 100000 in
theorem law_share {κ : zK} {l : Launch} {D : va_G} {kc : Nat → ClassId} {adx adm : Nat → Nat} {bc ns b L B : Nat} {xs : Nat → Int32} (C : zCX κ l (wX D kc adx 216) cL_law RL room_1 4 B) (CM : zCX κ l (wM D kc adm) cL_law RL room_1 4 B) (LW : zLw κ b L xs) (hcs : bc ≤ 600000 ∧ ns ≤ 7302250) {T i : Nat} {σ τ : zSt} (hi : i + 5 ≤ L) (hL : L ≤ 2560) (hG : GI T σ τ) (k : ∀ (T' : Nat) (σ' τ' : zSt), GI T' σ' τ' → zJX κ (wX D kc adx 216) (zl (wM D kc adm) τ') bc ns 1111 (zlof [(0, .ref b), (1, .ref (adx 215)), (2, .ref (adm 17)), (3, .int (nI i))]) [] σ') : zJX κ (wX D kc adx 216) (zl (wM D kc adm) τ) bc ns 923 (zlof [(0, .ref b), (1, .ref (adx 215)), (2, .ref (adm 17)), (3, .int (nI i))]) [] σ := by
  have hc := c_share (xs (i + 1)) (xs (i + 2)) (xs (i + 3)) hG
  refine e_aload_n C dL_law_923 rfl rfl ?_
  refine e_aload_n C dL_law_924 rfl rfl ?_
  refine e_iload_n C dL_law_925 rfl rfl ?_
  refine e_iconst (v := nI 1) C dL_law_926 (by decide +kernel) ?_
  refine e_iaddN C dL_law_927 ?_
  refine e_sld C LW dL_law_928 (show i + 1 < L by omega) hL ?_
  refine e_aload_n C dL_law_929 rfl rfl ?_
  refine e_iload_n C dL_law_930 rfl rfl ?_
  refine e_iconst (v := nI 2) C dL_law_931 (by decide +kernel) ?_
  refine e_iaddN C dL_law_932 ?_
  refine e_sld C LW dL_law_933 (show i + 2 < L by omega) hL ?_
  refine e_aload_n C dL_law_934 rfl rfl ?_
  refine e_iload_n C dL_law_935 rfl rfl ?_
  refine e_iconst (v := nI 3) C dL_law_936 (by decide +kernel) ?_
  refine e_iaddN C dL_law_937 ?_
  refine e_sld C LW dL_law_938 (show i + 3 < L by omega) hL ?_
  refine e_callV1 (T := TX9) (N := 17) C dL_law_939 (k_X9_share l D kc adx 216 (by decide) (xs (i + 1)) (xs (i + 2)) (xs (i + 3)) σ) zy_X9_share mw_32_1 rfl rfl (show 11 ≤ 215 by decide) (show 215 < 216 by decide) rfl rfl (Nat.le_of_ble_eq_true rfl) ⟨rfl, rfl, Nat.le_of_ble_eq_true rfl, Nat.le_of_ble_eq_true rfl⟩ hcs ?_
  refine e_static (fun hs => ?_)
  refine e_flip rfl rfl (stM D kc adm τ) ?_
  refine e_aload_n CM dL_law_942 rfl rfl ?_
  refine e_aload_n CM dL_law_943 rfl rfl ?_
  refine e_iload_n CM dL_law_944 rfl rfl ?_
  refine e_iconst (v := nI 1) CM dL_law_945 (by decide +kernel) ?_
  refine e_iaddN CM dL_law_946 ?_
  refine e_sld CM LW dL_law_947 (show i + 1 < L by omega) hL ?_
  refine e_aload_n CM dL_law_948 rfl rfl ?_
  refine e_iload_n CM dL_law_949 rfl rfl ?_
  refine e_iconst (v := nI 2) CM dL_law_950 (by decide +kernel) ?_
  refine e_iaddN CM dL_law_951 ?_
  refine e_sld CM LW dL_law_952 (show i + 2 < L by omega) hL ?_
  refine e_aload_n CM dL_law_953 rfl rfl ?_
  refine e_iload_n CM dL_law_954 rfl rfl ?_
  refine e_iconst (v := nI 3) CM dL_law_955 (by decide +kernel) ?_
  refine e_iaddN CM dL_law_956 ?_
  refine e_sld CM LW dL_law_957 (show i + 3 < L by omega) hL ?_
  refine e_callV1 (T := TX10) (N := 23) CM dL_law_958 (k_X10_share l D kc adm (xs (i + 1)) (xs (i + 2)) (xs (i + 3)) τ) zy_X10_share mw_33_9 rfl rfl (Nat.zero_le _) (show 17 < 18 by decide) rfl rfl (Nat.le_of_ble_eq_true rfl) ⟨rfl, rfl, Nat.le_of_ble_eq_true rfl, Nat.le_of_ble_eq_true rfl⟩ hcs ?_
  refine e_flip rfl rfl hs ?_
  exact e_icmp_eq (tgt := 1111) C dL_law_961 (by decide) (fun _ => k T _ _ hc.2) (fun q => absurd hc.1 q)
set_option maxHeartbeats 4000000 in
set_option maxRecDepth 100000 in
theorem law_digest {κ : zK} {l : Launch} {D : va_G} {kc : Nat → ClassId} {adx adm : Nat → Nat} {bc ns b L B : Nat} {xs : Nat → Int32} (C : zCX κ l (wX D kc adx 216) cL_law RL room_1 4 B) (CM : zCX κ l (wM D kc adm) cL_law RL room_1 4 B) (LW : zLw κ b L xs) (hcs : bc ≤ 600000 ∧ ns ≤ 7302250) {T i : Nat} {σ τ : zSt} (hi : i + 5 ≤ L) (hL : L ≤ 2560) (hG : GI T σ τ) (k : ∀ (T' : Nat) (σ' τ' : zSt), GI T' σ' τ' → zJX κ (wX D kc adx 216) (zl (wM D kc adm) τ') bc ns 1111 (zlof [(0, .ref b), (1, .ref (adx 215)), (2, .ref (adm 17)), (3, .int (nI i))]) [] σ') : zJX κ (wX D kc adx 216) (zl (wM D kc adm) τ) bc ns 966 (zlof [(0, .ref b), (1, .ref (adx 215)), (2, .ref (adm 17)), (3, .int (nI i))]) [] σ := by
  have hc := c_digest (xs (i + 1)) hG
  refine e_aload_n C dL_law_966 rfl rfl ?_
  refine e_aload_n C dL_law_967 rfl rfl ?_
  refine e_iload_n C dL_law_968 rfl rfl ?_
  refine e_iconst (v := nI 1) C dL_law_969 (by decide +kernel) ?_
  refine e_iaddN C dL_law_970 ?_
  refine e_sld C LW dL_law_971 (show i + 1 < L by omega) hL ?_
  refine e_callV1 (T := TX9) (N := 17) C dL_law_972 (k_X9_digest l D kc adx 216 (by decide) (xs (i + 1)) T σ hG.2.2.2.2.2.1 hG.2.2.2.2.1) zy_X9_digest mw_33_23 rfl rfl (show 11 ≤ 215 by decide) (show 215 < 216 by decide) rfl rfl (Nat.le_of_ble_eq_true rfl) ⟨rfl, rfl, Nat.le_of_ble_eq_true rfl, Nat.le_of_ble_eq_true rfl⟩ hcs ?_
  refine e_static (fun hs => ?_)
  refine e_flip rfl rfl (stM D kc adm τ) ?_
  refine e_aload_n CM dL_law_975 rfl rfl ?_
  refine e_aload_n CM dL_law_976 rfl rfl ?_
  refine e_iload_n CM dL_law_977 rfl rfl ?_
  refine e_iconst (v := nI 1) CM dL_law_978 (by decide +kernel) ?_
  refine e_iaddN CM dL_law_979 ?_
  refine e_sld CM LW dL_law_980 (show i + 1 < L by omega) hL ?_
  refine e_callV1 (T := TX10) (N := 23) CM dL_law_981 (k_X10_digest l D kc adm (xs (i + 1)) T τ hG.h5 hG.2.2.2.2.2.2.1 hG.2.2.2.2.1) zy_X10_digest mw_36_0 rfl rfl (Nat.zero_le _) (show 17 < 18 by decide) rfl rfl (Nat.le_of_ble_eq_true rfl) ⟨rfl, rfl, Nat.le_of_ble_eq_true rfl, Nat.le_of_ble_eq_true rfl⟩ hcs ?_
  refine e_flip rfl rfl hs ?_
  exact e_icmp_eq (tgt := 1111) C dL_law_984 (by decide) (fun _ => k T _ _ hc.2) (fun q => absurd hc.1 q)
set_option maxHeartbeats 4000000 in
set_option maxRecDepth 100000 in
theorem law_key {κ : zK} {l : Launch} {D : va_G} {kc : Nat → ClassId} {adx adm : Nat → Nat} {bc ns b L B : Nat} {xs : Nat → Int32} (C : zCX κ l (wX D kc adx 216) cL_law RL room_1 4 B) (CM : zCX κ l (wM D kc adm) cL_law RL room_1 4 B) (LW : zLw κ b L xs) (hcs : bc ≤ 600000 ∧ ns ≤ 7302250) {T i : Nat} {σ τ : zSt} (hi : i + 5 ≤ L) (hL : L ≤ 2560) (hG : GI T σ τ) (k : ∀ (T' : Nat) (σ' τ' : zSt), GI T' σ' τ' → zJX κ (wX D kc adx 216) (zl (wM D kc adm) τ') bc ns 1111 (zlof [(0, .ref b), (1, .ref (adx 215)), (2, .ref (adm 17)), (3, .int (nI i))]) [] σ') : zJX κ (wX D kc adx 216) (zl (wM D kc adm) τ) bc ns 989 (zlof [(0, .ref b), (1, .ref (adx 215)), (2, .ref (adm 17)), (3, .int (nI i))]) [] σ := by
  have hc := c_key (xs (i + 1)) (xs (i + 2)) hG
  refine e_aload_n C dL_law_989 rfl rfl ?_
  refine e_aload_n C dL_law_990 rfl rfl ?_
  refine e_iload_n C dL_law_991 rfl rfl ?_
  refine e_iconst (v := nI 1) C dL_law_992 (by decide +kernel) ?_
  refine e_iaddN C dL_law_993 ?_
  refine e_sld C LW dL_law_994 (show i + 1 < L by omega) hL ?_
  refine e_aload_n C dL_law_995 rfl rfl ?_
  refine e_iload_n C dL_law_996 rfl rfl ?_
  refine e_iconst (v := nI 2) C dL_law_997 (by decide +kernel) ?_
  refine e_iaddN C dL_law_998 ?_
  refine e_sld C LW dL_law_999 (show i + 2 < L by omega) hL ?_
  refine e_callV1 (T := TX9) (N := 17) C dL_law_1000 (k_X9_key l D kc adx 216 (by decide) (xs (i + 1)) (xs (i + 2)) σ) zy_X9_key mw_37_4 rfl rfl (show 11 ≤ 215 by decide) (show 215 < 216 by decide) rfl rfl (Nat.le_of_ble_eq_true rfl) ⟨rfl, rfl, Nat.le_of_ble_eq_true rfl, Nat.le_of_ble_eq_true rfl⟩ hcs ?_
  refine e_static (fun hs => ?_)
  refine e_flip rfl rfl (stM D kc adm τ) ?_
  refine e_aload_n CM dL_law_1003 rfl rfl ?_
  refine e_aload_n CM dL_law_1004 rfl rfl ?_
  refine e_iload_n CM dL_law_1005 rfl rfl ?_
  refine e_iconst (v := nI 1) CM dL_law_1006 (by decide +kernel) ?_
  refine e_iaddN CM dL_law_1007 ?_
  refine e_sld CM LW dL_law_1008 (show i + 1 < L by omega) hL ?_
  refine e_aload_n CM dL_law_1009 rfl rfl ?_
  refine e_iload_n CM dL_law_1010 rfl rfl ?_
  refine e_iconst (v := nI 2) CM dL_law_1011 (by decide +kernel) ?_
  refine e_iaddN CM dL_law_1012 ?_
  refine e_sld CM LW dL_law_1013 (show i + 2 < L by omega) hL ?_
  refine e_callV1 (T := TX10) (N := 23) CM dL_law_1014 (k_X10_key l D kc adm (xs (i + 1)) (xs (i + 2)) τ hG.h5) zy_X10_key mw_38_3 rfl rfl (Nat.zero_le _) (show 17 < 18 by decide) rfl rfl (Nat.le_of_ble_eq_true rfl) ⟨rfl, rfl, Nat.le_of_ble_eq_true rfl, Nat.le_of_ble_eq_true rfl⟩ hcs ?_
  refine e_flip rfl rfl hs ?_
  exact e_icmp_eq (tgt := 1111) C dL_law_1017 (by decide) (fun _ => k T _ _ hc.2) (fun q => absurd hc.1 q)
set_option maxHeartbeats 4000000 in
set_option maxRecDepth 100000 in
theorem law_sign {κ : zK} {l : Launch} {D : va_G} {kc : Nat → ClassId} {adx adm : Nat → Nat} {bc ns b L B : Nat} {xs : Nat → Int32} (C : zCX κ l (wX D kc adx 216) cL_law RL room_1 4 B) (CM : zCX κ l (wM D kc adm) cL_law RL room_1 4 B) (LW : zLw κ b L xs) (hcs : bc ≤ 600000 ∧ ns ≤ 7302250) {T i : Nat} {σ τ : zSt} (hi : i + 5 ≤ L) (hL : L ≤ 2560) (hG : GI T σ τ) (k : ∀ (T' : Nat) (σ' τ' : zSt), GI T' σ' τ' → zJX κ (wX D kc adx 216) (zl (wM D kc adm) τ') bc ns 1111 (zlof [(0, .ref b), (1, .ref (adx 215)), (2, .ref (adm 17)), (3, .int (nI i))]) [] σ') : zJX κ (wX D kc adx 216) (zl (wM D kc adm) τ) bc ns 1022 (zlof [(0, .ref b), (1, .ref (adx 215)), (2, .ref (adm 17)), (3, .int (nI i))]) [] σ := by
  have hc := c_sign (xs (i + 1)) (xs (i + 2)) hG
  refine e_aload_n C dL_law_1022 rfl rfl ?_
  refine e_aload_n C dL_law_1023 rfl rfl ?_
  refine e_iload_n C dL_law_1024 rfl rfl ?_
  refine e_iconst (v := nI 1) C dL_law_1025 (by decide +kernel) ?_
  refine e_iaddN C dL_law_1026 ?_
  refine e_sld C LW dL_law_1027 (show i + 1 < L by omega) hL ?_
  refine e_aload_n C dL_law_1028 rfl rfl ?_
  refine e_iload_n C dL_law_1029 rfl rfl ?_
  refine e_iconst (v := nI 2) C dL_law_1030 (by decide +kernel) ?_
  refine e_iaddN C dL_law_1031 ?_
  refine e_sld C LW dL_law_1032 (show i + 2 < L by omega) hL ?_
  refine e_callV1 (T := TX9) (N := 17) C dL_law_1033 (k_X9_sign l D kc adx 216 (by decide) (xs (i + 1)) (xs (i + 2)) T σ hG.2.2.2.2.2.1 hG.2.2.2.2.1) zy_X9_sign mw_38_15 rfl rfl (show 11 ≤ 215 by decide) (show 215 < 216 by decide) rfl rfl (Nat.le_of_ble_eq_true rfl) ⟨rfl, rfl, Nat.le_of_ble_eq_true rfl, Nat.le_of_ble_eq_true rfl⟩ hcs ?_
  refine e_static (fun hs => ?_)
  refine e_flip rfl rfl (stM D kc adm τ) ?_
  refine e_aload_n CM dL_law_1036 rfl rfl ?_
  refine e_aload_n CM dL_law_1037 rfl rfl ?_
  refine e_iload_n CM dL_law_1038 rfl rfl ?_
  refine e_iconst (v := nI 1) CM dL_law_1039 (by decide +kernel) ?_
  refine e_iaddN CM dL_law_1040 ?_
  refine e_sld CM LW dL_law_1041 (show i + 1 < L by omega) hL ?_
  refine e_aload_n CM dL_law_1042 rfl rfl ?_
  refine e_iload_n CM dL_law_1043 rfl rfl ?_
  refine e_iconst (v := nI 2) CM dL_law_1044 (by decide +kernel) ?_
  refine e_iaddN CM dL_law_1045 ?_
  refine e_sld CM LW dL_law_1046 (show i + 2 < L by omega) hL ?_
  refine e_callV1 (T := TX10) (N := 23) CM dL_law_1047 (k_X10_sign l D kc adm (xs (i + 1)) (xs (i + 2)) T τ hG.h5 hG.2.2.2.2.2.2.1 hG.2.2.2.2.1) zy_X10_sign mw_39_6 rfl rfl (Nat.zero_le _) (show 17 < 18 by decide) rfl rfl (Nat.le_of_ble_eq_true rfl) ⟨rfl, rfl, Nat.le_of_ble_eq_true rfl, Nat.le_of_ble_eq_true rfl⟩ hcs ?_
  refine e_flip rfl rfl hs ?_
  exact e_icmp_eq (tgt := 1111) C dL_law_1050 (by decide) (fun _ => k T _ _ hc.2) (fun q => absurd hc.1 q)
set_option maxHeartbeats 4000000 in
set_option maxRecDepth 100000 in
theorem law_judge {κ : zK} {l : Launch} {D : va_G} {kc : Nat → ClassId} {adx adm : Nat → Nat} {bc ns b L B : Nat} {xs : Nat → Int32} (C : zCX κ l (wX D kc adx 216) cL_law RL room_1 4 B) (CM : zCX κ l (wM D kc adm) cL_law RL room_1 4 B) (LW : zLw κ b L xs) (hcs : bc ≤ 600000 ∧ ns ≤ 7302250) {T i : Nat} {σ τ : zSt} (hi : i + 5 ≤ L) (hL : L ≤ 2560) (hG : GI T σ τ) (k : ∀ (T' : Nat) (σ' τ' : zSt), GI T' σ' τ' → zJX κ (wX D kc adx 216) (zl (wM D kc adm) τ') bc ns 1111 (zlof [(0, .ref b), (1, .ref (adx 215)), (2, .ref (adm 17)), (3, .int (nI i))]) [] σ') : zJX κ (wX D kc adx 216) (zl (wM D kc adm) τ) bc ns 1055 (zlof [(0, .ref b), (1, .ref (adx 215)), (2, .ref (adm 17)), (3, .int (nI i))]) [] σ := by
  have hc := c_judge (xs (i + 1)) (xs (i + 2)) hG
  refine e_aload_n C dL_law_1055 rfl rfl ?_
  refine e_aload_n C dL_law_1056 rfl rfl ?_
  refine e_iload_n C dL_law_1057 rfl rfl ?_
  refine e_iconst (v := nI 1) C dL_law_1058 (by decide +kernel) ?_
  refine e_iaddN C dL_law_1059 ?_
  refine e_sld C LW dL_law_1060 (show i + 1 < L by omega) hL ?_
  refine e_aload_n C dL_law_1061 rfl rfl ?_
  refine e_iload_n C dL_law_1062 rfl rfl ?_
  refine e_iconst (v := nI 2) C dL_law_1063 (by decide +kernel) ?_
  refine e_iaddN C dL_law_1064 ?_
  refine e_sld C LW dL_law_1065 (show i + 2 < L by omega) hL ?_
  refine e_callV1 (T := TX9) (N := 17) C dL_law_1066 (k_X9_judge l D kc adx 216 (by decide) (xs (i + 1)) (xs (i + 2)) T σ hG.2.2.2.2.2.1 hG.2.2.2.2.1) zy_X9_judge mw_39_15 rfl rfl (show 11 ≤ 215 by decide) (show 215 < 216 by decide) rfl rfl (Nat.le_of_ble_eq_true rfl) ⟨rfl, rfl, Nat.le_of_ble_eq_true rfl, Nat.le_of_ble_eq_true rfl⟩ hcs ?_
  refine e_static (fun hs => ?_)
  refine e_flip rfl rfl (stM D kc adm τ) ?_
  refine e_aload_n CM dL_law_1069 rfl rfl ?_
  refine e_aload_n CM dL_law_1070 rfl rfl ?_
  refine e_iload_n CM dL_law_1071 rfl rfl ?_
  refine e_iconst (v := nI 1) CM dL_law_1072 (by decide +kernel) ?_
  refine e_iaddN CM dL_law_1073 ?_
  refine e_sld CM LW dL_law_1074 (show i + 1 < L by omega) hL ?_
  refine e_aload_n CM dL_law_1075 rfl rfl ?_
  refine e_iload_n CM dL_law_1076 rfl rfl ?_
  refine e_iconst (v := nI 2) CM dL_law_1077 (by decide +kernel) ?_
  refine e_iaddN CM dL_law_1078 ?_
  refine e_sld CM LW dL_law_1079 (show i + 2 < L by omega) hL ?_
  refine e_callV1 (T := TX10) (N := 23) CM dL_law_1080 (k_X10_judge l D kc adm (xs (i + 1)) (xs (i + 2)) T τ hG.h5 hG.2.2.2.2.2.2.1 hG.2.2.2.2.1) zy_X10_judge mw_40_5 rfl rfl (Nat.zero_le _) (show 17 < 18 by decide) rfl rfl (Nat.le_of_ble_eq_true rfl) ⟨rfl, rfl, Nat.le_of_ble_eq_true rfl, Nat.le_of_ble_eq_true rfl⟩ hcs ?_
  refine e_flip rfl rfl hs ?_
  exact e_icmp_eq (tgt := 1111) C dL_law_1083 (by decide) (fun _ => k T _ _ hc.2) (fun q => absurd hc.1 q)
set_option maxHeartbeats 4000000 in
set_option maxRecDepth 100000 in
theorem law_count {κ : zK} {l : Launch} {D : va_G} {kc : Nat → ClassId} {adx adm : Nat → Nat} {bc ns b L B : Nat} {xs : Nat → Int32} (C : zCX κ l (wX D kc adx 216) cL_law RL room_1 4 B) (CM : zCX κ l (wM D kc adm) cL_law RL room_1 4 B) (LW : zLw κ b L xs) (hcs : bc ≤ 600000 ∧ ns ≤ 7302250) {T i : Nat} {σ τ : zSt} (hi : i + 5 ≤ L) (hL : L ≤ 2560) (hG : GI T σ τ) (k : ∀ (T' : Nat) (σ' τ' : zSt), GI T' σ' τ' → zJX κ (wX D kc adx 216) (zl (wM D kc adm) τ') bc ns 1111 (zlof [(0, .ref b), (1, .ref (adx 215)), (2, .ref (adm 17)), (3, .int (nI i))]) [] σ') : zJX κ (wX D kc adx 216) (zl (wM D kc adm) τ) bc ns 1088 (zlof [(0, .ref b), (1, .ref (adx 215)), (2, .ref (adm 17)), (3, .int (nI i))]) [] σ := by
  have hc := c_count (xs (i + 1)) hG
  refine e_aload_n C dL_law_1088 rfl rfl ?_
  refine e_aload_n C dL_law_1089 rfl rfl ?_
  refine e_iload_n C dL_law_1090 rfl rfl ?_
  refine e_iconst (v := nI 1) C dL_law_1091 (by decide +kernel) ?_
  refine e_iaddN C dL_law_1092 ?_
  refine e_sld C LW dL_law_1093 (show i + 1 < L by omega) hL ?_
  refine e_callV1 (T := TX9) (N := 17) C dL_law_1094 (k_X9_count l D kc adx 216 (by decide) (xs (i + 1)) σ) zy_X9_count mw_40_19 rfl rfl (show 11 ≤ 215 by decide) (show 215 < 216 by decide) rfl rfl (Nat.le_of_ble_eq_true rfl) ⟨rfl, rfl, Nat.le_of_ble_eq_true rfl, Nat.le_of_ble_eq_true rfl⟩ hcs ?_
  refine e_static (fun hs => ?_)
  refine e_flip rfl rfl (stM D kc adm τ) ?_
  refine e_aload_n CM dL_law_1097 rfl rfl ?_
  refine e_aload_n CM dL_law_1098 rfl rfl ?_
  refine e_iload_n CM dL_law_1099 rfl rfl ?_
  refine e_iconst (v := nI 1) CM dL_law_1100 (by decide +kernel) ?_
  refine e_iaddN CM dL_law_1101 ?_
  refine e_sld CM LW dL_law_1102 (show i + 1 < L by omega) hL ?_
  refine e_callV1 (T := TX10) (N := 23) CM dL_law_1103 (k_X10_count l D kc adm (xs (i + 1)) τ) zy_X10_count mw_40_23 rfl rfl (Nat.zero_le _) (show 17 < 18 by decide) rfl rfl (Nat.le_of_ble_eq_true rfl) ⟨rfl, rfl, Nat.le_of_ble_eq_true rfl, Nat.le_of_ble_eq_true rfl⟩ hcs ?_
  refine e_flip rfl rfl hs ?_
  exact e_icmp_eq (tgt := 1111) C dL_law_1106 (by decide) (fun _ => k T _ _ hG) (fun q => absurd hc q)
