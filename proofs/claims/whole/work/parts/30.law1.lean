set_option maxHeartbeats 4000000 in
set_option maxRecDepth 100000 in
theorem law_c0 {D : va_G} {z : cj_Zc} {ad bd : cj_Ad} {X : cj_X} {b L cs ss : Nat} {xs : Nat → Int32} {μ ν : cj_Mm} (C : cj_LC D z ad bd X b L xs cs ss) {x3 r : Int32} {μ2 : cj_Mm} {σ2 : cj_S} (h1 : vp_in (x3 + 1) L) (h2 : vp_in (x3 + 2) L) (hL : f_X8_person μ (xs (x3 + 1).toNatClampNeg) (xs (x3 + 2).toNatClampNeg) = some (r, μ2)) (hM : f_X9_person (ν 0) (xs (x3 + 1).toNatClampNeg) (xs (x3 + 2).toNatClampNeg) = some (r, σ2)) (kk : cj_LG D z ad bd X b cs ss μ2 (cj_upG ν 0 σ2) 857 [(0, .ref b), (1, .ref (ad 0 0)), (2, .ref (bd 0 0)), (3, .int x3)] []) : cj_LG D z ad bd X b cs ss μ ν 156 [(0, .ref b), (1, .ref (ad 0 0)), (2, .ref (bd 0 0)), (3, .int x3)] [] := by
  have hI := C.2.2.2.2.2.2.1
  have hJ := C.2.2.2.2.2.2.2.1
  refine cjl_aload_n C dL_law_156 rfl 1 rfl ?_
  refine cjl_aload_n C dL_law_157 rfl 0 rfl ?_
  refine cjl_iload_n C dL_law_158 rfl 3 rfl ?_
  refine cjl_iconst C 1 dL_law_159 rfl ?_
  refine cjl_iadd C dL_law_160 ?_
  refine cjl_sld C h1 dL_law_161 ?_
  refine cjl_aload_n C dL_law_162 rfl 0 rfl ?_
  refine cjl_iload_n C dL_law_163 rfl 3 rfl ?_
  refine cjl_iconst C 2 dL_law_164 rfl ?_
  refine cjl_iadd C dL_law_165 ?_
  refine cjl_sld C h2 dL_law_166 ?_
  refine cjl_callL (As := [.int (xs (x3 + 1).toNatClampNeg), .int (xs (x3 + 2).toNatClampNeg)]) (rest := []) C cw_X8_person (ct_X8_person hI hL) cjq_316 cjq_317 cjq_315 (e0_0 (z := z) (ad := ad)) rfl rfl rfl ⟨Nat.le_of_ble_eq_true rfl, Nat.le_of_ble_eq_true rfl⟩ (Nat.le_of_ble_eq_true rfl) dL_law_167 ?_
  refine cjl_aload_n C dL_law_170 rfl 2 rfl ?_
  refine cjl_aload_n C dL_law_171 rfl 0 rfl ?_
  refine cjl_iload_n C dL_law_172 rfl 3 rfl ?_
  refine cjl_iconst C 1 dL_law_173 rfl ?_
  refine cjl_iadd C dL_law_174 ?_
  refine cjl_sld C h1 dL_law_175 ?_
  refine cjl_aload_n C dL_law_176 rfl 0 rfl ?_
  refine cjl_iload_n C dL_law_177 rfl 3 rfl ?_
  refine cjl_iconst C 2 dL_law_178 rfl ?_
  refine cjl_iadd C dL_law_179 ?_
  refine cjl_sld C h2 dL_law_180 ?_
  refine cjl_callM (As := [.int (xs (x3 + 1).toNatClampNeg), .int (xs (x3 + 2).toNatClampNeg)]) (rest := [.int r]) C cw_X9_person (ct_X9_person hJ hM) cjq_767 cjq_768 cjq_766 (eM_0 (z := z) (ad := bd)) rfl rfl rfl ⟨Nat.le_of_ble_eq_true rfl, Nat.le_of_ble_eq_true rfl⟩ (Nat.le_of_ble_eq_true rfl) dL_law_181 ?_
  refine cjl_eq C 857 dL_law_184 rfl ?_
  exact kk
set_option maxHeartbeats 4000000 in
set_option maxRecDepth 100000 in
theorem law_c1 {D : va_G} {z : cj_Zc} {ad bd : cj_Ad} {X : cj_X} {b L cs ss : Nat} {xs : Nat → Int32} {μ ν : cj_Mm} (C : cj_LC D z ad bd X b L xs cs ss) {x3 r : Int32} {μ2 : cj_Mm} {σ2 : cj_S} (h1 : vp_in (x3 + 1) L) (h2 : vp_in (x3 + 2) L) (h3 : vp_in (x3 + 3) L) (hL : f_X8_turn μ (xs (x3 + 1).toNatClampNeg) (xs (x3 + 2).toNatClampNeg) (xs (x3 + 3).toNatClampNeg) = some (r, μ2)) (hM : f_X9_turn (ν 0) (xs (x3 + 1).toNatClampNeg) (xs (x3 + 2).toNatClampNeg) (xs (x3 + 3).toNatClampNeg) = some (r, σ2)) (kk : cj_LG D z ad bd X b cs ss μ2 (cj_upG ν 0 σ2) 857 [(0, .ref b), (1, .ref (ad 0 0)), (2, .ref (bd 0 0)), (3, .int x3)] []) : cj_LG D z ad bd X b cs ss μ ν 189 [(0, .ref b), (1, .ref (ad 0 0)), (2, .ref (bd 0 0)), (3, .int x3)] [] := by
  have hI := C.2.2.2.2.2.2.1
  have hJ := C.2.2.2.2.2.2.2.1
  refine cjl_aload_n C dL_law_189 rfl 1 rfl ?_
  refine cjl_aload_n C dL_law_190 rfl 0 rfl ?_
  refine cjl_iload_n C dL_law_191 rfl 3 rfl ?_
  refine cjl_iconst C 1 dL_law_192 rfl ?_
  refine cjl_iadd C dL_law_193 ?_
  refine cjl_sld C h1 dL_law_194 ?_
  refine cjl_aload_n C dL_law_195 rfl 0 rfl ?_
  refine cjl_iload_n C dL_law_196 rfl 3 rfl ?_
  refine cjl_iconst C 2 dL_law_197 rfl ?_
  refine cjl_iadd C dL_law_198 ?_
  refine cjl_sld C h2 dL_law_199 ?_
  refine cjl_aload_n C dL_law_200 rfl 0 rfl ?_
  refine cjl_iload_n C dL_law_201 rfl 3 rfl ?_
  refine cjl_iconst C 3 dL_law_202 rfl ?_
  refine cjl_iadd C dL_law_203 ?_
  refine cjl_sld C h3 dL_law_204 ?_
  refine cjl_callL (As := [.int (xs (x3 + 1).toNatClampNeg), .int (xs (x3 + 2).toNatClampNeg), .int (xs (x3 + 3).toNatClampNeg)]) (rest := []) C cw_X8_turn (ct_X8_turn hI hL) cjq_369 cjq_370 cjq_368 (e0_0 (z := z) (ad := ad)) rfl rfl rfl ⟨Nat.le_of_ble_eq_true rfl, Nat.le_of_ble_eq_true rfl⟩ (Nat.le_of_ble_eq_true rfl) dL_law_205 ?_
  refine cjl_aload_n C dL_law_208 rfl 2 rfl ?_
  refine cjl_aload_n C dL_law_209 rfl 0 rfl ?_
  refine cjl_iload_n C dL_law_210 rfl 3 rfl ?_
  refine cjl_iconst C 1 dL_law_211 rfl ?_
  refine cjl_iadd C dL_law_212 ?_
  refine cjl_sld C h1 dL_law_213 ?_
  refine cjl_aload_n C dL_law_214 rfl 0 rfl ?_
  refine cjl_iload_n C dL_law_215 rfl 3 rfl ?_
  refine cjl_iconst C 2 dL_law_216 rfl ?_
  refine cjl_iadd C dL_law_217 ?_
  refine cjl_sld C h2 dL_law_218 ?_
  refine cjl_aload_n C dL_law_219 rfl 0 rfl ?_
  refine cjl_iload_n C dL_law_220 rfl 3 rfl ?_
  refine cjl_iconst C 3 dL_law_221 rfl ?_
  refine cjl_iadd C dL_law_222 ?_
  refine cjl_sld C h3 dL_law_223 ?_
  refine cjl_callM (As := [.int (xs (x3 + 1).toNatClampNeg), .int (xs (x3 + 2).toNatClampNeg), .int (xs (x3 + 3).toNatClampNeg)]) (rest := [.int r]) C cw_X9_turn (ct_X9_turn hJ hM) cjq_789 cjq_790 cjq_788 (eM_0 (z := z) (ad := bd)) rfl rfl rfl ⟨Nat.le_of_ble_eq_true rfl, Nat.le_of_ble_eq_true rfl⟩ (Nat.le_of_ble_eq_true rfl) dL_law_224 ?_
  refine cjl_eq C 857 dL_law_227 rfl ?_
  exact kk
set_option maxHeartbeats 4000000 in
set_option maxRecDepth 100000 in
theorem law_c2 {D : va_G} {z : cj_Zc} {ad bd : cj_Ad} {X : cj_X} {b L cs ss : Nat} {xs : Nat → Int32} {μ ν : cj_Mm} (C : cj_LC D z ad bd X b L xs cs ss) {x3 r : Int32} {μ2 : cj_Mm} {σ2 : cj_S} (h1 : vp_in (x3 + 1) L) (h2 : vp_in (x3 + 2) L) (hL : f_X8_paper μ (xs (x3 + 1).toNatClampNeg) (xs (x3 + 2).toNatClampNeg) = some (r, μ2)) (hM : f_X9_paper (ν 0) (xs (x3 + 1).toNatClampNeg) (xs (x3 + 2).toNatClampNeg) = some (r, σ2)) (kk : cj_LG D z ad bd X b cs ss μ2 (cj_upG ν 0 σ2) 857 [(0, .ref b), (1, .ref (ad 0 0)), (2, .ref (bd 0 0)), (3, .int x3)] []) : cj_LG D z ad bd X b cs ss μ ν 232 [(0, .ref b), (1, .ref (ad 0 0)), (2, .ref (bd 0 0)), (3, .int x3)] [] := by
  have hI := C.2.2.2.2.2.2.1
  have hJ := C.2.2.2.2.2.2.2.1
  refine cjl_aload_n C dL_law_232 rfl 1 rfl ?_
  refine cjl_aload_n C dL_law_233 rfl 0 rfl ?_
  refine cjl_iload_n C dL_law_234 rfl 3 rfl ?_
  refine cjl_iconst C 1 dL_law_235 rfl ?_
  refine cjl_iadd C dL_law_236 ?_
  refine cjl_sld C h1 dL_law_237 ?_
  refine cjl_aload_n C dL_law_238 rfl 0 rfl ?_
  refine cjl_iload_n C dL_law_239 rfl 3 rfl ?_
  refine cjl_iconst C 2 dL_law_240 rfl ?_
  refine cjl_iadd C dL_law_241 ?_
  refine cjl_sld C h2 dL_law_242 ?_
  refine cjl_callL (As := [.int (xs (x3 + 1).toNatClampNeg), .int (xs (x3 + 2).toNatClampNeg)]) (rest := []) C cw_X8_paper (ct_X8_paper hI hL) cjq_396 cjq_397 cjq_395 (e0_0 (z := z) (ad := ad)) rfl rfl rfl ⟨Nat.le_of_ble_eq_true rfl, Nat.le_of_ble_eq_true rfl⟩ (Nat.le_of_ble_eq_true rfl) dL_law_243 ?_
  refine cjl_aload_n C dL_law_246 rfl 2 rfl ?_
  refine cjl_aload_n C dL_law_247 rfl 0 rfl ?_
  refine cjl_iload_n C dL_law_248 rfl 3 rfl ?_
  refine cjl_iconst C 1 dL_law_249 rfl ?_
  refine cjl_iadd C dL_law_250 ?_
  refine cjl_sld C h1 dL_law_251 ?_
  refine cjl_aload_n C dL_law_252 rfl 0 rfl ?_
  refine cjl_iload_n C dL_law_253 rfl 3 rfl ?_
  refine cjl_iconst C 2 dL_law_254 rfl ?_
  refine cjl_iadd C dL_law_255 ?_
  refine cjl_sld C h2 dL_law_256 ?_
  refine cjl_callM (As := [.int (xs (x3 + 1).toNatClampNeg), .int (xs (x3 + 2).toNatClampNeg)]) (rest := [.int r]) C cw_X9_paper (ct_X9_paper hJ hM) cjq_809 cjq_810 cjq_808 (eM_0 (z := z) (ad := bd)) rfl rfl rfl ⟨Nat.le_of_ble_eq_true rfl, Nat.le_of_ble_eq_true rfl⟩ (Nat.le_of_ble_eq_true rfl) dL_law_257 ?_
  refine cjl_eq C 857 dL_law_260 rfl ?_
  exact kk
set_option maxHeartbeats 4000000 in
set_option maxRecDepth 100000 in
theorem law_c3 {D : va_G} {z : cj_Zc} {ad bd : cj_Ad} {X : cj_X} {b L cs ss : Nat} {xs : Nat → Int32} {μ ν : cj_Mm} (C : cj_LC D z ad bd X b L xs cs ss) {x3 r : Int32} {μ2 : cj_Mm} {σ2 : cj_S} (h1 : vp_in (x3 + 1) L) (hL : f_X8_look μ (xs (x3 + 1).toNatClampNeg) = some (r, μ2)) (hM : f_X9_look (ν 0) (xs (x3 + 1).toNatClampNeg) = some (r, σ2)) (kk : cj_LG D z ad bd X b cs ss μ2 (cj_upG ν 0 σ2) 857 [(0, .ref b), (1, .ref (ad 0 0)), (2, .ref (bd 0 0)), (3, .int x3)] []) : cj_LG D z ad bd X b cs ss μ ν 265 [(0, .ref b), (1, .ref (ad 0 0)), (2, .ref (bd 0 0)), (3, .int x3)] [] := by
  have hI := C.2.2.2.2.2.2.1
  have hJ := C.2.2.2.2.2.2.2.1
  refine cjl_aload_n C dL_law_265 rfl 1 rfl ?_
  refine cjl_aload_n C dL_law_266 rfl 0 rfl ?_
  refine cjl_iload_n C dL_law_267 rfl 3 rfl ?_
  refine cjl_iconst C 1 dL_law_268 rfl ?_
  refine cjl_iadd C dL_law_269 ?_
  refine cjl_sld C h1 dL_law_270 ?_
  refine cjl_callL (As := [.int (xs (x3 + 1).toNatClampNeg)]) (rest := []) C cw_X8_look (ct_X8_look hI hL) cjq_404 cjq_405 cjq_403 (e0_0 (z := z) (ad := ad)) rfl rfl rfl ⟨Nat.le_of_ble_eq_true rfl, Nat.le_of_ble_eq_true rfl⟩ (Nat.le_of_ble_eq_true rfl) dL_law_271 ?_
  refine cjl_aload_n C dL_law_274 rfl 2 rfl ?_
  refine cjl_aload_n C dL_law_275 rfl 0 rfl ?_
  refine cjl_iload_n C dL_law_276 rfl 3 rfl ?_
  refine cjl_iconst C 1 dL_law_277 rfl ?_
  refine cjl_iadd C dL_law_278 ?_
  refine cjl_sld C h1 dL_law_279 ?_
  refine cjl_callM (As := [.int (xs (x3 + 1).toNatClampNeg)]) (rest := [.int r]) C cw_X9_look (ct_X9_look hJ hM) cjq_813 cjq_814 cjq_812 (eM_0 (z := z) (ad := bd)) rfl rfl rfl ⟨Nat.le_of_ble_eq_true rfl, Nat.le_of_ble_eq_true rfl⟩ (Nat.le_of_ble_eq_true rfl) dL_law_280 ?_
  refine cjl_eq C 857 dL_law_283 rfl ?_
  exact kk
set_option maxHeartbeats 4000000 in
set_option maxRecDepth 100000 in
theorem law_c4 {D : va_G} {z : cj_Zc} {ad bd : cj_Ad} {X : cj_X} {b L cs ss : Nat} {xs : Nat → Int32} {μ ν : cj_Mm} (C : cj_LC D z ad bd X b L xs cs ss) {x3 r : Int32} {μ2 : cj_Mm} {σ2 : cj_S} (h1 : vp_in (x3 + 1) L) (hL : f_X8_sheet μ (xs (x3 + 1).toNatClampNeg) = some (r, μ2)) (hM : f_X9_sheet (ν 0) (xs (x3 + 1).toNatClampNeg) = some (r, σ2)) (kk : cj_LG D z ad bd X b cs ss μ2 (cj_upG ν 0 σ2) 857 [(0, .ref b), (1, .ref (ad 0 0)), (2, .ref (bd 0 0)), (3, .int x3)] []) : cj_LG D z ad bd X b cs ss μ ν 288 [(0, .ref b), (1, .ref (ad 0 0)), (2, .ref (bd 0 0)), (3, .int x3)] [] := by
  have hI := C.2.2.2.2.2.2.1
  have hJ := C.2.2.2.2.2.2.2.1
  refine cjl_aload_n C dL_law_288 rfl 1 rfl ?_
  refine cjl_aload_n C dL_law_289 rfl 0 rfl ?_
  refine cjl_iload_n C dL_law_290 rfl 3 rfl ?_
  refine cjl_iconst C 1 dL_law_291 rfl ?_
  refine cjl_iadd C dL_law_292 ?_
  refine cjl_sld C h1 dL_law_293 ?_
  refine cjl_callL (As := [.int (xs (x3 + 1).toNatClampNeg)]) (rest := []) C cw_X8_sheet (ct_X8_sheet hI hL) cjq_412 cjq_413 cjq_411 (e0_0 (z := z) (ad := ad)) rfl rfl rfl ⟨Nat.le_of_ble_eq_true rfl, Nat.le_of_ble_eq_true rfl⟩ (Nat.le_of_ble_eq_true rfl) dL_law_294 ?_
  refine cjl_aload_n C dL_law_297 rfl 2 rfl ?_
  refine cjl_aload_n C dL_law_298 rfl 0 rfl ?_
  refine cjl_iload_n C dL_law_299 rfl 3 rfl ?_
  refine cjl_iconst C 1 dL_law_300 rfl ?_
  refine cjl_iadd C dL_law_301 ?_
  refine cjl_sld C h1 dL_law_302 ?_
  refine cjl_callM (As := [.int (xs (x3 + 1).toNatClampNeg)]) (rest := [.int r]) C cw_X9_sheet (ct_X9_sheet hJ hM) cjq_817 cjq_818 cjq_816 (eM_0 (z := z) (ad := bd)) rfl rfl rfl ⟨Nat.le_of_ble_eq_true rfl, Nat.le_of_ble_eq_true rfl⟩ (Nat.le_of_ble_eq_true rfl) dL_law_303 ?_
  refine cjl_eq C 857 dL_law_306 rfl ?_
  exact kk
set_option maxHeartbeats 4000000 in
set_option maxRecDepth 100000 in
theorem law_c5 {D : va_G} {z : cj_Zc} {ad bd : cj_Ad} {X : cj_X} {b L cs ss : Nat} {xs : Nat → Int32} {μ ν : cj_Mm} (C : cj_LC D z ad bd X b L xs cs ss) {x3 r : Int32} {μ2 : cj_Mm} {σ2 : cj_S} (h1 : vp_in (x3 + 1) L) (h2 : vp_in (x3 + 2) L) (hL : f_X8_draw μ (xs (x3 + 1).toNatClampNeg) (xs (x3 + 2).toNatClampNeg) = some (r, μ2)) (hM : f_X9_draw (ν 0) (xs (x3 + 1).toNatClampNeg) (xs (x3 + 2).toNatClampNeg) = some (r, σ2)) (kk : cj_LG D z ad bd X b cs ss μ2 (cj_upG ν 0 σ2) 857 [(0, .ref b), (1, .ref (ad 0 0)), (2, .ref (bd 0 0)), (3, .int x3)] []) : cj_LG D z ad bd X b cs ss μ ν 311 [(0, .ref b), (1, .ref (ad 0 0)), (2, .ref (bd 0 0)), (3, .int x3)] [] := by
  have hI := C.2.2.2.2.2.2.1
  have hJ := C.2.2.2.2.2.2.2.1
  refine cjl_aload_n C dL_law_311 rfl 1 rfl ?_
  refine cjl_aload_n C dL_law_312 rfl 0 rfl ?_
  refine cjl_iload_n C dL_law_313 rfl 3 rfl ?_
  refine cjl_iconst C 1 dL_law_314 rfl ?_
  refine cjl_iadd C dL_law_315 ?_
  refine cjl_sld C h1 dL_law_316 ?_
  refine cjl_aload_n C dL_law_317 rfl 0 rfl ?_
  refine cjl_iload_n C dL_law_318 rfl 3 rfl ?_
  refine cjl_iconst C 2 dL_law_319 rfl ?_
  refine cjl_iadd C dL_law_320 ?_
  refine cjl_sld C h2 dL_law_321 ?_
  refine cjl_callL (As := [.int (xs (x3 + 1).toNatClampNeg), .int (xs (x3 + 2).toNatClampNeg)]) (rest := []) C cw_X8_draw (ct_X8_draw hI hL) cjq_424 cjq_425 cjq_423 (e0_0 (z := z) (ad := ad)) rfl rfl rfl ⟨Nat.le_of_ble_eq_true rfl, Nat.le_of_ble_eq_true rfl⟩ (Nat.le_of_ble_eq_true rfl) dL_law_322 ?_
  refine cjl_aload_n C dL_law_325 rfl 2 rfl ?_
  refine cjl_aload_n C dL_law_326 rfl 0 rfl ?_
  refine cjl_iload_n C dL_law_327 rfl 3 rfl ?_
  refine cjl_iconst C 1 dL_law_328 rfl ?_
  refine cjl_iadd C dL_law_329 ?_
  refine cjl_sld C h1 dL_law_330 ?_
  refine cjl_aload_n C dL_law_331 rfl 0 rfl ?_
  refine cjl_iload_n C dL_law_332 rfl 3 rfl ?_
  refine cjl_iconst C 2 dL_law_333 rfl ?_
  refine cjl_iadd C dL_law_334 ?_
  refine cjl_sld C h2 dL_law_335 ?_
  refine cjl_callM (As := [.int (xs (x3 + 1).toNatClampNeg), .int (xs (x3 + 2).toNatClampNeg)]) (rest := [.int r]) C cw_X9_draw (ct_X9_draw hJ hM) cjq_821 cjq_822 cjq_820 (eM_0 (z := z) (ad := bd)) rfl rfl rfl ⟨Nat.le_of_ble_eq_true rfl, Nat.le_of_ble_eq_true rfl⟩ (Nat.le_of_ble_eq_true rfl) dL_law_336 ?_
  refine cjl_eq C 857 dL_law_339 rfl ?_
  exact kk
set_option maxHeartbeats 4000000 in
set_option maxRecDepth 100000 in
theorem law_c6 {D : va_G} {z : cj_Zc} {ad bd : cj_Ad} {X : cj_X} {b L cs ss : Nat} {xs : Nat → Int32} {μ ν : cj_Mm} (C : cj_LC D z ad bd X b L xs cs ss) {x3 r : Int32} {μ2 : cj_Mm} {σ2 : cj_S} (h1 : vp_in (x3 + 1) L) (hL : f_X8_tear μ (xs (x3 + 1).toNatClampNeg) = some (r, μ2)) (hM : f_X9_tear (ν 0) (xs (x3 + 1).toNatClampNeg) = some (r, σ2)) (kk : cj_LG D z ad bd X b cs ss μ2 (cj_upG ν 0 σ2) 857 [(0, .ref b), (1, .ref (ad 0 0)), (2, .ref (bd 0 0)), (3, .int x3)] []) : cj_LG D z ad bd X b cs ss μ ν 344 [(0, .ref b), (1, .ref (ad 0 0)), (2, .ref (bd 0 0)), (3, .int x3)] [] := by
  have hI := C.2.2.2.2.2.2.1
  have hJ := C.2.2.2.2.2.2.2.1
  refine cjl_aload_n C dL_law_344 rfl 1 rfl ?_
  refine cjl_aload_n C dL_law_345 rfl 0 rfl ?_
  refine cjl_iload_n C dL_law_346 rfl 3 rfl ?_
  refine cjl_iconst C 1 dL_law_347 rfl ?_
  refine cjl_iadd C dL_law_348 ?_
  refine cjl_sld C h1 dL_law_349 ?_
  refine cjl_callL (As := [.int (xs (x3 + 1).toNatClampNeg)]) (rest := []) C cw_X8_tear (ct_X8_tear hI hL) cjq_460 cjq_461 cjq_459 (e0_0 (z := z) (ad := ad)) rfl rfl rfl ⟨Nat.le_of_ble_eq_true rfl, Nat.le_of_ble_eq_true rfl⟩ (Nat.le_of_ble_eq_true rfl) dL_law_350 ?_
  refine cjl_aload_n C dL_law_353 rfl 2 rfl ?_
  refine cjl_aload_n C dL_law_354 rfl 0 rfl ?_
  refine cjl_iload_n C dL_law_355 rfl 3 rfl ?_
  refine cjl_iconst C 1 dL_law_356 rfl ?_
  refine cjl_iadd C dL_law_357 ?_
  refine cjl_sld C h1 dL_law_358 ?_
  refine cjl_callM (As := [.int (xs (x3 + 1).toNatClampNeg)]) (rest := [.int r]) C cw_X9_tear (ct_X9_tear hJ hM) cjq_845 cjq_846 cjq_844 (eM_0 (z := z) (ad := bd)) rfl rfl rfl ⟨Nat.le_of_ble_eq_true rfl, Nat.le_of_ble_eq_true rfl⟩ (Nat.le_of_ble_eq_true rfl) dL_law_359 ?_
  refine cjl_eq C 857 dL_law_362 rfl ?_
  exact kk
set_option maxHeartbeats 4000000 in
set_option maxRecDepth 100000 in
theorem law_c7 {D : va_G} {z : cj_Zc} {ad bd : cj_Ad} {X : cj_X} {b L cs ss : Nat} {xs : Nat → Int32} {μ ν : cj_Mm} (C : cj_LC D z ad bd X b L xs cs ss) {x3 r : Int32} {μ2 : cj_Mm} {σ2 : cj_S} (h1 : vp_in (x3 + 1) L) (hL : f_X8_verdict μ (xs (x3 + 1).toNatClampNeg) = some (r, μ2)) (hM : f_X9_verdict (ν 0) (xs (x3 + 1).toNatClampNeg) = some (r, σ2)) (kk : cj_LG D z ad bd X b cs ss μ2 (cj_upG ν 0 σ2) 857 [(0, .ref b), (1, .ref (ad 0 0)), (2, .ref (bd 0 0)), (3, .int x3)] []) : cj_LG D z ad bd X b cs ss μ ν 367 [(0, .ref b), (1, .ref (ad 0 0)), (2, .ref (bd 0 0)), (3, .int x3)] [] := by
  have hI := C.2.2.2.2.2.2.1
  have hJ := C.2.2.2.2.2.2.2.1
  refine cjl_aload_n C dL_law_367 rfl 1 rfl ?_
  refine cjl_aload_n C dL_law_368 rfl 0 rfl ?_
  refine cjl_iload_n C dL_law_369 rfl 3 rfl ?_
  refine cjl_iconst C 1 dL_law_370 rfl ?_
  refine cjl_iadd C dL_law_371 ?_
  refine cjl_sld C h1 dL_law_372 ?_
  refine cjl_callL (As := [.int (xs (x3 + 1).toNatClampNeg)]) (rest := []) C cw_X8_verdict (ct_X8_verdict hI hL) cjq_472 cjq_473 cjq_471 (e0_0 (z := z) (ad := ad)) rfl rfl rfl ⟨Nat.le_of_ble_eq_true rfl, Nat.le_of_ble_eq_true rfl⟩ (Nat.le_of_ble_eq_true rfl) dL_law_373 ?_
  refine cjl_aload_n C dL_law_376 rfl 2 rfl ?_
  refine cjl_aload_n C dL_law_377 rfl 0 rfl ?_
  refine cjl_iload_n C dL_law_378 rfl 3 rfl ?_
  refine cjl_iconst C 1 dL_law_379 rfl ?_
  refine cjl_iadd C dL_law_380 ?_
  refine cjl_sld C h1 dL_law_381 ?_
  refine cjl_callM (As := [.int (xs (x3 + 1).toNatClampNeg)]) (rest := [.int r]) C cw_X9_verdict (ct_X9_verdict hJ hM) cjq_853 cjq_854 cjq_852 (eM_0 (z := z) (ad := bd)) rfl rfl rfl ⟨Nat.le_of_ble_eq_true rfl, Nat.le_of_ble_eq_true rfl⟩ (Nat.le_of_ble_eq_true rfl) dL_law_382 ?_
  refine cjl_eq C 857 dL_law_385 rfl ?_
  exact kk
set_option maxHeartbeats 4000000 in
set_option maxRecDepth 100000 in
theorem law_c8 {D : va_G} {z : cj_Zc} {ad bd : cj_Ad} {X : cj_X} {b L cs ss : Nat} {xs : Nat → Int32} {μ ν : cj_Mm} (C : cj_LC D z ad bd X b L xs cs ss) {x3 r : Int32} {μ2 : cj_Mm} {σ2 : cj_S} (h1 : vp_in (x3 + 1) L) (h2 : vp_in (x3 + 2) L) (hL : f_X8_sell μ (xs (x3 + 1).toNatClampNeg) (xs (x3 + 2).toNatClampNeg) = some (r, μ2)) (hM : f_X9_sell (ν 0) (xs (x3 + 1).toNatClampNeg) (xs (x3 + 2).toNatClampNeg) = some (r, σ2)) (kk : cj_LG D z ad bd X b cs ss μ2 (cj_upG ν 0 σ2) 857 [(0, .ref b), (1, .ref (ad 0 0)), (2, .ref (bd 0 0)), (3, .int x3)] []) : cj_LG D z ad bd X b cs ss μ ν 390 [(0, .ref b), (1, .ref (ad 0 0)), (2, .ref (bd 0 0)), (3, .int x3)] [] := by
  have hI := C.2.2.2.2.2.2.1
  have hJ := C.2.2.2.2.2.2.2.1
  refine cjl_aload_n C dL_law_390 rfl 1 rfl ?_
  refine cjl_aload_n C dL_law_391 rfl 0 rfl ?_
  refine cjl_iload_n C dL_law_392 rfl 3 rfl ?_
  refine cjl_iconst C 1 dL_law_393 rfl ?_
  refine cjl_iadd C dL_law_394 ?_
  refine cjl_sld C h1 dL_law_395 ?_
  refine cjl_aload_n C dL_law_396 rfl 0 rfl ?_
  refine cjl_iload_n C dL_law_397 rfl 3 rfl ?_
  refine cjl_iconst C 2 dL_law_398 rfl ?_
  refine cjl_iadd C dL_law_399 ?_
  refine cjl_sld C h2 dL_law_400 ?_
  refine cjl_callL (As := [.int (xs (x3 + 1).toNatClampNeg), .int (xs (x3 + 2).toNatClampNeg)]) (rest := []) C cw_X8_sell (ct_X8_sell hI hL) cjq_492 cjq_493 cjq_491 (e0_0 (z := z) (ad := ad)) rfl rfl rfl ⟨Nat.le_of_ble_eq_true rfl, Nat.le_of_ble_eq_true rfl⟩ (Nat.le_of_ble_eq_true rfl) dL_law_401 ?_
  refine cjl_aload_n C dL_law_404 rfl 2 rfl ?_
  refine cjl_aload_n C dL_law_405 rfl 0 rfl ?_
  refine cjl_iload_n C dL_law_406 rfl 3 rfl ?_
  refine cjl_iconst C 1 dL_law_407 rfl ?_
  refine cjl_iadd C dL_law_408 ?_
  refine cjl_sld C h1 dL_law_409 ?_
  refine cjl_aload_n C dL_law_410 rfl 0 rfl ?_
  refine cjl_iload_n C dL_law_411 rfl 3 rfl ?_
  refine cjl_iconst C 2 dL_law_412 rfl ?_
  refine cjl_iadd C dL_law_413 ?_
  refine cjl_sld C h2 dL_law_414 ?_
  refine cjl_callM (As := [.int (xs (x3 + 1).toNatClampNeg), .int (xs (x3 + 2).toNatClampNeg)]) (rest := [.int r]) C cw_X9_sell (ct_X9_sell hJ hM) cjq_869 cjq_870 cjq_868 (eM_0 (z := z) (ad := bd)) rfl rfl rfl ⟨Nat.le_of_ble_eq_true rfl, Nat.le_of_ble_eq_true rfl⟩ (Nat.le_of_ble_eq_true rfl) dL_law_415 ?_
  refine cjl_eq C 857 dL_law_418 rfl ?_
  exact kk
set_option maxHeartbeats 4000000 in
set_option maxRecDepth 100000 in
theorem law_c9 {D : va_G} {z : cj_Zc} {ad bd : cj_Ad} {X : cj_X} {b L cs ss : Nat} {xs : Nat → Int32} {μ ν : cj_Mm} (C : cj_LC D z ad bd X b L xs cs ss) {x3 r : Int32} {μ2 : cj_Mm} {σ2 : cj_S} (h1 : vp_in (x3 + 1) L) (hL : f_X8_pass μ (xs (x3 + 1).toNatClampNeg) = some (r, μ2)) (hM : f_X9_pass (ν 0) (xs (x3 + 1).toNatClampNeg) = some (r, σ2)) (kk : cj_LG D z ad bd X b cs ss μ2 (cj_upG ν 0 σ2) 857 [(0, .ref b), (1, .ref (ad 0 0)), (2, .ref (bd 0 0)), (3, .int x3)] []) : cj_LG D z ad bd X b cs ss μ ν 423 [(0, .ref b), (1, .ref (ad 0 0)), (2, .ref (bd 0 0)), (3, .int x3)] [] := by
  have hI := C.2.2.2.2.2.2.1
  have hJ := C.2.2.2.2.2.2.2.1
  refine cjl_aload_n C dL_law_423 rfl 1 rfl ?_
  refine cjl_aload_n C dL_law_424 rfl 0 rfl ?_
  refine cjl_iload_n C dL_law_425 rfl 3 rfl ?_
  refine cjl_iconst C 1 dL_law_426 rfl ?_
  refine cjl_iadd C dL_law_427 ?_
  refine cjl_sld C h1 dL_law_428 ?_
  refine cjl_callL (As := [.int (xs (x3 + 1).toNatClampNeg)]) (rest := []) C cw_X8_pass (ct_X8_pass hI hL) cjq_533 cjq_534 cjq_532 (e0_0 (z := z) (ad := ad)) rfl rfl rfl ⟨Nat.le_of_ble_eq_true rfl, Nat.le_of_ble_eq_true rfl⟩ (Nat.le_of_ble_eq_true rfl) dL_law_429 ?_
  refine cjl_aload_n C dL_law_432 rfl 2 rfl ?_
  refine cjl_aload_n C dL_law_433 rfl 0 rfl ?_
  refine cjl_iload_n C dL_law_434 rfl 3 rfl ?_
  refine cjl_iconst C 1 dL_law_435 rfl ?_
  refine cjl_iadd C dL_law_436 ?_
  refine cjl_sld C h1 dL_law_437 ?_
  refine cjl_callM (As := [.int (xs (x3 + 1).toNatClampNeg)]) (rest := [.int r]) C cw_X9_pass (ct_X9_pass hJ hM) cjq_901 cjq_902 cjq_900 (eM_0 (z := z) (ad := bd)) rfl rfl rfl ⟨Nat.le_of_ble_eq_true rfl, Nat.le_of_ble_eq_true rfl⟩ (Nat.le_of_ble_eq_true rfl) dL_law_438 ?_
  refine cjl_eq C 857 dL_law_441 rfl ?_
  exact kk
set_option maxHeartbeats 4000000 in
set_option maxRecDepth 100000 in
theorem law_c10 {D : va_G} {z : cj_Zc} {ad bd : cj_Ad} {X : cj_X} {b L cs ss : Nat} {xs : Nat → Int32} {μ ν : cj_Mm} (C : cj_LC D z ad bd X b L xs cs ss) {x3 r : Int32} {μ2 : cj_Mm} {σ2 : cj_S} (h1 : vp_in (x3 + 1) L) (h2 : vp_in (x3 + 2) L) (hL : f_X8_set μ (xs (x3 + 1).toNatClampNeg) (xs (x3 + 2).toNatClampNeg) = some (r, μ2)) (hM : f_X9_set (ν 0) (xs (x3 + 1).toNatClampNeg) (xs (x3 + 2).toNatClampNeg) = some (r, σ2)) (kk : cj_LG D z ad bd X b cs ss μ2 (cj_upG ν 0 σ2) 857 [(0, .ref b), (1, .ref (ad 0 0)), (2, .ref (bd 0 0)), (3, .int x3)] []) : cj_LG D z ad bd X b cs ss μ ν 446 [(0, .ref b), (1, .ref (ad 0 0)), (2, .ref (bd 0 0)), (3, .int x3)] [] := by
  have hI := C.2.2.2.2.2.2.1
  have hJ := C.2.2.2.2.2.2.2.1
  refine cjl_aload_n C dL_law_446 rfl 1 rfl ?_
  refine cjl_aload_n C dL_law_447 rfl 0 rfl ?_
  refine cjl_iload_n C dL_law_448 rfl 3 rfl ?_
  refine cjl_iconst C 1 dL_law_449 rfl ?_
  refine cjl_iadd C dL_law_450 ?_
  refine cjl_sld C h1 dL_law_451 ?_
  refine cjl_aload_n C dL_law_452 rfl 0 rfl ?_
  refine cjl_iload_n C dL_law_453 rfl 3 rfl ?_
  refine cjl_iconst C 2 dL_law_454 rfl ?_
  refine cjl_iadd C dL_law_455 ?_
  refine cjl_sld C h2 dL_law_456 ?_
  refine cjl_callL (As := [.int (xs (x3 + 1).toNatClampNeg), .int (xs (x3 + 2).toNatClampNeg)]) (rest := []) C cw_X8_set (ct_X8_set hI hL) cjq_555 cjq_556 cjq_554 (e0_0 (z := z) (ad := ad)) rfl rfl rfl ⟨Nat.le_of_ble_eq_true rfl, Nat.le_of_ble_eq_true rfl⟩ (Nat.le_of_ble_eq_true rfl) dL_law_457 ?_
  refine cjl_aload_n C dL_law_460 rfl 2 rfl ?_
  refine cjl_aload_n C dL_law_461 rfl 0 rfl ?_
  refine cjl_iload_n C dL_law_462 rfl 3 rfl ?_
  refine cjl_iconst C 1 dL_law_463 rfl ?_
  refine cjl_iadd C dL_law_464 ?_
  refine cjl_sld C h1 dL_law_465 ?_
  refine cjl_aload_n C dL_law_466 rfl 0 rfl ?_
  refine cjl_iload_n C dL_law_467 rfl 3 rfl ?_
  refine cjl_iconst C 2 dL_law_468 rfl ?_
  refine cjl_iadd C dL_law_469 ?_
  refine cjl_sld C h2 dL_law_470 ?_
  refine cjl_callM (As := [.int (xs (x3 + 1).toNatClampNeg), .int (xs (x3 + 2).toNatClampNeg)]) (rest := [.int r]) C cw_X9_set (ct_X9_set hJ hM) cjq_913 cjq_914 cjq_912 (eM_0 (z := z) (ad := bd)) rfl rfl rfl ⟨Nat.le_of_ble_eq_true rfl, Nat.le_of_ble_eq_true rfl⟩ (Nat.le_of_ble_eq_true rfl) dL_law_471 ?_
  refine cjl_eq C 857 dL_law_474 rfl ?_
  exact kk
set_option maxHeartbeats 4000000 in
set_option maxRecDepth 100000 in
theorem law_c11 {D : va_G} {z : cj_Zc} {ad bd : cj_Ad} {X : cj_X} {b L cs ss : Nat} {xs : Nat → Int32} {μ ν : cj_Mm} (C : cj_LC D z ad bd X b L xs cs ss) {x3 r : Int32} (h1 : vp_in (x3 + 1) L) (h2 : vp_in (x3 + 2) L) (hL : f_X8_personOf μ (xs (x3 + 1).toNatClampNeg) (xs (x3 + 2).toNatClampNeg) = some r) (hM : f_X9_personOf (ν 0) (xs (x3 + 1).toNatClampNeg) (xs (x3 + 2).toNatClampNeg) = some r) (kk : cj_LG D z ad bd X b cs ss μ (cj_upG ν 0 (ν 0)) 857 [(0, .ref b), (1, .ref (ad 0 0)), (2, .ref (bd 0 0)), (3, .int x3)] []) : cj_LG D z ad bd X b cs ss μ ν 479 [(0, .ref b), (1, .ref (ad 0 0)), (2, .ref (bd 0 0)), (3, .int x3)] [] := by
  have hI := C.2.2.2.2.2.2.1
  have hJ := C.2.2.2.2.2.2.2.1
  refine cjl_aload_n C dL_law_479 rfl 1 rfl ?_
  refine cjl_aload_n C dL_law_480 rfl 0 rfl ?_
  refine cjl_iload_n C dL_law_481 rfl 3 rfl ?_
  refine cjl_iconst C 1 dL_law_482 rfl ?_
  refine cjl_iadd C dL_law_483 ?_
  refine cjl_sld C h1 dL_law_484 ?_
  refine cjl_aload_n C dL_law_485 rfl 0 rfl ?_
  refine cjl_iload_n C dL_law_486 rfl 3 rfl ?_
  refine cjl_iconst C 2 dL_law_487 rfl ?_
  refine cjl_iadd C dL_law_488 ?_
  refine cjl_sld C h2 dL_law_489 ?_
  refine cjl_callL (As := [.int (xs (x3 + 1).toNatClampNeg), .int (xs (x3 + 2).toNatClampNeg)]) (rest := []) C cw_X8_personOf (ct_X8_personOf hI hL) cjq_563 cjq_564 cjq_562 (e0_0 (z := z) (ad := ad)) rfl rfl rfl ⟨Nat.le_of_ble_eq_true rfl, Nat.le_of_ble_eq_true rfl⟩ (Nat.le_of_ble_eq_true rfl) dL_law_490 ?_
  refine cjl_aload_n C dL_law_493 rfl 2 rfl ?_
  refine cjl_aload_n C dL_law_494 rfl 0 rfl ?_
  refine cjl_iload_n C dL_law_495 rfl 3 rfl ?_
  refine cjl_iconst C 1 dL_law_496 rfl ?_
  refine cjl_iadd C dL_law_497 ?_
  refine cjl_sld C h1 dL_law_498 ?_
  refine cjl_aload_n C dL_law_499 rfl 0 rfl ?_
  refine cjl_iload_n C dL_law_500 rfl 3 rfl ?_
  refine cjl_iconst C 2 dL_law_501 rfl ?_
  refine cjl_iadd C dL_law_502 ?_
  refine cjl_sld C h2 dL_law_503 ?_
  refine cjl_callM (As := [.int (xs (x3 + 1).toNatClampNeg), .int (xs (x3 + 2).toNatClampNeg)]) (rest := [.int r]) C cw_X9_personOf (ct_X9_personOf hJ hM) cjq_917 cjq_918 cjq_916 (eM_0 (z := z) (ad := bd)) rfl rfl rfl ⟨Nat.le_of_ble_eq_true rfl, Nat.le_of_ble_eq_true rfl⟩ (Nat.le_of_ble_eq_true rfl) dL_law_504 ?_
  refine cjl_eq C 857 dL_law_507 rfl ?_
  exact kk
set_option maxHeartbeats 4000000 in
set_option maxRecDepth 100000 in
theorem law_c12 {D : va_G} {z : cj_Zc} {ad bd : cj_Ad} {X : cj_X} {b L cs ss : Nat} {xs : Nat → Int32} {μ ν : cj_Mm} (C : cj_LC D z ad bd X b L xs cs ss) {x3 r : Int32} (h1 : vp_in (x3 + 1) L) (h2 : vp_in (x3 + 2) L) (hL : f_X8_sheetOf μ (xs (x3 + 1).toNatClampNeg) (xs (x3 + 2).toNatClampNeg) = some r) (hM : f_X9_sheetOf (ν 0) (xs (x3 + 1).toNatClampNeg) (xs (x3 + 2).toNatClampNeg) = some r) (kk : cj_LG D z ad bd X b cs ss μ (cj_upG ν 0 (ν 0)) 857 [(0, .ref b), (1, .ref (ad 0 0)), (2, .ref (bd 0 0)), (3, .int x3)] []) : cj_LG D z ad bd X b cs ss μ ν 512 [(0, .ref b), (1, .ref (ad 0 0)), (2, .ref (bd 0 0)), (3, .int x3)] [] := by
  have hI := C.2.2.2.2.2.2.1
  have hJ := C.2.2.2.2.2.2.2.1
  refine cjl_aload_n C dL_law_512 rfl 1 rfl ?_
  refine cjl_aload_n C dL_law_513 rfl 0 rfl ?_
  refine cjl_iload_n C dL_law_514 rfl 3 rfl ?_
  refine cjl_iconst C 1 dL_law_515 rfl ?_
  refine cjl_iadd C dL_law_516 ?_
  refine cjl_sld C h1 dL_law_517 ?_
  refine cjl_aload_n C dL_law_518 rfl 0 rfl ?_
  refine cjl_iload_n C dL_law_519 rfl 3 rfl ?_
  refine cjl_iconst C 2 dL_law_520 rfl ?_
  refine cjl_iadd C dL_law_521 ?_
  refine cjl_sld C h2 dL_law_522 ?_
  refine cjl_callL (As := [.int (xs (x3 + 1).toNatClampNeg), .int (xs (x3 + 2).toNatClampNeg)]) (rest := []) C cw_X8_sheetOf (ct_X8_sheetOf hI hL) cjq_571 cjq_572 cjq_570 (e0_0 (z := z) (ad := ad)) rfl rfl rfl ⟨Nat.le_of_ble_eq_true rfl, Nat.le_of_ble_eq_true rfl⟩ (Nat.le_of_ble_eq_true rfl) dL_law_523 ?_
  refine cjl_aload_n C dL_law_526 rfl 2 rfl ?_
  refine cjl_aload_n C dL_law_527 rfl 0 rfl ?_
  refine cjl_iload_n C dL_law_528 rfl 3 rfl ?_
  refine cjl_iconst C 1 dL_law_529 rfl ?_
  refine cjl_iadd C dL_law_530 ?_
  refine cjl_sld C h1 dL_law_531 ?_
  refine cjl_aload_n C dL_law_532 rfl 0 rfl ?_
  refine cjl_iload_n C dL_law_533 rfl 3 rfl ?_
  refine cjl_iconst C 2 dL_law_534 rfl ?_
  refine cjl_iadd C dL_law_535 ?_
  refine cjl_sld C h2 dL_law_536 ?_
  refine cjl_callM (As := [.int (xs (x3 + 1).toNatClampNeg), .int (xs (x3 + 2).toNatClampNeg)]) (rest := [.int r]) C cw_X9_sheetOf (ct_X9_sheetOf hJ hM) cjq_921 cjq_922 cjq_920 (eM_0 (z := z) (ad := bd)) rfl rfl rfl ⟨Nat.le_of_ble_eq_true rfl, Nat.le_of_ble_eq_true rfl⟩ (Nat.le_of_ble_eq_true rfl) dL_law_537 ?_
  refine cjl_eq C 857 dL_law_540 rfl ?_
  exact kk
set_option maxHeartbeats 4000000 in
set_option maxRecDepth 100000 in
theorem law_c13 {D : va_G} {z : cj_Zc} {ad bd : cj_Ad} {X : cj_X} {b L cs ss : Nat} {xs : Nat → Int32} {μ ν : cj_Mm} (C : cj_LC D z ad bd X b L xs cs ss) {x3 r : Int32} (h1 : vp_in (x3 + 1) L) (h2 : vp_in (x3 + 2) L) (hL : f_X8_paperOf μ (xs (x3 + 1).toNatClampNeg) (xs (x3 + 2).toNatClampNeg) = some r) (hM : f_X9_paperOf (ν 0) (xs (x3 + 1).toNatClampNeg) (xs (x3 + 2).toNatClampNeg) = some r) (kk : cj_LG D z ad bd X b cs ss μ (cj_upG ν 0 (ν 0)) 857 [(0, .ref b), (1, .ref (ad 0 0)), (2, .ref (bd 0 0)), (3, .int x3)] []) : cj_LG D z ad bd X b cs ss μ ν 545 [(0, .ref b), (1, .ref (ad 0 0)), (2, .ref (bd 0 0)), (3, .int x3)] [] := by
  have hI := C.2.2.2.2.2.2.1
  have hJ := C.2.2.2.2.2.2.2.1
  refine cjl_aload_n C dL_law_545 rfl 1 rfl ?_
  refine cjl_aload_n C dL_law_546 rfl 0 rfl ?_
  refine cjl_iload_n C dL_law_547 rfl 3 rfl ?_
  refine cjl_iconst C 1 dL_law_548 rfl ?_
  refine cjl_iadd C dL_law_549 ?_
  refine cjl_sld C h1 dL_law_550 ?_
  refine cjl_aload_n C dL_law_551 rfl 0 rfl ?_
  refine cjl_iload_n C dL_law_552 rfl 3 rfl ?_
  refine cjl_iconst C 2 dL_law_553 rfl ?_
  refine cjl_iadd C dL_law_554 ?_
  refine cjl_sld C h2 dL_law_555 ?_
  refine cjl_callL (As := [.int (xs (x3 + 1).toNatClampNeg), .int (xs (x3 + 2).toNatClampNeg)]) (rest := []) C cw_X8_paperOf (ct_X8_paperOf hI hL) cjq_579 cjq_580 cjq_578 (e0_0 (z := z) (ad := ad)) rfl rfl rfl ⟨Nat.le_of_ble_eq_true rfl, Nat.le_of_ble_eq_true rfl⟩ (Nat.le_of_ble_eq_true rfl) dL_law_556 ?_
  refine cjl_aload_n C dL_law_559 rfl 2 rfl ?_
  refine cjl_aload_n C dL_law_560 rfl 0 rfl ?_
  refine cjl_iload_n C dL_law_561 rfl 3 rfl ?_
  refine cjl_iconst C 1 dL_law_562 rfl ?_
  refine cjl_iadd C dL_law_563 ?_
  refine cjl_sld C h1 dL_law_564 ?_
  refine cjl_aload_n C dL_law_565 rfl 0 rfl ?_
  refine cjl_iload_n C dL_law_566 rfl 3 rfl ?_
  refine cjl_iconst C 2 dL_law_567 rfl ?_
  refine cjl_iadd C dL_law_568 ?_
  refine cjl_sld C h2 dL_law_569 ?_
  refine cjl_callM (As := [.int (xs (x3 + 1).toNatClampNeg), .int (xs (x3 + 2).toNatClampNeg)]) (rest := [.int r]) C cw_X9_paperOf (ct_X9_paperOf hJ hM) cjq_925 cjq_926 cjq_924 (eM_0 (z := z) (ad := bd)) rfl rfl rfl ⟨Nat.le_of_ble_eq_true rfl, Nat.le_of_ble_eq_true rfl⟩ (Nat.le_of_ble_eq_true rfl) dL_law_570 ?_
  refine cjl_eq C 857 dL_law_573 rfl ?_
  exact kk
set_option maxHeartbeats 4000000 in
set_option maxRecDepth 100000 in
theorem law_c14 {D : va_G} {z : cj_Zc} {ad bd : cj_Ad} {X : cj_X} {b L cs ss : Nat} {xs : Nat → Int32} {μ ν : cj_Mm} (C : cj_LC D z ad bd X b L xs cs ss) {x3 r : Int32} (h1 : vp_in (x3 + 1) L) (h2 : vp_in (x3 + 2) L) (hL : f_X8_price μ (xs (x3 + 1).toNatClampNeg) (xs (x3 + 2).toNatClampNeg) = some r) (hM : f_X9_price (ν 0) (xs (x3 + 1).toNatClampNeg) (xs (x3 + 2).toNatClampNeg) = some r) (kk : cj_LG D z ad bd X b cs ss μ (cj_upG ν 0 (ν 0)) 857 [(0, .ref b), (1, .ref (ad 0 0)), (2, .ref (bd 0 0)), (3, .int x3)] []) : cj_LG D z ad bd X b cs ss μ ν 578 [(0, .ref b), (1, .ref (ad 0 0)), (2, .ref (bd 0 0)), (3, .int x3)] [] := by
  have hI := C.2.2.2.2.2.2.1
  have hJ := C.2.2.2.2.2.2.2.1
  refine cjl_aload_n C dL_law_578 rfl 1 rfl ?_
  refine cjl_aload_n C dL_law_579 rfl 0 rfl ?_
  refine cjl_iload_n C dL_law_580 rfl 3 rfl ?_
  refine cjl_iconst C 1 dL_law_581 rfl ?_
  refine cjl_iadd C dL_law_582 ?_
  refine cjl_sld C h1 dL_law_583 ?_
  refine cjl_aload_n C dL_law_584 rfl 0 rfl ?_
  refine cjl_iload_n C dL_law_585 rfl 3 rfl ?_
  refine cjl_iconst C 2 dL_law_586 rfl ?_
  refine cjl_iadd C dL_law_587 ?_
  refine cjl_sld C h2 dL_law_588 ?_
  refine cjl_callL (As := [.int (xs (x3 + 1).toNatClampNeg), .int (xs (x3 + 2).toNatClampNeg)]) (rest := []) C cw_X8_price (ct_X8_price hI hL) cjq_587 cjq_588 cjq_586 (e0_0 (z := z) (ad := ad)) rfl rfl rfl ⟨Nat.le_of_ble_eq_true rfl, Nat.le_of_ble_eq_true rfl⟩ (Nat.le_of_ble_eq_true rfl) dL_law_589 ?_
  refine cjl_aload_n C dL_law_592 rfl 2 rfl ?_
  refine cjl_aload_n C dL_law_593 rfl 0 rfl ?_
  refine cjl_iload_n C dL_law_594 rfl 3 rfl ?_
  refine cjl_iconst C 1 dL_law_595 rfl ?_
  refine cjl_iadd C dL_law_596 ?_
  refine cjl_sld C h1 dL_law_597 ?_
  refine cjl_aload_n C dL_law_598 rfl 0 rfl ?_
  refine cjl_iload_n C dL_law_599 rfl 3 rfl ?_
  refine cjl_iconst C 2 dL_law_600 rfl ?_
  refine cjl_iadd C dL_law_601 ?_
  refine cjl_sld C h2 dL_law_602 ?_
  refine cjl_callM (As := [.int (xs (x3 + 1).toNatClampNeg), .int (xs (x3 + 2).toNatClampNeg)]) (rest := [.int r]) C cw_X9_price (ct_X9_price hJ hM) cjq_929 cjq_930 cjq_928 (eM_0 (z := z) (ad := bd)) rfl rfl rfl ⟨Nat.le_of_ble_eq_true rfl, Nat.le_of_ble_eq_true rfl⟩ (Nat.le_of_ble_eq_true rfl) dL_law_603 ?_
  refine cjl_eq C 857 dL_law_606 rfl ?_
  exact kk
set_option maxHeartbeats 4000000 in
set_option maxRecDepth 100000 in
theorem law_c15 {D : va_G} {z : cj_Zc} {ad bd : cj_Ad} {X : cj_X} {b L cs ss : Nat} {xs : Nat → Int32} {μ ν : cj_Mm} (C : cj_LC D z ad bd X b L xs cs ss) {x3 r : Int32} (h1 : vp_in (x3 + 1) L) (hL : f_X8_number μ (xs (x3 + 1).toNatClampNeg) = some r) (hM : f_X9_number (ν 0) (xs (x3 + 1).toNatClampNeg) = some r) (kk : cj_LG D z ad bd X b cs ss μ (cj_upG ν 0 (ν 0)) 857 [(0, .ref b), (1, .ref (ad 0 0)), (2, .ref (bd 0 0)), (3, .int x3)] []) : cj_LG D z ad bd X b cs ss μ ν 611 [(0, .ref b), (1, .ref (ad 0 0)), (2, .ref (bd 0 0)), (3, .int x3)] [] := by
  have hI := C.2.2.2.2.2.2.1
  have hJ := C.2.2.2.2.2.2.2.1
  refine cjl_aload_n C dL_law_611 rfl 1 rfl ?_
  refine cjl_aload_n C dL_law_612 rfl 0 rfl ?_
  refine cjl_iload_n C dL_law_613 rfl 3 rfl ?_
  refine cjl_iconst C 1 dL_law_614 rfl ?_
  refine cjl_iadd C dL_law_615 ?_
  refine cjl_sld C h1 dL_law_616 ?_
  refine cjl_callL (As := [.int (xs (x3 + 1).toNatClampNeg)]) (rest := []) C cw_X8_number (ct_X8_number hI hL) cjq_595 cjq_596 cjq_594 (e0_0 (z := z) (ad := ad)) rfl rfl rfl ⟨Nat.le_of_ble_eq_true rfl, Nat.le_of_ble_eq_true rfl⟩ (Nat.le_of_ble_eq_true rfl) dL_law_617 ?_
  refine cjl_aload_n C dL_law_620 rfl 2 rfl ?_
  refine cjl_aload_n C dL_law_621 rfl 0 rfl ?_
  refine cjl_iload_n C dL_law_622 rfl 3 rfl ?_
  refine cjl_iconst C 1 dL_law_623 rfl ?_
  refine cjl_iadd C dL_law_624 ?_
  refine cjl_sld C h1 dL_law_625 ?_
  refine cjl_callM (As := [.int (xs (x3 + 1).toNatClampNeg)]) (rest := [.int r]) C cw_X9_number (ct_X9_number hJ hM) cjq_933 cjq_934 cjq_932 (eM_0 (z := z) (ad := bd)) rfl rfl rfl ⟨Nat.le_of_ble_eq_true rfl, Nat.le_of_ble_eq_true rfl⟩ (Nat.le_of_ble_eq_true rfl) dL_law_626 ?_
  refine cjl_eq C 857 dL_law_629 rfl ?_
  exact kk
set_option maxHeartbeats 4000000 in
set_option maxRecDepth 100000 in
theorem law_c16 {D : va_G} {z : cj_Zc} {ad bd : cj_Ad} {X : cj_X} {b L cs ss : Nat} {xs : Nat → Int32} {μ ν : cj_Mm} (C : cj_LC D z ad bd X b L xs cs ss) {x3 r : Int32} (h1 : vp_in (x3 + 1) L) (h2 : vp_in (x3 + 2) L) (hL : f_X8_seenIn μ (xs (x3 + 1).toNatClampNeg) (xs (x3 + 2).toNatClampNeg) = some r) (hM : f_X9_seenIn (ν 0) (xs (x3 + 1).toNatClampNeg) (xs (x3 + 2).toNatClampNeg) = some r) (kk : cj_LG D z ad bd X b cs ss μ (cj_upG ν 0 (ν 0)) 857 [(0, .ref b), (1, .ref (ad 0 0)), (2, .ref (bd 0 0)), (3, .int x3)] []) : cj_LG D z ad bd X b cs ss μ ν 634 [(0, .ref b), (1, .ref (ad 0 0)), (2, .ref (bd 0 0)), (3, .int x3)] [] := by
  have hI := C.2.2.2.2.2.2.1
  have hJ := C.2.2.2.2.2.2.2.1
  refine cjl_aload_n C dL_law_634 rfl 1 rfl ?_
  refine cjl_aload_n C dL_law_635 rfl 0 rfl ?_
  refine cjl_iload_n C dL_law_636 rfl 3 rfl ?_
  refine cjl_iconst C 1 dL_law_637 rfl ?_
  refine cjl_iadd C dL_law_638 ?_
  refine cjl_sld C h1 dL_law_639 ?_
  refine cjl_aload_n C dL_law_640 rfl 0 rfl ?_
  refine cjl_iload_n C dL_law_641 rfl 3 rfl ?_
  refine cjl_iconst C 2 dL_law_642 rfl ?_
  refine cjl_iadd C dL_law_643 ?_
  refine cjl_sld C h2 dL_law_644 ?_
  refine cjl_callL (As := [.int (xs (x3 + 1).toNatClampNeg), .int (xs (x3 + 2).toNatClampNeg)]) (rest := []) C cw_X8_seenIn (ct_X8_seenIn hI hL) cjq_600 cjq_601 cjq_599 (e0_0 (z := z) (ad := ad)) rfl rfl rfl ⟨Nat.le_of_ble_eq_true rfl, Nat.le_of_ble_eq_true rfl⟩ (Nat.le_of_ble_eq_true rfl) dL_law_645 ?_
  refine cjl_aload_n C dL_law_648 rfl 2 rfl ?_
  refine cjl_aload_n C dL_law_649 rfl 0 rfl ?_
  refine cjl_iload_n C dL_law_650 rfl 3 rfl ?_
  refine cjl_iconst C 1 dL_law_651 rfl ?_
  refine cjl_iadd C dL_law_652 ?_
  refine cjl_sld C h1 dL_law_653 ?_
  refine cjl_aload_n C dL_law_654 rfl 0 rfl ?_
  refine cjl_iload_n C dL_law_655 rfl 3 rfl ?_
  refine cjl_iconst C 2 dL_law_656 rfl ?_
  refine cjl_iadd C dL_law_657 ?_
  refine cjl_sld C h2 dL_law_658 ?_
  refine cjl_callM (As := [.int (xs (x3 + 1).toNatClampNeg), .int (xs (x3 + 2).toNatClampNeg)]) (rest := [.int r]) C cw_X9_seenIn (ct_X9_seenIn hJ hM) cjq_937 cjq_938 cjq_936 (eM_0 (z := z) (ad := bd)) rfl rfl rfl ⟨Nat.le_of_ble_eq_true rfl, Nat.le_of_ble_eq_true rfl⟩ (Nat.le_of_ble_eq_true rfl) dL_law_659 ?_
  refine cjl_eq C 857 dL_law_662 rfl ?_
  exact kk
set_option maxHeartbeats 4000000 in
set_option maxRecDepth 100000 in
theorem law_c17 {D : va_G} {z : cj_Zc} {ad bd : cj_Ad} {X : cj_X} {b L cs ss : Nat} {xs : Nat → Int32} {μ ν : cj_Mm} (C : cj_LC D z ad bd X b L xs cs ss) {x3 r : Int32} {μ2 : cj_Mm} {σ2 : cj_S} (h1 : vp_in (x3 + 1) L) (h2 : vp_in (x3 + 2) L) (hL : f_X8_would μ (xs (x3 + 1).toNatClampNeg) (xs (x3 + 2).toNatClampNeg) = some (r, μ2)) (hM : f_X9_would (ν 0) (xs (x3 + 1).toNatClampNeg) (xs (x3 + 2).toNatClampNeg) = some (r, σ2)) (kk : cj_LG D z ad bd X b cs ss μ2 (cj_upG ν 0 σ2) 857 [(0, .ref b), (1, .ref (ad 0 0)), (2, .ref (bd 0 0)), (3, .int x3)] []) : cj_LG D z ad bd X b cs ss μ ν 667 [(0, .ref b), (1, .ref (ad 0 0)), (2, .ref (bd 0 0)), (3, .int x3)] [] := by
  have hI := C.2.2.2.2.2.2.1
  have hJ := C.2.2.2.2.2.2.2.1
  refine cjl_aload_n C dL_law_667 rfl 1 rfl ?_
  refine cjl_aload_n C dL_law_668 rfl 0 rfl ?_
  refine cjl_iload_n C dL_law_669 rfl 3 rfl ?_
  refine cjl_iconst C 1 dL_law_670 rfl ?_
  refine cjl_iadd C dL_law_671 ?_
  refine cjl_sld C h1 dL_law_672 ?_
  refine cjl_aload_n C dL_law_673 rfl 0 rfl ?_
  refine cjl_iload_n C dL_law_674 rfl 3 rfl ?_
  refine cjl_iconst C 2 dL_law_675 rfl ?_
  refine cjl_iadd C dL_law_676 ?_
  refine cjl_sld C h2 dL_law_677 ?_
  refine cjl_callL (As := [.int (xs (x3 + 1).toNatClampNeg), .int (xs (x3 + 2).toNatClampNeg)]) (rest := []) C cw_X8_would (ct_X8_would hI hL) cjq_608 cjq_609 cjq_607 (e0_0 (z := z) (ad := ad)) rfl rfl rfl ⟨Nat.le_of_ble_eq_true rfl, Nat.le_of_ble_eq_true rfl⟩ (Nat.le_of_ble_eq_true rfl) dL_law_678 ?_
  refine cjl_aload_n C dL_law_681 rfl 2 rfl ?_
  refine cjl_aload_n C dL_law_682 rfl 0 rfl ?_
  refine cjl_iload_n C dL_law_683 rfl 3 rfl ?_
  refine cjl_iconst C 1 dL_law_684 rfl ?_
  refine cjl_iadd C dL_law_685 ?_
  refine cjl_sld C h1 dL_law_686 ?_
  refine cjl_aload_n C dL_law_687 rfl 0 rfl ?_
  refine cjl_iload_n C dL_law_688 rfl 3 rfl ?_
  refine cjl_iconst C 2 dL_law_689 rfl ?_
  refine cjl_iadd C dL_law_690 ?_
  refine cjl_sld C h2 dL_law_691 ?_
  refine cjl_callM (As := [.int (xs (x3 + 1).toNatClampNeg), .int (xs (x3 + 2).toNatClampNeg)]) (rest := [.int r]) C cw_X9_would (ct_X9_would hJ hM) cjq_941 cjq_942 cjq_940 (eM_0 (z := z) (ad := bd)) rfl rfl rfl ⟨Nat.le_of_ble_eq_true rfl, Nat.le_of_ble_eq_true rfl⟩ (Nat.le_of_ble_eq_true rfl) dL_law_692 ?_
  refine cjl_eq C 857 dL_law_695 rfl ?_
  exact kk
set_option maxHeartbeats 4000000 in
set_option maxRecDepth 100000 in
theorem law_c18 {D : va_G} {z : cj_Zc} {ad bd : cj_Ad} {X : cj_X} {b L cs ss : Nat} {xs : Nat → Int32} {μ ν : cj_Mm} (C : cj_LC D z ad bd X b L xs cs ss) {x3 r : Int32} {μ2 : cj_Mm} (h1 : vp_in (x3 + 1) L) (hL : f_X8_best μ (xs (x3 + 1).toNatClampNeg) = some (r, μ2)) (hM : f_X9_best (ν 0) (xs (x3 + 1).toNatClampNeg) = some r) (kk : cj_LG D z ad bd X b cs ss μ2 (cj_upG ν 0 (ν 0)) 857 [(0, .ref b), (1, .ref (ad 0 0)), (2, .ref (bd 0 0)), (3, .int x3)] []) : cj_LG D z ad bd X b cs ss μ ν 700 [(0, .ref b), (1, .ref (ad 0 0)), (2, .ref (bd 0 0)), (3, .int x3)] [] := by
  have hI := C.2.2.2.2.2.2.1
  have hJ := C.2.2.2.2.2.2.2.1
  refine cjl_aload_n C dL_law_700 rfl 1 rfl ?_
  refine cjl_aload_n C dL_law_701 rfl 0 rfl ?_
  refine cjl_iload_n C dL_law_702 rfl 3 rfl ?_
  refine cjl_iconst C 1 dL_law_703 rfl ?_
  refine cjl_iadd C dL_law_704 ?_
  refine cjl_sld C h1 dL_law_705 ?_
  refine cjl_callL (As := [.int (xs (x3 + 1).toNatClampNeg)]) (rest := []) C cw_X8_best (ct_X8_best hI hL) cjq_616 cjq_617 cjq_615 (e0_0 (z := z) (ad := ad)) rfl rfl rfl ⟨Nat.le_of_ble_eq_true rfl, Nat.le_of_ble_eq_true rfl⟩ (Nat.le_of_ble_eq_true rfl) dL_law_706 ?_
  refine cjl_aload_n C dL_law_709 rfl 2 rfl ?_
  refine cjl_aload_n C dL_law_710 rfl 0 rfl ?_
  refine cjl_iload_n C dL_law_711 rfl 3 rfl ?_
  refine cjl_iconst C 1 dL_law_712 rfl ?_
  refine cjl_iadd C dL_law_713 ?_
  refine cjl_sld C h1 dL_law_714 ?_
  refine cjl_callM (As := [.int (xs (x3 + 1).toNatClampNeg)]) (rest := [.int r]) C cw_X9_best (ct_X9_best hJ hM) cjq_948 cjq_949 cjq_947 (eM_0 (z := z) (ad := bd)) rfl rfl rfl ⟨Nat.le_of_ble_eq_true rfl, Nat.le_of_ble_eq_true rfl⟩ (Nat.le_of_ble_eq_true rfl) dL_law_715 ?_
  refine cjl_eq C 857 dL_law_718 rfl ?_
  exact kk
set_option maxHeartbeats 4000000 in
set_option maxRecDepth 100000 in
theorem law_c19 {D : va_G} {z : cj_Zc} {ad bd : cj_Ad} {X : cj_X} {b L cs ss : Nat} {xs : Nat → Int32} {μ ν : cj_Mm} (C : cj_LC D z ad bd X b L xs cs ss) {x3 r : Int32} {μ2 : cj_Mm} {σ2 : cj_S} (hL : f_X8_sellAll μ = some (r, μ2)) (hM : f_X9_sellAll (ν 0) = some (r, σ2)) (kk : cj_LG D z ad bd X b cs ss μ2 (cj_upG ν 0 σ2) 857 [(0, .ref b), (1, .ref (ad 0 0)), (2, .ref (bd 0 0)), (3, .int x3)] []) : cj_LG D z ad bd X b cs ss μ ν 723 [(0, .ref b), (1, .ref (ad 0 0)), (2, .ref (bd 0 0)), (3, .int x3)] [] := by
  have hI := C.2.2.2.2.2.2.1
  have hJ := C.2.2.2.2.2.2.2.1
  refine cjl_aload_n C dL_law_723 rfl 1 rfl ?_
  refine cjl_callL (As := []) (rest := []) C cw_X8_sellAll (ct_X8_sellAll hI hL) cjq_624 cjq_625 cjq_623 (e0_0 (z := z) (ad := ad)) rfl rfl rfl ⟨Nat.le_of_ble_eq_true rfl, Nat.le_of_ble_eq_true rfl⟩ (Nat.le_of_ble_eq_true rfl) dL_law_724 ?_
  refine cjl_aload_n C dL_law_727 rfl 2 rfl ?_
  refine cjl_callM (As := []) (rest := [.int r]) C cw_X9_sellAll (ct_X9_sellAll hJ hM) cjq_956 cjq_957 cjq_955 (eM_0 (z := z) (ad := bd)) rfl rfl rfl ⟨Nat.le_of_ble_eq_true rfl, Nat.le_of_ble_eq_true rfl⟩ (Nat.le_of_ble_eq_true rfl) dL_law_728 ?_
  refine cjl_eq C 857 dL_law_731 rfl ?_
  exact kk
set_option maxHeartbeats 4000000 in
set_option maxRecDepth 100000 in
theorem law_c20 {D : va_G} {z : cj_Zc} {ad bd : cj_Ad} {X : cj_X} {b L cs ss : Nat} {xs : Nat → Int32} {μ ν : cj_Mm} (C : cj_LC D z ad bd X b L xs cs ss) {x3 r : Int32} (hL : f_X8_mean μ = some r) (hM : f_X9_mean (ν 0) = some r) (kk : cj_LG D z ad bd X b cs ss μ (cj_upG ν 0 (ν 0)) 857 [(0, .ref b), (1, .ref (ad 0 0)), (2, .ref (bd 0 0)), (3, .int x3)] []) : cj_LG D z ad bd X b cs ss μ ν 736 [(0, .ref b), (1, .ref (ad 0 0)), (2, .ref (bd 0 0)), (3, .int x3)] [] := by
  have hI := C.2.2.2.2.2.2.1
  have hJ := C.2.2.2.2.2.2.2.1
  refine cjl_aload_n C dL_law_736 rfl 1 rfl ?_
  refine cjl_callL (As := []) (rest := []) C cw_X8_mean (ct_X8_mean hI hL) cjq_628 cjq_629 cjq_627 (e0_0 (z := z) (ad := ad)) rfl rfl rfl ⟨Nat.le_of_ble_eq_true rfl, Nat.le_of_ble_eq_true rfl⟩ (Nat.le_of_ble_eq_true rfl) dL_law_737 ?_
  refine cjl_aload_n C dL_law_740 rfl 2 rfl ?_
  refine cjl_callM (As := []) (rest := [.int r]) C cw_X9_mean (ct_X9_mean hJ hM) cjq_960 cjq_961 cjq_959 (eM_0 (z := z) (ad := bd)) rfl rfl rfl ⟨Nat.le_of_ble_eq_true rfl, Nat.le_of_ble_eq_true rfl⟩ (Nat.le_of_ble_eq_true rfl) dL_law_741 ?_
  refine cjl_eq C 857 dL_law_744 rfl ?_
  exact kk
set_option maxHeartbeats 4000000 in
set_option maxRecDepth 100000 in
theorem law_c21 {D : va_G} {z : cj_Zc} {ad bd : cj_Ad} {X : cj_X} {b L cs ss : Nat} {xs : Nat → Int32} {μ ν : cj_Mm} (C : cj_LC D z ad bd X b L xs cs ss) {x3 r : Int32} (h1 : vp_in (x3 + 1) L) (hL : f_X8_count μ (xs (x3 + 1).toNatClampNeg) = some r) (hM : f_X9_count (ν 0) (xs (x3 + 1).toNatClampNeg) = some r) (kk : cj_LG D z ad bd X b cs ss μ (cj_upG ν 0 (ν 0)) 857 [(0, .ref b), (1, .ref (ad 0 0)), (2, .ref (bd 0 0)), (3, .int x3)] []) : cj_LG D z ad bd X b cs ss μ ν 749 [(0, .ref b), (1, .ref (ad 0 0)), (2, .ref (bd 0 0)), (3, .int x3)] [] := by
  have hI := C.2.2.2.2.2.2.1
  have hJ := C.2.2.2.2.2.2.2.1
  refine cjl_aload_n C dL_law_749 rfl 1 rfl ?_
  refine cjl_aload_n C dL_law_750 rfl 0 rfl ?_
  refine cjl_iload_n C dL_law_751 rfl 3 rfl ?_
  refine cjl_iconst C 1 dL_law_752 rfl ?_
  refine cjl_iadd C dL_law_753 ?_
  refine cjl_sld C h1 dL_law_754 ?_
  refine cjl_callL (As := [.int (xs (x3 + 1).toNatClampNeg)]) (rest := []) C cw_X8_count (ct_X8_count hI hL) cjq_636 cjq_637 cjq_635 (e0_0 (z := z) (ad := ad)) rfl rfl rfl ⟨Nat.le_of_ble_eq_true rfl, Nat.le_of_ble_eq_true rfl⟩ (Nat.le_of_ble_eq_true rfl) dL_law_755 ?_
  refine cjl_aload_n C dL_law_758 rfl 2 rfl ?_
  refine cjl_aload_n C dL_law_759 rfl 0 rfl ?_
  refine cjl_iload_n C dL_law_760 rfl 3 rfl ?_
  refine cjl_iconst C 1 dL_law_761 rfl ?_
  refine cjl_iadd C dL_law_762 ?_
  refine cjl_sld C h1 dL_law_763 ?_
  refine cjl_callM (As := [.int (xs (x3 + 1).toNatClampNeg)]) (rest := [.int r]) C cw_X9_count (ct_X9_count hJ hM) cjq_974 cjq_975 cjq_973 (eM_0 (z := z) (ad := bd)) rfl rfl rfl ⟨Nat.le_of_ble_eq_true rfl, Nat.le_of_ble_eq_true rfl⟩ (Nat.le_of_ble_eq_true rfl) dL_law_764 ?_
  refine cjl_eq C 857 dL_law_767 rfl ?_
  exact kk
set_option maxHeartbeats 4000000 in
set_option maxRecDepth 100000 in
theorem law_c22 {D : va_G} {z : cj_Zc} {ad bd : cj_Ad} {X : cj_X} {b L cs ss : Nat} {xs : Nat → Int32} {μ ν : cj_Mm} (C : cj_LC D z ad bd X b L xs cs ss) {x3 r : Int32} {μ2 : cj_Mm} {σ2 : cj_S} (hL : f_X8_undo μ = some (r, μ2)) (hM : f_X9_undo (ν 0) = some (r, σ2)) (kk : cj_LG D z ad bd X b cs ss μ2 (cj_upG ν 0 σ2) 857 [(0, .ref b), (1, .ref (ad 0 0)), (2, .ref (bd 0 0)), (3, .int x3)] []) : cj_LG D z ad bd X b cs ss μ ν 772 [(0, .ref b), (1, .ref (ad 0 0)), (2, .ref (bd 0 0)), (3, .int x3)] [] := by
  have hI := C.2.2.2.2.2.2.1
  have hJ := C.2.2.2.2.2.2.2.1
  refine cjl_aload_n C dL_law_772 rfl 1 rfl ?_
  refine cjl_callL (As := []) (rest := []) C cw_X8_undo (ct_X8_undo hI hL) cjq_645 cjq_646 cjq_644 (e0_0 (z := z) (ad := ad)) rfl rfl rfl ⟨Nat.le_of_ble_eq_true rfl, Nat.le_of_ble_eq_true rfl⟩ (Nat.le_of_ble_eq_true rfl) dL_law_773 ?_
  refine cjl_aload_n C dL_law_776 rfl 2 rfl ?_
  refine cjl_callM (As := []) (rest := [.int r]) C cw_X9_undo (ct_X9_undo hJ hM) cjq_978 cjq_979 cjq_977 (eM_0 (z := z) (ad := bd)) rfl rfl rfl ⟨Nat.le_of_ble_eq_true rfl, Nat.le_of_ble_eq_true rfl⟩ (Nat.le_of_ble_eq_true rfl) dL_law_777 ?_
  refine cjl_eq C 857 dL_law_780 rfl ?_
  exact kk
set_option maxHeartbeats 4000000 in
set_option maxRecDepth 100000 in
theorem law_c23 {D : va_G} {z : cj_Zc} {ad bd : cj_Ad} {X : cj_X} {b L cs ss : Nat} {xs : Nat → Int32} {μ ν : cj_Mm} (C : cj_LC D z ad bd X b L xs cs ss) {x3 r : Int32} {μ2 : cj_Mm} {σ2 : cj_S} (h1 : vp_in (x3 + 1) L) (hL : f_X8_type μ (xs (x3 + 1).toNatClampNeg) = some (r, μ2)) (hM : f_X9_type (ν 0) (xs (x3 + 1).toNatClampNeg) = some (r, σ2)) (kk : cj_LG D z ad bd X b cs ss μ2 (cj_upG ν 0 σ2) 857 [(0, .ref b), (1, .ref (ad 0 0)), (2, .ref (bd 0 0)), (3, .int x3)] []) : cj_LG D z ad bd X b cs ss μ ν 785 [(0, .ref b), (1, .ref (ad 0 0)), (2, .ref (bd 0 0)), (3, .int x3)] [] := by
  have hI := C.2.2.2.2.2.2.1
  have hJ := C.2.2.2.2.2.2.2.1
  refine cjl_aload_n C dL_law_785 rfl 1 rfl ?_
  refine cjl_aload_n C dL_law_786 rfl 0 rfl ?_
  refine cjl_iload_n C dL_law_787 rfl 3 rfl ?_
  refine cjl_iconst C 1 dL_law_788 rfl ?_
  refine cjl_iadd C dL_law_789 ?_
  refine cjl_sld C h1 dL_law_790 ?_
  refine cjl_callL (As := [.int (xs (x3 + 1).toNatClampNeg)]) (rest := []) C cw_X8_type (ct_X8_type hI hL) cjq_654 cjq_655 cjq_653 (e0_0 (z := z) (ad := ad)) rfl rfl rfl ⟨Nat.le_of_ble_eq_true rfl, Nat.le_of_ble_eq_true rfl⟩ (Nat.le_of_ble_eq_true rfl) dL_law_791 ?_
  refine cjl_aload_n C dL_law_794 rfl 2 rfl ?_
  refine cjl_aload_n C dL_law_795 rfl 0 rfl ?_
  refine cjl_iload_n C dL_law_796 rfl 3 rfl ?_
  refine cjl_iconst C 1 dL_law_797 rfl ?_
  refine cjl_iadd C dL_law_798 ?_
  refine cjl_sld C h1 dL_law_799 ?_
  refine cjl_callM (As := [.int (xs (x3 + 1).toNatClampNeg)]) (rest := [.int r]) C cw_X9_type (ct_X9_type hJ hM) cjq_982 cjq_983 cjq_981 (eM_0 (z := z) (ad := bd)) rfl rfl rfl ⟨Nat.le_of_ble_eq_true rfl, Nat.le_of_ble_eq_true rfl⟩ (Nat.le_of_ble_eq_true rfl) dL_law_800 ?_
  refine cjl_eq C 857 dL_law_803 rfl ?_
  exact kk
set_option maxHeartbeats 4000000 in
set_option maxRecDepth 100000 in
theorem law_c24 {D : va_G} {z : cj_Zc} {ad bd : cj_Ad} {X : cj_X} {b L cs ss : Nat} {xs : Nat → Int32} {μ ν : cj_Mm} (C : cj_LC D z ad bd X b L xs cs ss) {x3 r : Int32} {μ2 : cj_Mm} {σ2 : cj_S} (hL : f_X8_clearText μ = some (r, μ2)) (hM : f_X9_clearText (ν 0) = some (r, σ2)) (kk : cj_LG D z ad bd X b cs ss μ2 (cj_upG ν 0 σ2) 857 [(0, .ref b), (1, .ref (ad 0 0)), (2, .ref (bd 0 0)), (3, .int x3)] []) : cj_LG D z ad bd X b cs ss μ ν 808 [(0, .ref b), (1, .ref (ad 0 0)), (2, .ref (bd 0 0)), (3, .int x3)] [] := by
  have hI := C.2.2.2.2.2.2.1
  have hJ := C.2.2.2.2.2.2.2.1
  refine cjl_aload_n C dL_law_808 rfl 1 rfl ?_
  refine cjl_callL (As := []) (rest := []) C cw_X8_clearText (ct_X8_clearText hI hL) cjq_665 cjq_666 cjq_664 (e0_0 (z := z) (ad := ad)) rfl rfl rfl ⟨Nat.le_of_ble_eq_true rfl, Nat.le_of_ble_eq_true rfl⟩ (Nat.le_of_ble_eq_true rfl) dL_law_809 ?_
  refine cjl_aload_n C dL_law_812 rfl 2 rfl ?_
  refine cjl_callM (As := []) (rest := [.int r]) C cw_X9_clearText (ct_X9_clearText hJ hM) cjq_986 cjq_987 cjq_985 (eM_0 (z := z) (ad := bd)) rfl rfl rfl ⟨Nat.le_of_ble_eq_true rfl, Nat.le_of_ble_eq_true rfl⟩ (Nat.le_of_ble_eq_true rfl) dL_law_813 ?_
  refine cjl_eq C 857 dL_law_816 rfl ?_
  exact kk
set_option maxHeartbeats 4000000 in
set_option maxRecDepth 100000 in
theorem law_c25 {D : va_G} {z : cj_Zc} {ad bd : cj_Ad} {X : cj_X} {b L cs ss : Nat} {xs : Nat → Int32} {μ ν : cj_Mm} (C : cj_LC D z ad bd X b L xs cs ss) {x3 r : Int32} {μ2 : cj_Mm} {σ2 : cj_S} (h1 : vp_in (x3 + 1) L) (hL : f_X8_fault μ (xs (x3 + 1).toNatClampNeg) = some (r, μ2)) (hM : f_X9_fault (ν 0) (xs (x3 + 1).toNatClampNeg) = some (r, σ2)) (kk : cj_LG D z ad bd X b cs ss μ2 (cj_upG ν 0 σ2) 857 [(0, .ref b), (1, .ref (ad 0 0)), (2, .ref (bd 0 0)), (3, .int x3)] []) : cj_LG D z ad bd X b cs ss μ ν 821 [(0, .ref b), (1, .ref (ad 0 0)), (2, .ref (bd 0 0)), (3, .int x3)] [] := by
  have hI := C.2.2.2.2.2.2.1
  have hJ := C.2.2.2.2.2.2.2.1
  refine cjl_aload_n C dL_law_821 rfl 1 rfl ?_
  refine cjl_aload_n C dL_law_822 rfl 0 rfl ?_
  refine cjl_iload_n C dL_law_823 rfl 3 rfl ?_
  refine cjl_iconst C 1 dL_law_824 rfl ?_
  refine cjl_iadd C dL_law_825 ?_
  refine cjl_sld C h1 dL_law_826 ?_
  refine cjl_callL (As := [.int (xs (x3 + 1).toNatClampNeg)]) (rest := []) C cw_X8_fault (ct_X8_fault hI hL) cjq_669 cjq_670 cjq_668 (e0_0 (z := z) (ad := ad)) rfl rfl rfl ⟨Nat.le_of_ble_eq_true rfl, Nat.le_of_ble_eq_true rfl⟩ (Nat.le_of_ble_eq_true rfl) dL_law_827 ?_
  refine cjl_aload_n C dL_law_830 rfl 2 rfl ?_
  refine cjl_aload_n C dL_law_831 rfl 0 rfl ?_
  refine cjl_iload_n C dL_law_832 rfl 3 rfl ?_
  refine cjl_iconst C 1 dL_law_833 rfl ?_
  refine cjl_iadd C dL_law_834 ?_
  refine cjl_sld C h1 dL_law_835 ?_
  refine cjl_callM (As := [.int (xs (x3 + 1).toNatClampNeg)]) (rest := [.int r]) C cw_X9_fault (ct_X9_fault hJ hM) cjq_990 cjq_991 cjq_989 (eM_0 (z := z) (ad := bd)) rfl rfl rfl ⟨Nat.le_of_ble_eq_true rfl, Nat.le_of_ble_eq_true rfl⟩ (Nat.le_of_ble_eq_true rfl) dL_law_836 ?_
  refine cjl_eq C 857 dL_law_839 rfl ?_
  exact kk
set_option maxHeartbeats 4000000 in
set_option maxRecDepth 100000 in
theorem law_c26 {D : va_G} {z : cj_Zc} {ad bd : cj_Ad} {X : cj_X} {b L cs ss : Nat} {xs : Nat → Int32} {μ ν : cj_Mm} (C : cj_LC D z ad bd X b L xs cs ss) {x3 r : Int32} {μ2 : cj_Mm} {σ2 : cj_S} (hL : f_X8_play μ = some (r, μ2)) (hM : f_X9_play (ν 0) = some (r, σ2)) (kk : cj_LG D z ad bd X b cs ss μ2 (cj_upG ν 0 σ2) 857 [(0, .ref b), (1, .ref (ad 0 0)), (2, .ref (bd 0 0)), (3, .int x3)] []) : cj_LG D z ad bd X b cs ss μ ν 844 [(0, .ref b), (1, .ref (ad 0 0)), (2, .ref (bd 0 0)), (3, .int x3)] [] := by
  have hI := C.2.2.2.2.2.2.1
  have hJ := C.2.2.2.2.2.2.2.1
  refine cjl_aload_n C dL_law_844 rfl 1 rfl ?_
  refine cjl_callL (As := []) (rest := []) C cw_X8_play (ct_X8_play hI hL) cjq_710 cjq_711 cjq_709 (e0_0 (z := z) (ad := ad)) rfl rfl rfl ⟨Nat.le_of_ble_eq_true rfl, Nat.le_of_ble_eq_true rfl⟩ (Nat.le_of_ble_eq_true rfl) dL_law_845 ?_
  refine cjl_aload_n C dL_law_848 rfl 2 rfl ?_
  refine cjl_callM (As := []) (rest := [.int r]) C cw_X9_play (ct_X9_play hJ hM) cjq_1027 cjq_1028 cjq_1026 (eM_0 (z := z) (ad := bd)) rfl rfl rfl ⟨Nat.le_of_ble_eq_true rfl, Nat.le_of_ble_eq_true rfl⟩ (Nat.le_of_ble_eq_true rfl) dL_law_849 ?_
  refine cjl_eq C 857 dL_law_852 rfl ?_
  exact kk
set_option maxHeartbeats 8000000 in
set_option maxRecDepth 100000 in
/-- the law's loop, behind both constructors -/
theorem law_loop {D : va_G} {z : cj_Zc} {ad bd : cj_Ad} {X : cj_X} {b L cs ss : Nat} {xs : Nat → Int32} (C : cj_LC D z ad bd X b L xs cs ss) (hL : L ≤ 2048) {R : Nat → cj_Mm → cj_S → Prop} (hR : ∀ (n : Nat) (μ : cj_Mm) (σ : cj_S), n < 512 → R n μ σ → R (n + 1) μ σ ∧ cj_Ow (R (n + 1)) μ σ) : ∀ (k n : Nat) (μ ν : cj_Mm), n + k = 513 → R n μ (ν 0) → cj_LG D z ad bd X b cs ss μ ν 18 [(0, .ref b), (1, .ref (ad 0 0)), (2, .ref (bd 0 0)), (3, .int (nI (4 * n)))] [] := by
  intro k
  induction k with
  | zero =>
    intro n μ ν hk hr
    refine cjl_iload_n C dL_law_18 rfl 3 rfl ?_
    refine cjl_aload_n C dL_law_19 rfl 0 rfl ?_
    refine cjl_slen C dL_law_20 ?_
    refine cjl_iconst C 4 dL_law_21 rfl ?_
    refine cjl_isub C dL_law_22 ?_
    refine cjl_gt C 863 dL_law_23 rfl (fun _ => ?_) (fun h => ?_)
    · refine cjl_iconst C 1 dL_law_863 rfl ?_
      exact cjl_ret C dL_law_864
    · exfalso
      apply h
      rw [Int32.lt_iff_toInt_lt, show (4 : Int32) = nI 4 from rfl, pk_sub_toInt (by omega) (by omega), nI_toInt (by omega)]
      omega
  | succ k ih =>
    intro n μ ν hk hr
    refine cjl_iload_n C dL_law_18 rfl 3 rfl ?_
    refine cjl_aload_n C dL_law_19 rfl 0 rfl ?_
    refine cjl_slen C dL_law_20 ?_
    refine cjl_iconst C 4 dL_law_21 rfl ?_
    refine cjl_isub C dL_law_22 ?_
    refine cjl_gt C 863 dL_law_23 rfl (fun _ => ?_) (fun h => ?_)
    · refine cjl_iconst C 1 dL_law_863 rfl ?_
      exact cjl_ret C dL_law_864
    · have h4 : 4 * n + 4 ≤ L := by
        rcases Nat.lt_or_ge L (4 * n + 4) with q | q
        · exfalso
          apply h
          rw [Int32.lt_iff_toInt_lt, show (4 : Int32) = nI 4 from rfl, pk_sub_toInt (by omega) (by omega), nI_toInt (by omega)]
          omega
        · exact q
      obtain ⟨hr1, hO⟩ := hR n μ (ν 0) (by omega) hr
      have v0 : vp_in (nI (4 * n)) L := vp_in_nI (by omega) (by omega)
      have v1 : vp_in (nI (4 * n) + 1) L := by rw [show (1 : Int32) = nI 1 from rfl, nI_add]; exact vp_in_nI (by omega) (by omega)
      have v2 : vp_in (nI (4 * n) + 2) L := by rw [show (2 : Int32) = nI 2 from rfl, nI_add]; exact vp_in_nI (by omega) (by omega)
      have v3 : vp_in (nI (4 * n) + 3) L := by rw [show (3 : Int32) = nI 3 from rfl, nI_add]; exact vp_in_nI (by omega) (by omega)
      have next : ∀ (μ2 ν2 : cj_Mm), R (n + 1) μ2 (ν2 0) → cj_LG D z ad bd X b cs ss μ2 ν2 857 [(0, .ref b), (1, .ref (ad 0 0)), (2, .ref (bd 0 0)), (3, .int (nI (4 * n)))] [] := by
        intro μ2 ν2 h2
        refine cjl_iinc (lv' := [(3, .int (nI (4 * (n + 1)))), (0, .ref b), (1, .ref (ad 0 0)), (2, .ref (bd 0 0))]) C dL_law_857 (j := 3) rfl (by rw [show Int32.ofInt 4 = nI 4 from rfl, nI_add]; rfl) (by decide) rfl ?_
        refine cjl_goto C 18 dL_law_860 rfl ?_
        refine cjl_sub [1, 2, 3, 0] rfl ?_
        exact ih (n + 1) μ2 ν2 (by omega) h2
      refine cjl_aload_n C dL_law_26 rfl 0 rfl ?_
      refine cjl_iload_n C dL_law_27 rfl 3 rfl ?_
      refine cjl_sld C v0 dL_law_28 ?_
      refine cjl_bipush C 31 dL_law_29 rfl ?_
      refine cjl_iand C dL_law_31 ?_
      obtain ⟨j, hj, hop⟩ := pk_andE (xs (nI (4 * n)).toNatClampNeg) (m := 31) 5 rfl
      rw [hop]
      rcases Nat.lt_or_ge j 27 with q | q
      · obtain ⟨o0, o1, o2, o3, o4, o5, o6, o7, o8, o9, o10, o11, o12, o13, o14, o15, o16, o17, o18, o19, o20, o21, o22, o23, o24, o25, o26⟩ := hO
        match j, q with
        | 0, _ =>
          obtain ⟨r, μ2, σ2, e1, e2, h2⟩ := o0 (xs (nI (4 * n) + 1).toNatClampNeg) (xs (nI (4 * n) + 2).toNatClampNeg)
          refine cjl_tabI C 156 (v := 0) rfl dL_law_32 (by decide) (by decide) rfl rfl ?_
          exact law_c0 C v1 v2 e1 e2 (next _ _ (by rw [cj_upG_s]; exact h2))
        | 1, _ =>
          obtain ⟨r, μ2, σ2, e1, e2, h2⟩ := o1 (xs (nI (4 * n) + 1).toNatClampNeg) (xs (nI (4 * n) + 2).toNatClampNeg) (xs (nI (4 * n) + 3).toNatClampNeg)
          refine cjl_tabI C 189 (v := 1) rfl dL_law_32 (by decide) (by decide) rfl rfl ?_
          exact law_c1 C v1 v2 v3 e1 e2 (next _ _ (by rw [cj_upG_s]; exact h2))
        | 2, _ =>
          obtain ⟨r, μ2, σ2, e1, e2, h2⟩ := o2 (xs (nI (4 * n) + 1).toNatClampNeg) (xs (nI (4 * n) + 2).toNatClampNeg)
          refine cjl_tabI C 232 (v := 2) rfl dL_law_32 (by decide) (by decide) rfl rfl ?_
          exact law_c2 C v1 v2 e1 e2 (next _ _ (by rw [cj_upG_s]; exact h2))
        | 3, _ =>
          obtain ⟨r, μ2, σ2, e1, e2, h2⟩ := o3 (xs (nI (4 * n) + 1).toNatClampNeg)
          refine cjl_tabI C 265 (v := 3) rfl dL_law_32 (by decide) (by decide) rfl rfl ?_
          exact law_c3 C v1 e1 e2 (next _ _ (by rw [cj_upG_s]; exact h2))
        | 4, _ =>
          obtain ⟨r, μ2, σ2, e1, e2, h2⟩ := o4 (xs (nI (4 * n) + 1).toNatClampNeg)
          refine cjl_tabI C 288 (v := 4) rfl dL_law_32 (by decide) (by decide) rfl rfl ?_
          exact law_c4 C v1 e1 e2 (next _ _ (by rw [cj_upG_s]; exact h2))
        | 5, _ =>
          obtain ⟨r, μ2, σ2, e1, e2, h2⟩ := o5 (xs (nI (4 * n) + 1).toNatClampNeg) (xs (nI (4 * n) + 2).toNatClampNeg)
          refine cjl_tabI C 311 (v := 5) rfl dL_law_32 (by decide) (by decide) rfl rfl ?_
          exact law_c5 C v1 v2 e1 e2 (next _ _ (by rw [cj_upG_s]; exact h2))
        | 6, _ =>
          obtain ⟨r, μ2, σ2, e1, e2, h2⟩ := o6 (xs (nI (4 * n) + 1).toNatClampNeg)
          refine cjl_tabI C 344 (v := 6) rfl dL_law_32 (by decide) (by decide) rfl rfl ?_
          exact law_c6 C v1 e1 e2 (next _ _ (by rw [cj_upG_s]; exact h2))
        | 7, _ =>
          obtain ⟨r, μ2, σ2, e1, e2, h2⟩ := o7 (xs (nI (4 * n) + 1).toNatClampNeg)
          refine cjl_tabI C 367 (v := 7) rfl dL_law_32 (by decide) (by decide) rfl rfl ?_
          exact law_c7 C v1 e1 e2 (next _ _ (by rw [cj_upG_s]; exact h2))
        | 8, _ =>
          obtain ⟨r, μ2, σ2, e1, e2, h2⟩ := o8 (xs (nI (4 * n) + 1).toNatClampNeg) (xs (nI (4 * n) + 2).toNatClampNeg)
          refine cjl_tabI C 390 (v := 8) rfl dL_law_32 (by decide) (by decide) rfl rfl ?_
          exact law_c8 C v1 v2 e1 e2 (next _ _ (by rw [cj_upG_s]; exact h2))
        | 9, _ =>
          obtain ⟨r, μ2, σ2, e1, e2, h2⟩ := o9 (xs (nI (4 * n) + 1).toNatClampNeg)
          refine cjl_tabI C 423 (v := 9) rfl dL_law_32 (by decide) (by decide) rfl rfl ?_
          exact law_c9 C v1 e1 e2 (next _ _ (by rw [cj_upG_s]; exact h2))
        | 10, _ =>
          obtain ⟨r, μ2, σ2, e1, e2, h2⟩ := o10 (xs (nI (4 * n) + 1).toNatClampNeg) (xs (nI (4 * n) + 2).toNatClampNeg)
          refine cjl_tabI C 446 (v := 10) rfl dL_law_32 (by decide) (by decide) rfl rfl ?_
          exact law_c10 C v1 v2 e1 e2 (next _ _ (by rw [cj_upG_s]; exact h2))
        | 11, _ =>
          obtain ⟨r, e1, e2, h2⟩ := o11 (xs (nI (4 * n) + 1).toNatClampNeg) (xs (nI (4 * n) + 2).toNatClampNeg)
          refine cjl_tabI C 479 (v := 11) rfl dL_law_32 (by decide) (by decide) rfl rfl ?_
          exact law_c11 C v1 v2 e1 e2 (next _ _ (by rw [cj_upG_s]; exact h2))
        | 12, _ =>
          obtain ⟨r, e1, e2, h2⟩ := o12 (xs (nI (4 * n) + 1).toNatClampNeg) (xs (nI (4 * n) + 2).toNatClampNeg)
          refine cjl_tabI C 512 (v := 12) rfl dL_law_32 (by decide) (by decide) rfl rfl ?_
          exact law_c12 C v1 v2 e1 e2 (next _ _ (by rw [cj_upG_s]; exact h2))
        | 13, _ =>
          obtain ⟨r, e1, e2, h2⟩ := o13 (xs (nI (4 * n) + 1).toNatClampNeg) (xs (nI (4 * n) + 2).toNatClampNeg)
          refine cjl_tabI C 545 (v := 13) rfl dL_law_32 (by decide) (by decide) rfl rfl ?_
          exact law_c13 C v1 v2 e1 e2 (next _ _ (by rw [cj_upG_s]; exact h2))
        | 14, _ =>
          obtain ⟨r, e1, e2, h2⟩ := o14 (xs (nI (4 * n) + 1).toNatClampNeg) (xs (nI (4 * n) + 2).toNatClampNeg)
          refine cjl_tabI C 578 (v := 14) rfl dL_law_32 (by decide) (by decide) rfl rfl ?_
          exact law_c14 C v1 v2 e1 e2 (next _ _ (by rw [cj_upG_s]; exact h2))
        | 15, _ =>
          obtain ⟨r, e1, e2, h2⟩ := o15 (xs (nI (4 * n) + 1).toNatClampNeg)
          refine cjl_tabI C 611 (v := 15) rfl dL_law_32 (by decide) (by decide) rfl rfl ?_
          exact law_c15 C v1 e1 e2 (next _ _ (by rw [cj_upG_s]; exact h2))
        | 16, _ =>
          obtain ⟨r, e1, e2, h2⟩ := o16 (xs (nI (4 * n) + 1).toNatClampNeg) (xs (nI (4 * n) + 2).toNatClampNeg)
          refine cjl_tabI C 634 (v := 16) rfl dL_law_32 (by decide) (by decide) rfl rfl ?_
          exact law_c16 C v1 v2 e1 e2 (next _ _ (by rw [cj_upG_s]; exact h2))
        | 17, _ =>
          obtain ⟨r, μ2, σ2, e1, e2, h2⟩ := o17 (xs (nI (4 * n) + 1).toNatClampNeg) (xs (nI (4 * n) + 2).toNatClampNeg)
          refine cjl_tabI C 667 (v := 17) rfl dL_law_32 (by decide) (by decide) rfl rfl ?_
          exact law_c17 C v1 v2 e1 e2 (next _ _ (by rw [cj_upG_s]; exact h2))
        | 18, _ =>
          obtain ⟨r, μ2, e1, e2, h2⟩ := o18 (xs (nI (4 * n) + 1).toNatClampNeg)
          refine cjl_tabI C 700 (v := 18) rfl dL_law_32 (by decide) (by decide) rfl rfl ?_
          exact law_c18 C v1 e1 e2 (next _ _ (by rw [cj_upG_s]; exact h2))
        | 19, _ =>
          obtain ⟨r, μ2, σ2, e1, e2, h2⟩ := o19
          refine cjl_tabI C 723 (v := 19) rfl dL_law_32 (by decide) (by decide) rfl rfl ?_
          exact law_c19 C e1 e2 (next _ _ (by rw [cj_upG_s]; exact h2))
        | 20, _ =>
          obtain ⟨r, e1, e2, h2⟩ := o20
          refine cjl_tabI C 736 (v := 20) rfl dL_law_32 (by decide) (by decide) rfl rfl ?_
          exact law_c20 C e1 e2 (next _ _ (by rw [cj_upG_s]; exact h2))
        | 21, _ =>
          obtain ⟨r, e1, e2, h2⟩ := o21 (xs (nI (4 * n) + 1).toNatClampNeg)
          refine cjl_tabI C 749 (v := 21) rfl dL_law_32 (by decide) (by decide) rfl rfl ?_
          exact law_c21 C v1 e1 e2 (next _ _ (by rw [cj_upG_s]; exact h2))
        | 22, _ =>
          obtain ⟨r, μ2, σ2, e1, e2, h2⟩ := o22
          refine cjl_tabI C 772 (v := 22) rfl dL_law_32 (by decide) (by decide) rfl rfl ?_
          exact law_c22 C e1 e2 (next _ _ (by rw [cj_upG_s]; exact h2))
        | 23, _ =>
          obtain ⟨r, μ2, σ2, e1, e2, h2⟩ := o23 (xs (nI (4 * n) + 1).toNatClampNeg)
          refine cjl_tabI C 785 (v := 23) rfl dL_law_32 (by decide) (by decide) rfl rfl ?_
          exact law_c23 C v1 e1 e2 (next _ _ (by rw [cj_upG_s]; exact h2))
        | 24, _ =>
          obtain ⟨r, μ2, σ2, e1, e2, h2⟩ := o24
          refine cjl_tabI C 808 (v := 24) rfl dL_law_32 (by decide) (by decide) rfl rfl ?_
          exact law_c24 C e1 e2 (next _ _ (by rw [cj_upG_s]; exact h2))
        | 25, _ =>
          obtain ⟨r, μ2, σ2, e1, e2, h2⟩ := o25 (xs (nI (4 * n) + 1).toNatClampNeg)
          refine cjl_tabI C 821 (v := 25) rfl dL_law_32 (by decide) (by decide) rfl rfl ?_
          exact law_c25 C v1 e1 e2 (next _ _ (by rw [cj_upG_s]; exact h2))
        | 26, _ =>
          obtain ⟨r, μ2, σ2, e1, e2, h2⟩ := o26
          refine cjl_tabI C 844 (v := 26) rfl dL_law_32 (by decide) (by decide) rfl rfl ?_
          exact law_c26 C e1 e2 (next _ _ (by rw [cj_upG_s]; exact h2))
        | j + 27, q => exact absurd q (by omega)
      · refine cjl_tabO C 857 (Or.inr ?_) dL_law_32 rfl (next μ ν hr1)
        rw [nI_toInt (by omega)]
        omega
