/-! ===== the law: its cases ===== -/
theorem xF_ok : xF.all sm_shB = true := by decide +kernel
theorem yes_eq {P : Prop} {x y : Int32} (h1 : isYes P x) (h2 : isYes P y) : x = y := by
  rcases h1 with ⟨rfl, h1⟩ | ⟨rfl, h1⟩ <;> rcases h2 with ⟨rfl, h2⟩ | ⟨rfl, h2⟩
  · rfl
  · exact absurd h1 h2
  · exact absurd h2 h1
  · rfl
section LAW
variable {p : Program} {l : Launch} {e : Env} {s : State} {m : MethodId} {below : List Frame} {meth : Method} {c : Code} {H : Heap} {locs : List Loc} {Q : State → Prop} {L : Array Slot} {rest : List Value} {b Ln : Nat} {xs : Nat → Int32} {D : va_G} {cA : Nat → ClassId} {tb ad : Nat → Nat} {σ : sm_S} {x3 : Int32} {i n : Nat} {o1 o2 : Nat}
/-- script[i + k] -/
theorem R_arg {args : Array Value} (X : CX p s m args c lw_tbl "SpansAwayLaw" code 4 D cA tb s.heap.size (fun q => s.heap.size ≤ q)) (hX : va_X b Ln xs s s.heap) (hbl : b < s.heap.size) (hL : Ln ≤ 2560) (h3 : x3.toInt = i) (hl : lv_has L 4 [(3, .int x3), (2, .ref o2), (1, .ref o1), (0, .ref b)]) (hS : va_S (fun q => s.heap.size ≤ q) s.heap H locs) (k : Nat) {kz : Int} {kv : Int32} (hkz : Int32.ofInt kz = kv) (hk : kv.toInt = k) (hik : i + k < Ln) {pc : Nat} (d1 : decode code pc = .ok (.aload_n 0, 1)) (d2 : decode code (pc + 1) = .ok (.iload_n 3, 1)) (d3 : decode code (pc + 2) = .ok (.iconst kz, 1)) (d4 : decode code (pc + 3) = .ok (.iadd, 1)) (d5 : decode code (pc + 4) = .ok (.iaload, 1))
    (kk : W p l e room_1 s m args below meth c H locs 174 17642 Q (F0 m (pc + 5) L (.int (xs (i + k)) :: rest))) : W p l e room_1 s m args below meth c H locs 174 17642 Q (F0 m pc L rest) := by
  have hx : (x3 + kv).toInt = ((i + k : Nat) : Int) := by
    rw [t_add h3 hk (by omega) (by omega)]
    omega
  refine lv_aload_n X.hx X.hb d1 rfl (lv_at hl 3 rfl) ?_
  refine lv_iload_n X.hx X.hb d2 rfl (lv_at hl 0 rfl) ?_
  refine lv_iconst (v := kv) X.hx X.hb d3 hkz ?_
  refine lv_iadd X.hx X.hb d4 ?_
  refine va_sld (A := fun q => s.heap.size ≤ q) X.hx X.hb hX hbl (Nat.not_le.mpr hbl) hS (t_vp hx hik) d5 ?_
  rw [t_nat hx]
  exact kk
set_option maxRecDepth 100000 in
set_option maxHeartbeats 400000 in
theorem law_c0 (X : CX p s m #[.ref b] c lw_tbl "SpansAwayLaw" code 4 D cA tb s.heap.size (fun q => s.heap.size ≤ q)) (hX : va_X b Ln xs s s.heap) (hbl : b < s.heap.size) (hL : Ln ≤ 2560) (had : ∀ t q, sm_TB[t]? = some q → ad (1000 + t) = tb (1000 + t)) (h3 : x3.toInt = i) (hi : i + 5 ≤ Ln) (hB : 1488000 * n < 1500000000) (hl : lv_has L 4 [(3, .int x3), (2, .ref (ad 168)), (1, .ref (ad 42)), (0, .ref b)]) (hQ : LR (1488000 * n) σ) (hP : va_P D vwCl (sm_W xF ad cA σ) H) (hD : va_D (fun q => s.heap.size ≤ q) (sm_W xF ad cA σ)) (hS : va_S (fun q => s.heap.size ≤ q) s.heap H locs) (kk : ∀ (σ' : sm_S) (H : Heap) (locs : List Loc), LR (1488000 * n + 1488000) σ' → va_P D vwCl (sm_W xF ad cA σ') H → va_D (fun q => s.heap.size ≤ q) (sm_W xF ad cA σ') → va_S (fun q => s.heap.size ≤ q) s.heap H locs → W p l e room_1 s m #[.ref b] below meth c H locs 174 17642 Q (F0 m 1249 L [])) : W p l e room_1 s m #[.ref b] below meth c H locs 174 17642 Q (F0 m 188 L []) := by
  refine lv_aload_n X.hx X.hb d_law_188 rfl (lv_at hl 2 rfl) ?_
  refine R_arg (kz := 1) (kv := 1) X hX hbl hL h3 hl hS 1 (by decide) (by decide) (by omega) d_law_189 d_law_190 d_law_191 d_law_192 d_law_193 ?_
  refine R_arg (kz := 2) (kv := 2) X hX hbl hL h3 hl hS 2 (by decide) (by decide) (by omega) d_law_194 d_law_195 d_law_196 d_law_197 d_law_198 ?_
  refine R_smV (rest := []) X hP hD hS (List.all_eq_true.mp xF_ok) had (j := j_A_set) (M := m_A_set) rfl (a := 42) (as := [.int (xs (i + 1)), .int (xs (i + 2))]) (cl_set _ _ σ hB hQ) rfl (lawL_ok (i := 0) rfl rfl) rfl rfl (show 2 + 1 = m_A_set.2.2.2.2.1.2.2.2 % 100 by decide) ⟨(Nat.le_of_ble_eq_true rfl), (Nat.le_of_ble_eq_true rfl)⟩ hl.1 (Nat.le_of_ble_eq_true rfl) (Nat.le_of_ble_eq_true rfl) (Nat.le_of_ble_eq_true rfl) d_law_199 ?_
  rintro r σ1 H1 locs1 ⟨x, rfl, hq⟩ hP hD hS
  refine lv_pop X.hx X.hb d_law_202 rfl ?_
  refine lv_aload_n X.hx X.hb d_law_203 rfl (lv_at hl 1 rfl) ?_
  refine R_arg (kz := 1) (kv := 1) X hX hbl hL h3 hl hS 1 (by decide) (by decide) (by omega) d_law_204 d_law_205 d_law_206 d_law_207 d_law_208 ?_
  refine R_arg (kz := 2) (kv := 2) X hX hbl hL h3 hl hS 2 (by decide) (by decide) (by omega) d_law_209 d_law_210 d_law_211 d_law_212 d_law_213 ?_
  refine R_smV (rest := []) X hP hD hS (List.all_eq_true.mp xF_ok) had (j := j_M_set) (M := m_M_set) rfl (a := 168) (as := [.int (xs (i + 1)), .int (xs (i + 2))]) hq rfl (lawL_ok (i := 1) rfl rfl) rfl rfl (show 2 + 1 = m_M_set.2.2.2.2.1.2.2.2 % 100 by decide) ⟨(Nat.le_of_ble_eq_true rfl), (Nat.le_of_ble_eq_true rfl)⟩ hl.1 (Nat.le_of_ble_eq_true rfl) (Nat.le_of_ble_eq_true rfl) (Nat.le_of_ble_eq_true rfl) d_law_214 ?_
  rintro r σ2 H2 locs2 ⟨y, rfl, hc, hQ⟩ hP hD hS
  refine lv_pop X.hx X.hb d_law_217 rfl ?_
  refine lv_goto (tgt := 1249) X.hx X.hb d_law_218 (by decide) ?_
  exact kk σ2 H2 locs2 hQ hP hD hS
set_option maxRecDepth 100000 in
set_option maxHeartbeats 400000 in
theorem law_c1 (X : CX p s m #[.ref b] c lw_tbl "SpansAwayLaw" code 4 D cA tb s.heap.size (fun q => s.heap.size ≤ q)) (hX : va_X b Ln xs s s.heap) (hbl : b < s.heap.size) (hL : Ln ≤ 2560) (had : ∀ t q, sm_TB[t]? = some q → ad (1000 + t) = tb (1000 + t)) (h3 : x3.toInt = i) (hi : i + 5 ≤ Ln) (hB : 1488000 * n < 1500000000) (hl : lv_has L 4 [(3, .int x3), (2, .ref (ad 168)), (1, .ref (ad 42)), (0, .ref b)]) (hQ : LR (1488000 * n) σ) (hP : va_P D vwCl (sm_W xF ad cA σ) H) (hD : va_D (fun q => s.heap.size ≤ q) (sm_W xF ad cA σ)) (hS : va_S (fun q => s.heap.size ≤ q) s.heap H locs) (kk : ∀ (σ' : sm_S) (H : Heap) (locs : List Loc), LR (1488000 * n + 1488000) σ' → va_P D vwCl (sm_W xF ad cA σ') H → va_D (fun q => s.heap.size ≤ q) (sm_W xF ad cA σ') → va_S (fun q => s.heap.size ≤ q) s.heap H locs → W p l e room_1 s m #[.ref b] below meth c H locs 174 17642 Q (F0 m 1249 L [])) : W p l e room_1 s m #[.ref b] below meth c H locs 174 17642 Q (F0 m 221 L []) := by
  refine lv_aload_n X.hx X.hb d_law_221 rfl (lv_at hl 2 rfl) ?_
  refine R_arg (kz := 1) (kv := 1) X hX hbl hL h3 hl hS 1 (by decide) (by decide) (by omega) d_law_222 d_law_223 d_law_224 d_law_225 d_law_226 ?_
  refine R_arg (kz := 2) (kv := 2) X hX hbl hL h3 hl hS 2 (by decide) (by decide) (by omega) d_law_227 d_law_228 d_law_229 d_law_230 d_law_231 ?_
  refine R_smV (rest := []) X hP hD hS (List.all_eq_true.mp xF_ok) had (j := j_A_home) (M := m_A_home) rfl (a := 42) (as := [.int (xs (i + 1)), .int (xs (i + 2))]) (cl_home _ _ σ hB hQ) rfl (lawL_ok (i := 2) rfl rfl) rfl rfl (show 2 + 1 = m_A_home.2.2.2.2.1.2.2.2 % 100 by decide) ⟨(Nat.le_of_ble_eq_true rfl), (Nat.le_of_ble_eq_true rfl)⟩ hl.1 (Nat.le_of_ble_eq_true rfl) (Nat.le_of_ble_eq_true rfl) (Nat.le_of_ble_eq_true rfl) d_law_232 ?_
  rintro r σ1 H1 locs1 ⟨x, rfl, hq⟩ hP hD hS
  refine lv_pop X.hx X.hb d_law_235 rfl ?_
  refine lv_aload_n X.hx X.hb d_law_236 rfl (lv_at hl 1 rfl) ?_
  refine R_arg (kz := 1) (kv := 1) X hX hbl hL h3 hl hS 1 (by decide) (by decide) (by omega) d_law_237 d_law_238 d_law_239 d_law_240 d_law_241 ?_
  refine R_arg (kz := 2) (kv := 2) X hX hbl hL h3 hl hS 2 (by decide) (by decide) (by omega) d_law_242 d_law_243 d_law_244 d_law_245 d_law_246 ?_
  refine R_smV (rest := []) X hP hD hS (List.all_eq_true.mp xF_ok) had (j := j_M_home) (M := m_M_home) rfl (a := 168) (as := [.int (xs (i + 1)), .int (xs (i + 2))]) hq rfl (lawL_ok (i := 3) rfl rfl) rfl rfl (show 2 + 1 = m_M_home.2.2.2.2.1.2.2.2 % 100 by decide) ⟨(Nat.le_of_ble_eq_true rfl), (Nat.le_of_ble_eq_true rfl)⟩ hl.1 (Nat.le_of_ble_eq_true rfl) (Nat.le_of_ble_eq_true rfl) (Nat.le_of_ble_eq_true rfl) d_law_247 ?_
  rintro r σ2 H2 locs2 ⟨y, rfl, hc, hQ⟩ hP hD hS
  refine lv_pop X.hx X.hb d_law_250 rfl ?_
  refine lv_goto (tgt := 1249) X.hx X.hb d_law_251 (by decide) ?_
  exact kk σ2 H2 locs2 hQ hP hD hS
set_option maxRecDepth 100000 in
set_option maxHeartbeats 400000 in
theorem law_c2 (X : CX p s m #[.ref b] c lw_tbl "SpansAwayLaw" code 4 D cA tb s.heap.size (fun q => s.heap.size ≤ q)) (hX : va_X b Ln xs s s.heap) (hbl : b < s.heap.size) (hL : Ln ≤ 2560) (had : ∀ t q, sm_TB[t]? = some q → ad (1000 + t) = tb (1000 + t)) (h3 : x3.toInt = i) (hi : i + 5 ≤ Ln) (hB : 1488000 * n < 1500000000) (hl : lv_has L 4 [(3, .int x3), (2, .ref (ad 168)), (1, .ref (ad 42)), (0, .ref b)]) (hQ : LR (1488000 * n) σ) (hP : va_P D vwCl (sm_W xF ad cA σ) H) (hD : va_D (fun q => s.heap.size ≤ q) (sm_W xF ad cA σ)) (hS : va_S (fun q => s.heap.size ≤ q) s.heap H locs) (kk : ∀ (σ' : sm_S) (H : Heap) (locs : List Loc), LR (1488000 * n + 1488000) σ' → va_P D vwCl (sm_W xF ad cA σ') H → va_D (fun q => s.heap.size ≤ q) (sm_W xF ad cA σ') → va_S (fun q => s.heap.size ≤ q) s.heap H locs → W p l e room_1 s m #[.ref b] below meth c H locs 174 17642 Q (F0 m 1249 L [])) : W p l e room_1 s m #[.ref b] below meth c H locs 174 17642 Q (F0 m 254 L []) := by
  refine lv_aload_n X.hx X.hb d_law_254 rfl (lv_at hl 2 rfl) ?_
  refine R_arg (kz := 1) (kv := 1) X hX hbl hL h3 hl hS 1 (by decide) (by decide) (by omega) d_law_255 d_law_256 d_law_257 d_law_258 d_law_259 ?_
  refine R_arg (kz := 2) (kv := 2) X hX hbl hL h3 hl hS 2 (by decide) (by decide) (by omega) d_law_260 d_law_261 d_law_262 d_law_263 d_law_264 ?_
  refine R_arg (kz := 3) (kv := 3) X hX hbl hL h3 hl hS 3 (by decide) (by decide) (by omega) d_law_265 d_law_266 d_law_267 d_law_268 d_law_269 ?_
  refine R_arg (kz := 4) (kv := 4) X hX hbl hL h3 hl hS 4 (by decide) (by decide) (by omega) d_law_270 d_law_271 d_law_272 d_law_273 d_law_274 ?_
  refine R_smV (rest := []) X hP hD hS (List.all_eq_true.mp xF_ok) had (j := j_A_take) (M := m_A_take) rfl (a := 42) (as := [.int (xs (i + 1)), .int (xs (i + 2)), .int (xs (i + 3)), .int (xs (i + 4))]) (cl_take _ _ _ _ σ hB hQ) rfl (lawL_ok (i := 4) rfl rfl) rfl rfl (show 4 + 1 = m_A_take.2.2.2.2.1.2.2.2 % 100 by decide) ⟨(Nat.le_of_ble_eq_true rfl), (Nat.le_of_ble_eq_true rfl)⟩ hl.1 (Nat.le_of_ble_eq_true rfl) (Nat.le_of_ble_eq_true rfl) (Nat.le_of_ble_eq_true rfl) d_law_275 ?_
  rintro r σ1 H1 locs1 ⟨x, rfl, hq⟩ hP hD hS
  refine lv_pop X.hx X.hb d_law_278 rfl ?_
  refine lv_aload_n X.hx X.hb d_law_279 rfl (lv_at hl 1 rfl) ?_
  refine R_arg (kz := 1) (kv := 1) X hX hbl hL h3 hl hS 1 (by decide) (by decide) (by omega) d_law_280 d_law_281 d_law_282 d_law_283 d_law_284 ?_
  refine R_arg (kz := 2) (kv := 2) X hX hbl hL h3 hl hS 2 (by decide) (by decide) (by omega) d_law_285 d_law_286 d_law_287 d_law_288 d_law_289 ?_
  refine R_arg (kz := 3) (kv := 3) X hX hbl hL h3 hl hS 3 (by decide) (by decide) (by omega) d_law_290 d_law_291 d_law_292 d_law_293 d_law_294 ?_
  refine R_arg (kz := 4) (kv := 4) X hX hbl hL h3 hl hS 4 (by decide) (by decide) (by omega) d_law_295 d_law_296 d_law_297 d_law_298 d_law_299 ?_
  refine R_smV (rest := []) X hP hD hS (List.all_eq_true.mp xF_ok) had (j := j_M_take) (M := m_M_take) rfl (a := 168) (as := [.int (xs (i + 1)), .int (xs (i + 2)), .int (xs (i + 3)), .int (xs (i + 4))]) hq rfl (lawL_ok (i := 5) rfl rfl) rfl rfl (show 4 + 1 = m_M_take.2.2.2.2.1.2.2.2 % 100 by decide) ⟨(Nat.le_of_ble_eq_true rfl), (Nat.le_of_ble_eq_true rfl)⟩ hl.1 (Nat.le_of_ble_eq_true rfl) (Nat.le_of_ble_eq_true rfl) (Nat.le_of_ble_eq_true rfl) d_law_300 ?_
  rintro r σ2 H2 locs2 ⟨y, rfl, hc, hQ⟩ hP hD hS
  refine lv_pop X.hx X.hb d_law_303 rfl ?_
  refine lv_goto (tgt := 1249) X.hx X.hb d_law_304 (by decide) ?_
  exact kk σ2 H2 locs2 hQ hP hD hS
set_option maxRecDepth 100000 in
set_option maxHeartbeats 400000 in
theorem law_c3 (X : CX p s m #[.ref b] c lw_tbl "SpansAwayLaw" code 4 D cA tb s.heap.size (fun q => s.heap.size ≤ q)) (hX : va_X b Ln xs s s.heap) (hbl : b < s.heap.size) (hL : Ln ≤ 2560) (had : ∀ t q, sm_TB[t]? = some q → ad (1000 + t) = tb (1000 + t)) (h3 : x3.toInt = i) (hi : i + 5 ≤ Ln) (hB : 1488000 * n < 1500000000) (hl : lv_has L 4 [(3, .int x3), (2, .ref (ad 168)), (1, .ref (ad 42)), (0, .ref b)]) (hQ : LR (1488000 * n) σ) (hP : va_P D vwCl (sm_W xF ad cA σ) H) (hD : va_D (fun q => s.heap.size ≤ q) (sm_W xF ad cA σ)) (hS : va_S (fun q => s.heap.size ≤ q) s.heap H locs) (kk : ∀ (σ' : sm_S) (H : Heap) (locs : List Loc), LR (1488000 * n + 1488000) σ' → va_P D vwCl (sm_W xF ad cA σ') H → va_D (fun q => s.heap.size ≤ q) (sm_W xF ad cA σ') → va_S (fun q => s.heap.size ≤ q) s.heap H locs → W p l e room_1 s m #[.ref b] below meth c H locs 174 17642 Q (F0 m 1249 L [])) : W p l e room_1 s m #[.ref b] below meth c H locs 174 17642 Q (F0 m 307 L []) := by
  refine lv_aload_n X.hx X.hb d_law_307 rfl (lv_at hl 2 rfl) ?_
  refine R_arg (kz := 1) (kv := 1) X hX hbl hL h3 hl hS 1 (by decide) (by decide) (by omega) d_law_308 d_law_309 d_law_310 d_law_311 d_law_312 ?_
  refine R_smV (rest := []) X hP hD hS (List.all_eq_true.mp xF_ok) had (j := j_A_free) (M := m_A_free) rfl (a := 42) (as := [.int (xs (i + 1))]) (cl_free _ σ hB hQ) rfl (lawL_ok (i := 6) rfl rfl) rfl rfl (show 1 + 1 = m_A_free.2.2.2.2.1.2.2.2 % 100 by decide) ⟨(Nat.le_of_ble_eq_true rfl), (Nat.le_of_ble_eq_true rfl)⟩ hl.1 (Nat.le_of_ble_eq_true rfl) (Nat.le_of_ble_eq_true rfl) (Nat.le_of_ble_eq_true rfl) d_law_313 ?_
  rintro r σ1 H1 locs1 ⟨x, rfl, hq⟩ hP hD hS
  refine lv_pop X.hx X.hb d_law_316 rfl ?_
  refine lv_aload_n X.hx X.hb d_law_317 rfl (lv_at hl 1 rfl) ?_
  refine R_arg (kz := 1) (kv := 1) X hX hbl hL h3 hl hS 1 (by decide) (by decide) (by omega) d_law_318 d_law_319 d_law_320 d_law_321 d_law_322 ?_
  refine R_smV (rest := []) X hP hD hS (List.all_eq_true.mp xF_ok) had (j := j_M_free) (M := m_M_free) rfl (a := 168) (as := [.int (xs (i + 1))]) hq rfl (lawL_ok (i := 7) rfl rfl) rfl rfl (show 1 + 1 = m_M_free.2.2.2.2.1.2.2.2 % 100 by decide) ⟨(Nat.le_of_ble_eq_true rfl), (Nat.le_of_ble_eq_true rfl)⟩ hl.1 (Nat.le_of_ble_eq_true rfl) (Nat.le_of_ble_eq_true rfl) (Nat.le_of_ble_eq_true rfl) d_law_323 ?_
  rintro r σ2 H2 locs2 ⟨y, rfl, hc, hQ⟩ hP hD hS
  refine lv_pop X.hx X.hb d_law_326 rfl ?_
  refine lv_goto (tgt := 1249) X.hx X.hb d_law_327 (by decide) ?_
  exact kk σ2 H2 locs2 hQ hP hD hS
set_option maxRecDepth 100000 in
set_option maxHeartbeats 400000 in
theorem law_c4 (X : CX p s m #[.ref b] c lw_tbl "SpansAwayLaw" code 4 D cA tb s.heap.size (fun q => s.heap.size ≤ q)) (hX : va_X b Ln xs s s.heap) (hbl : b < s.heap.size) (hL : Ln ≤ 2560) (had : ∀ t q, sm_TB[t]? = some q → ad (1000 + t) = tb (1000 + t)) (h3 : x3.toInt = i) (hi : i + 5 ≤ Ln) (hB : 1488000 * n < 1500000000) (hl : lv_has L 4 [(3, .int x3), (2, .ref (ad 168)), (1, .ref (ad 42)), (0, .ref b)]) (hQ : LR (1488000 * n) σ) (hP : va_P D vwCl (sm_W xF ad cA σ) H) (hD : va_D (fun q => s.heap.size ≤ q) (sm_W xF ad cA σ)) (hS : va_S (fun q => s.heap.size ≤ q) s.heap H locs) (kk : ∀ (σ' : sm_S) (H : Heap) (locs : List Loc), LR (1488000 * n + 1488000) σ' → va_P D vwCl (sm_W xF ad cA σ') H → va_D (fun q => s.heap.size ≤ q) (sm_W xF ad cA σ') → va_S (fun q => s.heap.size ≤ q) s.heap H locs → W p l e room_1 s m #[.ref b] below meth c H locs 174 17642 Q (F0 m 1249 L [])) : W p l e room_1 s m #[.ref b] below meth c H locs 174 17642 Q (F0 m 330 L []) := by
  refine lv_aload_n X.hx X.hb d_law_330 rfl (lv_at hl 2 rfl) ?_
  refine R_arg (kz := 1) (kv := 1) X hX hbl hL h3 hl hS 1 (by decide) (by decide) (by omega) d_law_331 d_law_332 d_law_333 d_law_334 d_law_335 ?_
  refine R_arg (kz := 2) (kv := 2) X hX hbl hL h3 hl hS 2 (by decide) (by decide) (by omega) d_law_336 d_law_337 d_law_338 d_law_339 d_law_340 ?_
  refine R_arg (kz := 3) (kv := 3) X hX hbl hL h3 hl hS 3 (by decide) (by decide) (by omega) d_law_341 d_law_342 d_law_343 d_law_344 d_law_345 ?_
  refine R_smV (rest := []) X hP hD hS (List.all_eq_true.mp xF_ok) had (j := j_A_read) (M := m_A_read) rfl (a := 42) (as := [.int (xs (i + 1)), .int (xs (i + 2)), .int (xs (i + 3))]) (cl_read _ _ _ σ hB hQ) rfl (lawL_ok (i := 8) rfl rfl) rfl rfl (show 3 + 1 = m_A_read.2.2.2.2.1.2.2.2 % 100 by decide) ⟨(Nat.le_of_ble_eq_true rfl), (Nat.le_of_ble_eq_true rfl)⟩ hl.1 (Nat.le_of_ble_eq_true rfl) (Nat.le_of_ble_eq_true rfl) (Nat.le_of_ble_eq_true rfl) d_law_346 ?_
  rintro r σ1 H1 locs1 ⟨x, rfl, hq⟩ hP hD hS
  refine lv_pop X.hx X.hb d_law_349 rfl ?_
  refine lv_aload_n X.hx X.hb d_law_350 rfl (lv_at hl 1 rfl) ?_
  refine R_arg (kz := 1) (kv := 1) X hX hbl hL h3 hl hS 1 (by decide) (by decide) (by omega) d_law_351 d_law_352 d_law_353 d_law_354 d_law_355 ?_
  refine R_arg (kz := 2) (kv := 2) X hX hbl hL h3 hl hS 2 (by decide) (by decide) (by omega) d_law_356 d_law_357 d_law_358 d_law_359 d_law_360 ?_
  refine R_arg (kz := 3) (kv := 3) X hX hbl hL h3 hl hS 3 (by decide) (by decide) (by omega) d_law_361 d_law_362 d_law_363 d_law_364 d_law_365 ?_
  refine R_smV (rest := []) X hP hD hS (List.all_eq_true.mp xF_ok) had (j := j_M_read) (M := m_M_read) rfl (a := 168) (as := [.int (xs (i + 1)), .int (xs (i + 2)), .int (xs (i + 3))]) hq rfl (lawL_ok (i := 9) rfl rfl) rfl rfl (show 3 + 1 = m_M_read.2.2.2.2.1.2.2.2 % 100 by decide) ⟨(Nat.le_of_ble_eq_true rfl), (Nat.le_of_ble_eq_true rfl)⟩ hl.1 (Nat.le_of_ble_eq_true rfl) (Nat.le_of_ble_eq_true rfl) (Nat.le_of_ble_eq_true rfl) d_law_366 ?_
  rintro r σ2 H2 locs2 ⟨y, rfl, hc, hQ⟩ hP hD hS
  refine lv_pop X.hx X.hb d_law_369 rfl ?_
  refine lv_goto (tgt := 1249) X.hx X.hb d_law_370 (by decide) ?_
  exact kk σ2 H2 locs2 hQ hP hD hS
set_option maxRecDepth 100000 in
set_option maxHeartbeats 400000 in
theorem law_c5 (X : CX p s m #[.ref b] c lw_tbl "SpansAwayLaw" code 4 D cA tb s.heap.size (fun q => s.heap.size ≤ q)) (hX : va_X b Ln xs s s.heap) (hbl : b < s.heap.size) (hL : Ln ≤ 2560) (had : ∀ t q, sm_TB[t]? = some q → ad (1000 + t) = tb (1000 + t)) (h3 : x3.toInt = i) (hi : i + 5 ≤ Ln) (hB : 1488000 * n < 1500000000) (hl : lv_has L 4 [(3, .int x3), (2, .ref (ad 168)), (1, .ref (ad 42)), (0, .ref b)]) (hQ : LR (1488000 * n) σ) (hP : va_P D vwCl (sm_W xF ad cA σ) H) (hD : va_D (fun q => s.heap.size ≤ q) (sm_W xF ad cA σ)) (hS : va_S (fun q => s.heap.size ≤ q) s.heap H locs) (kk : ∀ (σ' : sm_S) (H : Heap) (locs : List Loc), LR (1488000 * n + 1488000) σ' → va_P D vwCl (sm_W xF ad cA σ') H → va_D (fun q => s.heap.size ≤ q) (sm_W xF ad cA σ') → va_S (fun q => s.heap.size ≤ q) s.heap H locs → W p l e room_1 s m #[.ref b] below meth c H locs 174 17642 Q (F0 m 1249 L [])) : W p l e room_1 s m #[.ref b] below meth c H locs 174 17642 Q (F0 m 373 L []) := by
  refine lv_aload_n X.hx X.hb d_law_373 rfl (lv_at hl 2 rfl) ?_
  refine R_arg (kz := 1) (kv := 1) X hX hbl hL h3 hl hS 1 (by decide) (by decide) (by omega) d_law_374 d_law_375 d_law_376 d_law_377 d_law_378 ?_
  refine R_arg (kz := 2) (kv := 2) X hX hbl hL h3 hl hS 2 (by decide) (by decide) (by omega) d_law_379 d_law_380 d_law_381 d_law_382 d_law_383 ?_
  refine R_arg (kz := 3) (kv := 3) X hX hbl hL h3 hl hS 3 (by decide) (by decide) (by omega) d_law_384 d_law_385 d_law_386 d_law_387 d_law_388 ?_
  refine R_arg (kz := 4) (kv := 4) X hX hbl hL h3 hl hS 4 (by decide) (by decide) (by omega) d_law_389 d_law_390 d_law_391 d_law_392 d_law_393 ?_
  refine R_smV (rest := []) X hP hD hS (List.all_eq_true.mp xF_ok) had (j := j_A_write) (M := m_A_write) rfl (a := 42) (as := [.int (xs (i + 1)), .int (xs (i + 2)), .int (xs (i + 3)), .int (xs (i + 4))]) (cl_write _ _ _ _ σ hB hQ) rfl (lawL_ok (i := 10) rfl rfl) rfl rfl (show 4 + 1 = m_A_write.2.2.2.2.1.2.2.2 % 100 by decide) ⟨(Nat.le_of_ble_eq_true rfl), (Nat.le_of_ble_eq_true rfl)⟩ hl.1 (Nat.le_of_ble_eq_true rfl) (Nat.le_of_ble_eq_true rfl) (Nat.le_of_ble_eq_true rfl) d_law_394 ?_
  rintro r σ1 H1 locs1 ⟨x, rfl, hq⟩ hP hD hS
  refine lv_pop X.hx X.hb d_law_397 rfl ?_
  refine lv_aload_n X.hx X.hb d_law_398 rfl (lv_at hl 1 rfl) ?_
  refine R_arg (kz := 1) (kv := 1) X hX hbl hL h3 hl hS 1 (by decide) (by decide) (by omega) d_law_399 d_law_400 d_law_401 d_law_402 d_law_403 ?_
  refine R_arg (kz := 2) (kv := 2) X hX hbl hL h3 hl hS 2 (by decide) (by decide) (by omega) d_law_404 d_law_405 d_law_406 d_law_407 d_law_408 ?_
  refine R_arg (kz := 3) (kv := 3) X hX hbl hL h3 hl hS 3 (by decide) (by decide) (by omega) d_law_409 d_law_410 d_law_411 d_law_412 d_law_413 ?_
  refine R_arg (kz := 4) (kv := 4) X hX hbl hL h3 hl hS 4 (by decide) (by decide) (by omega) d_law_414 d_law_415 d_law_416 d_law_417 d_law_418 ?_
  refine R_smV (rest := []) X hP hD hS (List.all_eq_true.mp xF_ok) had (j := j_M_write) (M := m_M_write) rfl (a := 168) (as := [.int (xs (i + 1)), .int (xs (i + 2)), .int (xs (i + 3)), .int (xs (i + 4))]) hq rfl (lawL_ok (i := 11) rfl rfl) rfl rfl (show 4 + 1 = m_M_write.2.2.2.2.1.2.2.2 % 100 by decide) ⟨(Nat.le_of_ble_eq_true rfl), (Nat.le_of_ble_eq_true rfl)⟩ hl.1 (Nat.le_of_ble_eq_true rfl) (Nat.le_of_ble_eq_true rfl) (Nat.le_of_ble_eq_true rfl) d_law_419 ?_
  rintro r σ2 H2 locs2 ⟨y, rfl, hc, hQ⟩ hP hD hS
  refine lv_pop X.hx X.hb d_law_422 rfl ?_
  refine lv_goto (tgt := 1249) X.hx X.hb d_law_423 (by decide) ?_
  exact kk σ2 H2 locs2 hQ hP hD hS
set_option maxRecDepth 100000 in
set_option maxHeartbeats 400000 in
theorem law_c6 (X : CX p s m #[.ref b] c lw_tbl "SpansAwayLaw" code 4 D cA tb s.heap.size (fun q => s.heap.size ≤ q)) (hX : va_X b Ln xs s s.heap) (hbl : b < s.heap.size) (hL : Ln ≤ 2560) (had : ∀ t q, sm_TB[t]? = some q → ad (1000 + t) = tb (1000 + t)) (h3 : x3.toInt = i) (hi : i + 5 ≤ Ln) (hB : 1488000 * n < 1500000000) (hl : lv_has L 4 [(3, .int x3), (2, .ref (ad 168)), (1, .ref (ad 42)), (0, .ref b)]) (hQ : LR (1488000 * n) σ) (hP : va_P D vwCl (sm_W xF ad cA σ) H) (hD : va_D (fun q => s.heap.size ≤ q) (sm_W xF ad cA σ)) (hS : va_S (fun q => s.heap.size ≤ q) s.heap H locs) (kk : ∀ (σ' : sm_S) (H : Heap) (locs : List Loc), LR (1488000 * n + 1488000) σ' → va_P D vwCl (sm_W xF ad cA σ') H → va_D (fun q => s.heap.size ≤ q) (sm_W xF ad cA σ') → va_S (fun q => s.heap.size ≤ q) s.heap H locs → W p l e room_1 s m #[.ref b] below meth c H locs 174 17642 Q (F0 m 1249 L [])) : W p l e room_1 s m #[.ref b] below meth c H locs 174 17642 Q (F0 m 426 L []) := by
  refine lv_aload_n X.hx X.hb d_law_426 rfl (lv_at hl 2 rfl) ?_
  refine R_arg (kz := 1) (kv := 1) X hX hbl hL h3 hl hS 1 (by decide) (by decide) (by omega) d_law_427 d_law_428 d_law_429 d_law_430 d_law_431 ?_
  refine R_arg (kz := 2) (kv := 2) X hX hbl hL h3 hl hS 2 (by decide) (by decide) (by omega) d_law_432 d_law_433 d_law_434 d_law_435 d_law_436 ?_
  refine R_smV (rest := []) X hP hD hS (List.all_eq_true.mp xF_ok) had (j := j_A_pin) (M := m_A_pin) rfl (a := 42) (as := [.int (xs (i + 1)), .int (xs (i + 2))]) (cl_pin _ _ σ hB hQ) rfl (lawL_ok (i := 12) rfl rfl) rfl rfl (show 2 + 1 = m_A_pin.2.2.2.2.1.2.2.2 % 100 by decide) ⟨(Nat.le_of_ble_eq_true rfl), (Nat.le_of_ble_eq_true rfl)⟩ hl.1 (Nat.le_of_ble_eq_true rfl) (Nat.le_of_ble_eq_true rfl) (Nat.le_of_ble_eq_true rfl) d_law_437 ?_
  rintro r σ1 H1 locs1 ⟨x, rfl, hq⟩ hP hD hS
  refine lv_pop X.hx X.hb d_law_440 rfl ?_
  refine lv_aload_n X.hx X.hb d_law_441 rfl (lv_at hl 1 rfl) ?_
  refine R_arg (kz := 1) (kv := 1) X hX hbl hL h3 hl hS 1 (by decide) (by decide) (by omega) d_law_442 d_law_443 d_law_444 d_law_445 d_law_446 ?_
  refine R_arg (kz := 2) (kv := 2) X hX hbl hL h3 hl hS 2 (by decide) (by decide) (by omega) d_law_447 d_law_448 d_law_449 d_law_450 d_law_451 ?_
  refine R_smV (rest := []) X hP hD hS (List.all_eq_true.mp xF_ok) had (j := j_M_pin) (M := m_M_pin) rfl (a := 168) (as := [.int (xs (i + 1)), .int (xs (i + 2))]) hq rfl (lawL_ok (i := 13) rfl rfl) rfl rfl (show 2 + 1 = m_M_pin.2.2.2.2.1.2.2.2 % 100 by decide) ⟨(Nat.le_of_ble_eq_true rfl), (Nat.le_of_ble_eq_true rfl)⟩ hl.1 (Nat.le_of_ble_eq_true rfl) (Nat.le_of_ble_eq_true rfl) (Nat.le_of_ble_eq_true rfl) d_law_452 ?_
  rintro r σ2 H2 locs2 ⟨y, rfl, hc, hQ⟩ hP hD hS
  refine lv_pop X.hx X.hb d_law_455 rfl ?_
  refine lv_goto (tgt := 1249) X.hx X.hb d_law_456 (by decide) ?_
  exact kk σ2 H2 locs2 hQ hP hD hS
set_option maxRecDepth 100000 in
set_option maxHeartbeats 400000 in
theorem law_c7 (X : CX p s m #[.ref b] c lw_tbl "SpansAwayLaw" code 4 D cA tb s.heap.size (fun q => s.heap.size ≤ q)) (hX : va_X b Ln xs s s.heap) (hbl : b < s.heap.size) (hL : Ln ≤ 2560) (had : ∀ t q, sm_TB[t]? = some q → ad (1000 + t) = tb (1000 + t)) (h3 : x3.toInt = i) (hi : i + 5 ≤ Ln) (hB : 1488000 * n < 1500000000) (hl : lv_has L 4 [(3, .int x3), (2, .ref (ad 168)), (1, .ref (ad 42)), (0, .ref b)]) (hQ : LR (1488000 * n) σ) (hP : va_P D vwCl (sm_W xF ad cA σ) H) (hD : va_D (fun q => s.heap.size ≤ q) (sm_W xF ad cA σ)) (hS : va_S (fun q => s.heap.size ≤ q) s.heap H locs) (kk : ∀ (σ' : sm_S) (H : Heap) (locs : List Loc), LR (1488000 * n + 1488000) σ' → va_P D vwCl (sm_W xF ad cA σ') H → va_D (fun q => s.heap.size ≤ q) (sm_W xF ad cA σ') → va_S (fun q => s.heap.size ≤ q) s.heap H locs → W p l e room_1 s m #[.ref b] below meth c H locs 174 17642 Q (F0 m 1249 L [])) : W p l e room_1 s m #[.ref b] below meth c H locs 174 17642 Q (F0 m 459 L []) := by
  refine lv_aload_n X.hx X.hb d_law_459 rfl (lv_at hl 2 rfl) ?_
  refine R_arg (kz := 1) (kv := 1) X hX hbl hL h3 hl hS 1 (by decide) (by decide) (by omega) d_law_460 d_law_461 d_law_462 d_law_463 d_law_464 ?_
  refine R_arg (kz := 2) (kv := 2) X hX hbl hL h3 hl hS 2 (by decide) (by decide) (by omega) d_law_465 d_law_466 d_law_467 d_law_468 d_law_469 ?_
  refine R_smV (rest := []) X hP hD hS (List.all_eq_true.mp xF_ok) had (j := j_A_unpin) (M := m_A_unpin) rfl (a := 42) (as := [.int (xs (i + 1)), .int (xs (i + 2))]) (cl_unpin _ _ σ hB hQ) rfl (lawL_ok (i := 14) rfl rfl) rfl rfl (show 2 + 1 = m_A_unpin.2.2.2.2.1.2.2.2 % 100 by decide) ⟨(Nat.le_of_ble_eq_true rfl), (Nat.le_of_ble_eq_true rfl)⟩ hl.1 (Nat.le_of_ble_eq_true rfl) (Nat.le_of_ble_eq_true rfl) (Nat.le_of_ble_eq_true rfl) d_law_470 ?_
  rintro r σ1 H1 locs1 ⟨x, rfl, hq⟩ hP hD hS
  refine lv_pop X.hx X.hb d_law_473 rfl ?_
  refine lv_aload_n X.hx X.hb d_law_474 rfl (lv_at hl 1 rfl) ?_
  refine R_arg (kz := 1) (kv := 1) X hX hbl hL h3 hl hS 1 (by decide) (by decide) (by omega) d_law_475 d_law_476 d_law_477 d_law_478 d_law_479 ?_
  refine R_arg (kz := 2) (kv := 2) X hX hbl hL h3 hl hS 2 (by decide) (by decide) (by omega) d_law_480 d_law_481 d_law_482 d_law_483 d_law_484 ?_
  refine R_smV (rest := []) X hP hD hS (List.all_eq_true.mp xF_ok) had (j := j_M_unpin) (M := m_M_unpin) rfl (a := 168) (as := [.int (xs (i + 1)), .int (xs (i + 2))]) hq rfl (lawL_ok (i := 15) rfl rfl) rfl rfl (show 2 + 1 = m_M_unpin.2.2.2.2.1.2.2.2 % 100 by decide) ⟨(Nat.le_of_ble_eq_true rfl), (Nat.le_of_ble_eq_true rfl)⟩ hl.1 (Nat.le_of_ble_eq_true rfl) (Nat.le_of_ble_eq_true rfl) (Nat.le_of_ble_eq_true rfl) d_law_485 ?_
  rintro r σ2 H2 locs2 ⟨y, rfl, hc, hQ⟩ hP hD hS
  refine lv_pop X.hx X.hb d_law_488 rfl ?_
  refine lv_goto (tgt := 1249) X.hx X.hb d_law_489 (by decide) ?_
  exact kk σ2 H2 locs2 hQ hP hD hS
set_option maxRecDepth 100000 in
set_option maxHeartbeats 400000 in
theorem law_c8 (X : CX p s m #[.ref b] c lw_tbl "SpansAwayLaw" code 4 D cA tb s.heap.size (fun q => s.heap.size ≤ q)) (hX : va_X b Ln xs s s.heap) (hbl : b < s.heap.size) (hL : Ln ≤ 2560) (had : ∀ t q, sm_TB[t]? = some q → ad (1000 + t) = tb (1000 + t)) (h3 : x3.toInt = i) (hi : i + 5 ≤ Ln) (hB : 1488000 * n < 1500000000) (hl : lv_has L 4 [(3, .int x3), (2, .ref (ad 168)), (1, .ref (ad 42)), (0, .ref b)]) (hQ : LR (1488000 * n) σ) (hP : va_P D vwCl (sm_W xF ad cA σ) H) (hD : va_D (fun q => s.heap.size ≤ q) (sm_W xF ad cA σ)) (hS : va_S (fun q => s.heap.size ≤ q) s.heap H locs) (kk : ∀ (σ' : sm_S) (H : Heap) (locs : List Loc), LR (1488000 * n + 1488000) σ' → va_P D vwCl (sm_W xF ad cA σ') H → va_D (fun q => s.heap.size ≤ q) (sm_W xF ad cA σ') → va_S (fun q => s.heap.size ≤ q) s.heap H locs → W p l e room_1 s m #[.ref b] below meth c H locs 174 17642 Q (F0 m 1249 L [])) : W p l e room_1 s m #[.ref b] below meth c H locs 174 17642 Q (F0 m 492 L []) := by
  refine lv_aload_n X.hx X.hb d_law_492 rfl (lv_at hl 2 rfl) ?_
  refine R_arg (kz := 1) (kv := 1) X hX hbl hL h3 hl hS 1 (by decide) (by decide) (by omega) d_law_493 d_law_494 d_law_495 d_law_496 d_law_497 ?_
  refine R_arg (kz := 2) (kv := 2) X hX hbl hL h3 hl hS 2 (by decide) (by decide) (by omega) d_law_498 d_law_499 d_law_500 d_law_501 d_law_502 ?_
  refine R_smV (rest := []) X hP hD hS (List.all_eq_true.mp xF_ok) had (j := j_A_come) (M := m_A_come) rfl (a := 42) (as := [.int (xs (i + 1)), .int (xs (i + 2))]) (cl_come _ _ σ hB hQ) rfl (lawL_ok (i := 16) rfl rfl) rfl rfl (show 2 + 1 = m_A_come.2.2.2.2.1.2.2.2 % 100 by decide) ⟨(Nat.le_of_ble_eq_true rfl), (Nat.le_of_ble_eq_true rfl)⟩ hl.1 (Nat.le_of_ble_eq_true rfl) (Nat.le_of_ble_eq_true rfl) (Nat.le_of_ble_eq_true rfl) d_law_503 ?_
  rintro r σ1 H1 locs1 ⟨x, rfl, hq⟩ hP hD hS
  refine lv_pop X.hx X.hb d_law_506 rfl ?_
  refine lv_aload_n X.hx X.hb d_law_507 rfl (lv_at hl 1 rfl) ?_
  refine R_arg (kz := 1) (kv := 1) X hX hbl hL h3 hl hS 1 (by decide) (by decide) (by omega) d_law_508 d_law_509 d_law_510 d_law_511 d_law_512 ?_
  refine R_arg (kz := 2) (kv := 2) X hX hbl hL h3 hl hS 2 (by decide) (by decide) (by omega) d_law_513 d_law_514 d_law_515 d_law_516 d_law_517 ?_
  refine R_smV (rest := []) X hP hD hS (List.all_eq_true.mp xF_ok) had (j := j_M_come) (M := m_M_come) rfl (a := 168) (as := [.int (xs (i + 1)), .int (xs (i + 2))]) hq rfl (lawL_ok (i := 17) rfl rfl) rfl rfl (show 2 + 1 = m_M_come.2.2.2.2.1.2.2.2 % 100 by decide) ⟨(Nat.le_of_ble_eq_true rfl), (Nat.le_of_ble_eq_true rfl)⟩ hl.1 (Nat.le_of_ble_eq_true rfl) (Nat.le_of_ble_eq_true rfl) (Nat.le_of_ble_eq_true rfl) d_law_518 ?_
  rintro r σ2 H2 locs2 ⟨y, rfl, hc, hQ⟩ hP hD hS
  refine lv_pop X.hx X.hb d_law_521 rfl ?_
  refine lv_goto (tgt := 1249) X.hx X.hb d_law_522 (by decide) ?_
  exact kk σ2 H2 locs2 hQ hP hD hS
set_option maxRecDepth 100000 in
set_option maxHeartbeats 400000 in
theorem law_c9 (X : CX p s m #[.ref b] c lw_tbl "SpansAwayLaw" code 4 D cA tb s.heap.size (fun q => s.heap.size ≤ q)) (hX : va_X b Ln xs s s.heap) (hbl : b < s.heap.size) (hL : Ln ≤ 2560) (had : ∀ t q, sm_TB[t]? = some q → ad (1000 + t) = tb (1000 + t)) (h3 : x3.toInt = i) (hi : i + 5 ≤ Ln) (hB : 1488000 * n < 1500000000) (hl : lv_has L 4 [(3, .int x3), (2, .ref (ad 168)), (1, .ref (ad 42)), (0, .ref b)]) (hQ : LR (1488000 * n) σ) (hP : va_P D vwCl (sm_W xF ad cA σ) H) (hD : va_D (fun q => s.heap.size ≤ q) (sm_W xF ad cA σ)) (hS : va_S (fun q => s.heap.size ≤ q) s.heap H locs) (kk : ∀ (σ' : sm_S) (H : Heap) (locs : List Loc), LR (1488000 * n + 1488000) σ' → va_P D vwCl (sm_W xF ad cA σ') H → va_D (fun q => s.heap.size ≤ q) (sm_W xF ad cA σ') → va_S (fun q => s.heap.size ≤ q) s.heap H locs → W p l e room_1 s m #[.ref b] below meth c H locs 174 17642 Q (F0 m 1249 L [])) : W p l e room_1 s m #[.ref b] below meth c H locs 174 17642 Q (F0 m 525 L []) := by
  refine lv_aload_n X.hx X.hb d_law_525 rfl (lv_at hl 2 rfl) ?_
  refine R_arg (kz := 1) (kv := 1) X hX hbl hL h3 hl hS 1 (by decide) (by decide) (by omega) d_law_526 d_law_527 d_law_528 d_law_529 d_law_530 ?_
  refine R_smV (rest := []) X hP hD hS (List.all_eq_true.mp xF_ok) had (j := j_A_byTurns) (M := m_A_byTurns) rfl (a := 42) (as := [.int (xs (i + 1))]) (cl_byTurns _ σ hB hQ) rfl (lawL_ok (i := 18) rfl rfl) rfl rfl (show 1 + 1 = m_A_byTurns.2.2.2.2.1.2.2.2 % 100 by decide) ⟨(Nat.le_of_ble_eq_true rfl), (Nat.le_of_ble_eq_true rfl)⟩ hl.1 (Nat.le_of_ble_eq_true rfl) (Nat.le_of_ble_eq_true rfl) (Nat.le_of_ble_eq_true rfl) d_law_531 ?_
  rintro r σ1 H1 locs1 ⟨x, rfl, hq⟩ hP hD hS
  refine lv_pop X.hx X.hb d_law_534 rfl ?_
  refine lv_aload_n X.hx X.hb d_law_535 rfl (lv_at hl 1 rfl) ?_
  refine R_arg (kz := 1) (kv := 1) X hX hbl hL h3 hl hS 1 (by decide) (by decide) (by omega) d_law_536 d_law_537 d_law_538 d_law_539 d_law_540 ?_
  refine R_smV (rest := []) X hP hD hS (List.all_eq_true.mp xF_ok) had (j := j_M_byTurns) (M := m_M_byTurns) rfl (a := 168) (as := [.int (xs (i + 1))]) hq rfl (lawL_ok (i := 19) rfl rfl) rfl rfl (show 1 + 1 = m_M_byTurns.2.2.2.2.1.2.2.2 % 100 by decide) ⟨(Nat.le_of_ble_eq_true rfl), (Nat.le_of_ble_eq_true rfl)⟩ hl.1 (Nat.le_of_ble_eq_true rfl) (Nat.le_of_ble_eq_true rfl) (Nat.le_of_ble_eq_true rfl) d_law_541 ?_
  rintro r σ2 H2 locs2 ⟨y, rfl, hc, hQ⟩ hP hD hS
  refine lv_pop X.hx X.hb d_law_544 rfl ?_
  refine lv_goto (tgt := 1249) X.hx X.hb d_law_545 (by decide) ?_
  exact kk σ2 H2 locs2 hQ hP hD hS
set_option maxRecDepth 100000 in
set_option maxHeartbeats 400000 in
theorem law_c10 (X : CX p s m #[.ref b] c lw_tbl "SpansAwayLaw" code 4 D cA tb s.heap.size (fun q => s.heap.size ≤ q)) (hX : va_X b Ln xs s s.heap) (hbl : b < s.heap.size) (hL : Ln ≤ 2560) (had : ∀ t q, sm_TB[t]? = some q → ad (1000 + t) = tb (1000 + t)) (h3 : x3.toInt = i) (hi : i + 5 ≤ Ln) (hB : 1488000 * n < 1500000000) (hl : lv_has L 4 [(3, .int x3), (2, .ref (ad 168)), (1, .ref (ad 42)), (0, .ref b)]) (hQ : LR (1488000 * n) σ) (hP : va_P D vwCl (sm_W xF ad cA σ) H) (hD : va_D (fun q => s.heap.size ≤ q) (sm_W xF ad cA σ)) (hS : va_S (fun q => s.heap.size ≤ q) s.heap H locs) (kk : ∀ (σ' : sm_S) (H : Heap) (locs : List Loc), LR (1488000 * n + 1488000) σ' → va_P D vwCl (sm_W xF ad cA σ') H → va_D (fun q => s.heap.size ≤ q) (sm_W xF ad cA σ') → va_S (fun q => s.heap.size ≤ q) s.heap H locs → W p l e room_1 s m #[.ref b] below meth c H locs 174 17642 Q (F0 m 1249 L [])) : W p l e room_1 s m #[.ref b] below meth c H locs 174 17642 Q (F0 m 548 L []) := by
  refine lv_aload_n X.hx X.hb d_law_548 rfl (lv_at hl 2 rfl) ?_
  refine R_arg (kz := 1) (kv := 1) X hX hbl hL h3 hl hS 1 (by decide) (by decide) (by omega) d_law_549 d_law_550 d_law_551 d_law_552 d_law_553 ?_
  refine R_smV (rest := []) X hP hD hS (List.all_eq_true.mp xF_ok) had (j := j_A_press) (M := m_A_press) rfl (a := 42) (as := [.int (xs (i + 1))]) (cl_press _ σ hB hQ) rfl (lawL_ok (i := 20) rfl rfl) rfl rfl (show 1 + 1 = m_A_press.2.2.2.2.1.2.2.2 % 100 by decide) ⟨(Nat.le_of_ble_eq_true rfl), (Nat.le_of_ble_eq_true rfl)⟩ hl.1 (Nat.le_of_ble_eq_true rfl) (Nat.le_of_ble_eq_true rfl) (Nat.le_of_ble_eq_true rfl) d_law_554 ?_
  rintro r σ1 H1 locs1 ⟨x, rfl, hq⟩ hP hD hS
  refine lv_pop X.hx X.hb d_law_557 rfl ?_
  refine lv_aload_n X.hx X.hb d_law_558 rfl (lv_at hl 1 rfl) ?_
  refine R_arg (kz := 1) (kv := 1) X hX hbl hL h3 hl hS 1 (by decide) (by decide) (by omega) d_law_559 d_law_560 d_law_561 d_law_562 d_law_563 ?_
  refine R_smV (rest := []) X hP hD hS (List.all_eq_true.mp xF_ok) had (j := j_M_press) (M := m_M_press) rfl (a := 168) (as := [.int (xs (i + 1))]) hq rfl (lawL_ok (i := 21) rfl rfl) rfl rfl (show 1 + 1 = m_M_press.2.2.2.2.1.2.2.2 % 100 by decide) ⟨(Nat.le_of_ble_eq_true rfl), (Nat.le_of_ble_eq_true rfl)⟩ hl.1 (Nat.le_of_ble_eq_true rfl) (Nat.le_of_ble_eq_true rfl) (Nat.le_of_ble_eq_true rfl) d_law_564 ?_
  rintro r σ2 H2 locs2 ⟨y, rfl, hc, hQ⟩ hP hD hS
  refine lv_pop X.hx X.hb d_law_567 rfl ?_
  refine lv_goto (tgt := 1249) X.hx X.hb d_law_568 (by decide) ?_
  exact kk σ2 H2 locs2 hQ hP hD hS
set_option maxRecDepth 100000 in
set_option maxHeartbeats 400000 in
theorem law_c11 (X : CX p s m #[.ref b] c lw_tbl "SpansAwayLaw" code 4 D cA tb s.heap.size (fun q => s.heap.size ≤ q)) (hX : va_X b Ln xs s s.heap) (hbl : b < s.heap.size) (hL : Ln ≤ 2560) (had : ∀ t q, sm_TB[t]? = some q → ad (1000 + t) = tb (1000 + t)) (h3 : x3.toInt = i) (hi : i + 5 ≤ Ln) (hB : 1488000 * n < 1500000000) (hl : lv_has L 4 [(3, .int x3), (2, .ref (ad 168)), (1, .ref (ad 42)), (0, .ref b)]) (hQ : LR (1488000 * n) σ) (hP : va_P D vwCl (sm_W xF ad cA σ) H) (hD : va_D (fun q => s.heap.size ≤ q) (sm_W xF ad cA σ)) (hS : va_S (fun q => s.heap.size ≤ q) s.heap H locs) (kk : ∀ (σ' : sm_S) (H : Heap) (locs : List Loc), LR (1488000 * n + 1488000) σ' → va_P D vwCl (sm_W xF ad cA σ') H → va_D (fun q => s.heap.size ≤ q) (sm_W xF ad cA σ') → va_S (fun q => s.heap.size ≤ q) s.heap H locs → W p l e room_1 s m #[.ref b] below meth c H locs 174 17642 Q (F0 m 1249 L [])) : W p l e room_1 s m #[.ref b] below meth c H locs 174 17642 Q (F0 m 571 L []) := by
  refine lv_aload_n X.hx X.hb d_law_571 rfl (lv_at hl 2 rfl) ?_
  refine R_arg (kz := 1) (kv := 1) X hX hbl hL h3 hl hS 1 (by decide) (by decide) (by omega) d_law_572 d_law_573 d_law_574 d_law_575 d_law_576 ?_
  refine R_smV (rest := []) X hP hD hS (List.all_eq_true.mp xF_ok) had (j := j_A_gather) (M := m_A_gather) rfl (a := 42) (as := [.int (xs (i + 1))]) (cl_gather _ σ hB hQ) rfl (lawL_ok (i := 22) rfl rfl) rfl rfl (show 1 + 1 = m_A_gather.2.2.2.2.1.2.2.2 % 100 by decide) ⟨(Nat.le_of_ble_eq_true rfl), (Nat.le_of_ble_eq_true rfl)⟩ hl.1 (Nat.le_of_ble_eq_true rfl) (Nat.le_of_ble_eq_true rfl) (Nat.le_of_ble_eq_true rfl) d_law_577 ?_
  rintro r σ1 H1 locs1 ⟨x, rfl, hq⟩ hP hD hS
  refine lv_pop X.hx X.hb d_law_580 rfl ?_
  refine lv_aload_n X.hx X.hb d_law_581 rfl (lv_at hl 1 rfl) ?_
  refine R_arg (kz := 1) (kv := 1) X hX hbl hL h3 hl hS 1 (by decide) (by decide) (by omega) d_law_582 d_law_583 d_law_584 d_law_585 d_law_586 ?_
  refine R_smV (rest := []) X hP hD hS (List.all_eq_true.mp xF_ok) had (j := j_M_gather) (M := m_M_gather) rfl (a := 168) (as := [.int (xs (i + 1))]) hq rfl (lawL_ok (i := 23) rfl rfl) rfl rfl (show 1 + 1 = m_M_gather.2.2.2.2.1.2.2.2 % 100 by decide) ⟨(Nat.le_of_ble_eq_true rfl), (Nat.le_of_ble_eq_true rfl)⟩ hl.1 (Nat.le_of_ble_eq_true rfl) (Nat.le_of_ble_eq_true rfl) (Nat.le_of_ble_eq_true rfl) d_law_587 ?_
  rintro r σ2 H2 locs2 ⟨y, rfl, hc, hQ⟩ hP hD hS
  refine lv_pop X.hx X.hb d_law_590 rfl ?_
  refine lv_goto (tgt := 1249) X.hx X.hb d_law_591 (by decide) ?_
  exact kk σ2 H2 locs2 hQ hP hD hS
set_option maxRecDepth 100000 in
set_option maxHeartbeats 400000 in
theorem law_c12 (X : CX p s m #[.ref b] c lw_tbl "SpansAwayLaw" code 4 D cA tb s.heap.size (fun q => s.heap.size ≤ q)) (hX : va_X b Ln xs s s.heap) (hbl : b < s.heap.size) (hL : Ln ≤ 2560) (had : ∀ t q, sm_TB[t]? = some q → ad (1000 + t) = tb (1000 + t)) (h3 : x3.toInt = i) (hi : i + 5 ≤ Ln) (hB : 1488000 * n < 1500000000) (hl : lv_has L 4 [(3, .int x3), (2, .ref (ad 168)), (1, .ref (ad 42)), (0, .ref b)]) (hQ : LR (1488000 * n) σ) (hP : va_P D vwCl (sm_W xF ad cA σ) H) (hD : va_D (fun q => s.heap.size ≤ q) (sm_W xF ad cA σ)) (hS : va_S (fun q => s.heap.size ≤ q) s.heap H locs) (kk : ∀ (σ' : sm_S) (H : Heap) (locs : List Loc), LR (1488000 * n + 1488000) σ' → va_P D vwCl (sm_W xF ad cA σ') H → va_D (fun q => s.heap.size ≤ q) (sm_W xF ad cA σ') → va_S (fun q => s.heap.size ≤ q) s.heap H locs → W p l e room_1 s m #[.ref b] below meth c H locs 174 17642 Q (F0 m 1249 L [])) : W p l e room_1 s m #[.ref b] below meth c H locs 174 17642 Q (F0 m 594 L []) := by
  refine lv_aload_n X.hx X.hb d_law_594 rfl (lv_at hl 2 rfl) ?_
  refine R_arg (kz := 1) (kv := 1) X hX hbl hL h3 hl hS 1 (by decide) (by decide) (by omega) d_law_595 d_law_596 d_law_597 d_law_598 d_law_599 ?_
  refine R_smV (rest := []) X hP hD hS (List.all_eq_true.mp xF_ok) had (j := j_A_go) (M := m_A_go) rfl (a := 42) (as := [.int (xs (i + 1))]) (cl_go _ σ hB hQ) rfl (lawL_ok (i := 24) rfl rfl) rfl rfl (show 1 + 1 = m_A_go.2.2.2.2.1.2.2.2 % 100 by decide) ⟨(Nat.le_of_ble_eq_true rfl), (Nat.le_of_ble_eq_true rfl)⟩ hl.1 (Nat.le_of_ble_eq_true rfl) (Nat.le_of_ble_eq_true rfl) (Nat.le_of_ble_eq_true rfl) d_law_600 ?_
  rintro r σ1 H1 locs1 ⟨x, rfl, hq⟩ hP hD hS
  refine lv_pop X.hx X.hb d_law_603 rfl ?_
  refine lv_aload_n X.hx X.hb d_law_604 rfl (lv_at hl 1 rfl) ?_
  refine R_arg (kz := 1) (kv := 1) X hX hbl hL h3 hl hS 1 (by decide) (by decide) (by omega) d_law_605 d_law_606 d_law_607 d_law_608 d_law_609 ?_
  refine R_smV (rest := []) X hP hD hS (List.all_eq_true.mp xF_ok) had (j := j_M_go) (M := m_M_go) rfl (a := 168) (as := [.int (xs (i + 1))]) hq rfl (lawL_ok (i := 25) rfl rfl) rfl rfl (show 1 + 1 = m_M_go.2.2.2.2.1.2.2.2 % 100 by decide) ⟨(Nat.le_of_ble_eq_true rfl), (Nat.le_of_ble_eq_true rfl)⟩ hl.1 (Nat.le_of_ble_eq_true rfl) (Nat.le_of_ble_eq_true rfl) (Nat.le_of_ble_eq_true rfl) d_law_610 ?_
  rintro r σ2 H2 locs2 ⟨y, rfl, hc, hQ⟩ hP hD hS
  refine lv_pop X.hx X.hb d_law_613 rfl ?_
  refine lv_goto (tgt := 1249) X.hx X.hb d_law_614 (by decide) ?_
  exact kk σ2 H2 locs2 hQ hP hD hS
set_option maxRecDepth 100000 in
set_option maxHeartbeats 400000 in
theorem law_c13 (X : CX p s m #[.ref b] c lw_tbl "SpansAwayLaw" code 4 D cA tb s.heap.size (fun q => s.heap.size ≤ q)) (hX : va_X b Ln xs s s.heap) (hbl : b < s.heap.size) (hL : Ln ≤ 2560) (had : ∀ t q, sm_TB[t]? = some q → ad (1000 + t) = tb (1000 + t)) (h3 : x3.toInt = i) (hi : i + 5 ≤ Ln) (hB : 1488000 * n < 1500000000) (hl : lv_has L 4 [(3, .int x3), (2, .ref (ad 168)), (1, .ref (ad 42)), (0, .ref b)]) (hQ : LR (1488000 * n) σ) (hP : va_P D vwCl (sm_W xF ad cA σ) H) (hD : va_D (fun q => s.heap.size ≤ q) (sm_W xF ad cA σ)) (hS : va_S (fun q => s.heap.size ≤ q) s.heap H locs) (kk : ∀ (σ' : sm_S) (H : Heap) (locs : List Loc), LR (1488000 * n + 1488000) σ' → va_P D vwCl (sm_W xF ad cA σ') H → va_D (fun q => s.heap.size ≤ q) (sm_W xF ad cA σ') → va_S (fun q => s.heap.size ≤ q) s.heap H locs → W p l e room_1 s m #[.ref b] below meth c H locs 174 17642 Q (F0 m 1249 L [])) : W p l e room_1 s m #[.ref b] below meth c H locs 174 17642 Q (F0 m 617 L []) := by
  refine lv_aload_n X.hx X.hb d_law_617 rfl (lv_at hl 2 rfl) ?_
  refine R_arg (kz := 1) (kv := 1) X hX hbl hL h3 hl hS 1 (by decide) (by decide) (by omega) d_law_618 d_law_619 d_law_620 d_law_621 d_law_622 ?_
  refine R_smV (rest := []) X hP hD hS (List.all_eq_true.mp xF_ok) had (j := j_A_giveUp) (M := m_A_giveUp) rfl (a := 42) (as := [.int (xs (i + 1))]) (cl_giveUp _ σ hB hQ) rfl (lawL_ok (i := 26) rfl rfl) rfl rfl (show 1 + 1 = m_A_giveUp.2.2.2.2.1.2.2.2 % 100 by decide) ⟨(Nat.le_of_ble_eq_true rfl), (Nat.le_of_ble_eq_true rfl)⟩ hl.1 (Nat.le_of_ble_eq_true rfl) (Nat.le_of_ble_eq_true rfl) (Nat.le_of_ble_eq_true rfl) d_law_623 ?_
  rintro r σ1 H1 locs1 ⟨x, rfl, hq⟩ hP hD hS
  refine lv_pop X.hx X.hb d_law_626 rfl ?_
  refine lv_aload_n X.hx X.hb d_law_627 rfl (lv_at hl 1 rfl) ?_
  refine R_arg (kz := 1) (kv := 1) X hX hbl hL h3 hl hS 1 (by decide) (by decide) (by omega) d_law_628 d_law_629 d_law_630 d_law_631 d_law_632 ?_
  refine R_smV (rest := []) X hP hD hS (List.all_eq_true.mp xF_ok) had (j := j_M_giveUp) (M := m_M_giveUp) rfl (a := 168) (as := [.int (xs (i + 1))]) hq rfl (lawL_ok (i := 27) rfl rfl) rfl rfl (show 1 + 1 = m_M_giveUp.2.2.2.2.1.2.2.2 % 100 by decide) ⟨(Nat.le_of_ble_eq_true rfl), (Nat.le_of_ble_eq_true rfl)⟩ hl.1 (Nat.le_of_ble_eq_true rfl) (Nat.le_of_ble_eq_true rfl) (Nat.le_of_ble_eq_true rfl) d_law_633 ?_
  rintro r σ2 H2 locs2 ⟨y, rfl, hc, hQ⟩ hP hD hS
  refine lv_pop X.hx X.hb d_law_636 rfl ?_
  refine lv_goto (tgt := 1249) X.hx X.hb d_law_637 (by decide) ?_
  exact kk σ2 H2 locs2 hQ hP hD hS
set_option maxRecDepth 100000 in
set_option maxHeartbeats 400000 in
theorem law_c14 (X : CX p s m #[.ref b] c lw_tbl "SpansAwayLaw" code 4 D cA tb s.heap.size (fun q => s.heap.size ≤ q)) (hX : va_X b Ln xs s s.heap) (hbl : b < s.heap.size) (hL : Ln ≤ 2560) (had : ∀ t q, sm_TB[t]? = some q → ad (1000 + t) = tb (1000 + t)) (h3 : x3.toInt = i) (hi : i + 5 ≤ Ln) (hB : 1488000 * n < 1500000000) (hl : lv_has L 4 [(3, .int x3), (2, .ref (ad 168)), (1, .ref (ad 42)), (0, .ref b)]) (hQ : LR (1488000 * n) σ) (hP : va_P D vwCl (sm_W xF ad cA σ) H) (hD : va_D (fun q => s.heap.size ≤ q) (sm_W xF ad cA σ)) (hS : va_S (fun q => s.heap.size ≤ q) s.heap H locs) (kk : ∀ (σ' : sm_S) (H : Heap) (locs : List Loc), LR (1488000 * n + 1488000) σ' → va_P D vwCl (sm_W xF ad cA σ') H → va_D (fun q => s.heap.size ≤ q) (sm_W xF ad cA σ') → va_S (fun q => s.heap.size ≤ q) s.heap H locs → W p l e room_1 s m #[.ref b] below meth c H locs 174 17642 Q (F0 m 1249 L [])) : W p l e room_1 s m #[.ref b] below meth c H locs 174 17642 Q (F0 m 640 L []) := by
  refine lv_aload_n X.hx X.hb d_law_640 rfl (lv_at hl 2 rfl) ?_
  refine R_arg (kz := 1) (kv := 1) X hX hbl hL h3 hl hS 1 (by decide) (by decide) (by omega) d_law_641 d_law_642 d_law_643 d_law_644 d_law_645 ?_
  refine R_smV (rest := []) X hP hD hS (List.all_eq_true.mp xF_ok) had (j := j_A_tick) (M := m_A_tick) rfl (a := 42) (as := [.int (xs (i + 1))]) (cl_tick _ σ hB hQ) rfl (lawL_ok (i := 28) rfl rfl) rfl rfl (show 1 + 1 = m_A_tick.2.2.2.2.1.2.2.2 % 100 by decide) ⟨(Nat.le_of_ble_eq_true rfl), (Nat.le_of_ble_eq_true rfl)⟩ hl.1 (Nat.le_of_ble_eq_true rfl) (Nat.le_of_ble_eq_true rfl) (Nat.le_of_ble_eq_true rfl) d_law_646 ?_
  rintro r σ1 H1 locs1 ⟨x, rfl, hq⟩ hP hD hS
  refine lv_pop X.hx X.hb d_law_649 rfl ?_
  refine lv_aload_n X.hx X.hb d_law_650 rfl (lv_at hl 1 rfl) ?_
  refine R_arg (kz := 1) (kv := 1) X hX hbl hL h3 hl hS 1 (by decide) (by decide) (by omega) d_law_651 d_law_652 d_law_653 d_law_654 d_law_655 ?_
  refine R_smV (rest := []) X hP hD hS (List.all_eq_true.mp xF_ok) had (j := j_M_tick) (M := m_M_tick) rfl (a := 168) (as := [.int (xs (i + 1))]) hq rfl (lawL_ok (i := 29) rfl rfl) rfl rfl (show 1 + 1 = m_M_tick.2.2.2.2.1.2.2.2 % 100 by decide) ⟨(Nat.le_of_ble_eq_true rfl), (Nat.le_of_ble_eq_true rfl)⟩ hl.1 (Nat.le_of_ble_eq_true rfl) (Nat.le_of_ble_eq_true rfl) (Nat.le_of_ble_eq_true rfl) d_law_656 ?_
  rintro r σ2 H2 locs2 ⟨y, rfl, hc, hQ⟩ hP hD hS
  refine lv_pop X.hx X.hb d_law_659 rfl ?_
  refine lv_goto (tgt := 1249) X.hx X.hb d_law_660 (by decide) ?_
  exact kk σ2 H2 locs2 hQ hP hD hS
set_option maxRecDepth 100000 in
set_option maxHeartbeats 400000 in
theorem law_c15 (X : CX p s m #[.ref b] c lw_tbl "SpansAwayLaw" code 4 D cA tb s.heap.size (fun q => s.heap.size ≤ q)) (hX : va_X b Ln xs s s.heap) (hbl : b < s.heap.size) (hL : Ln ≤ 2560) (had : ∀ t q, sm_TB[t]? = some q → ad (1000 + t) = tb (1000 + t)) (h3 : x3.toInt = i) (hi : i + 5 ≤ Ln) (hB : 1488000 * n < 1500000000) (hl : lv_has L 4 [(3, .int x3), (2, .ref (ad 168)), (1, .ref (ad 42)), (0, .ref b)]) (hQ : LR (1488000 * n) σ) (hP : va_P D vwCl (sm_W xF ad cA σ) H) (hD : va_D (fun q => s.heap.size ≤ q) (sm_W xF ad cA σ)) (hS : va_S (fun q => s.heap.size ≤ q) s.heap H locs) (kk : ∀ (σ' : sm_S) (H : Heap) (locs : List Loc), LR (1488000 * n + 1488000) σ' → va_P D vwCl (sm_W xF ad cA σ') H → va_D (fun q => s.heap.size ≤ q) (sm_W xF ad cA σ') → va_S (fun q => s.heap.size ≤ q) s.heap H locs → W p l e room_1 s m #[.ref b] below meth c H locs 174 17642 Q (F0 m 1249 L [])) : W p l e room_1 s m #[.ref b] below meth c H locs 174 17642 Q (F0 m 663 L []) := by
  refine lv_aload_n X.hx X.hb d_law_663 rfl (lv_at hl 2 rfl) ?_
  refine R_arg (kz := 1) (kv := 1) X hX hbl hL h3 hl hS 1 (by decide) (by decide) (by omega) d_law_664 d_law_665 d_law_666 d_law_667 d_law_668 ?_
  refine R_arg (kz := 2) (kv := 2) X hX hbl hL h3 hl hS 2 (by decide) (by decide) (by omega) d_law_669 d_law_670 d_law_671 d_law_672 d_law_673 ?_
  refine R_smV (rest := []) X hP hD hS (List.all_eq_true.mp xF_ok) had (j := j_A_frame) (M := m_A_frame) rfl (a := 42) (as := [.int (xs (i + 1)), .int (xs (i + 2))]) (cl_frame _ _ σ hB hQ) rfl (lawL_ok (i := 30) rfl rfl) rfl rfl (show 2 + 1 = m_A_frame.2.2.2.2.1.2.2.2 % 100 by decide) ⟨(Nat.le_of_ble_eq_true rfl), (Nat.le_of_ble_eq_true rfl)⟩ hl.1 (Nat.le_of_ble_eq_true rfl) (Nat.le_of_ble_eq_true rfl) (Nat.le_of_ble_eq_true rfl) d_law_674 ?_
  rintro r σ1 H1 locs1 ⟨x, rfl, hq⟩ hP hD hS
  refine lv_pop X.hx X.hb d_law_677 rfl ?_
  refine lv_aload_n X.hx X.hb d_law_678 rfl (lv_at hl 1 rfl) ?_
  refine R_arg (kz := 1) (kv := 1) X hX hbl hL h3 hl hS 1 (by decide) (by decide) (by omega) d_law_679 d_law_680 d_law_681 d_law_682 d_law_683 ?_
  refine R_arg (kz := 2) (kv := 2) X hX hbl hL h3 hl hS 2 (by decide) (by decide) (by omega) d_law_684 d_law_685 d_law_686 d_law_687 d_law_688 ?_
  refine R_smV (rest := []) X hP hD hS (List.all_eq_true.mp xF_ok) had (j := j_M_frame) (M := m_M_frame) rfl (a := 168) (as := [.int (xs (i + 1)), .int (xs (i + 2))]) hq rfl (lawL_ok (i := 31) rfl rfl) rfl rfl (show 2 + 1 = m_M_frame.2.2.2.2.1.2.2.2 % 100 by decide) ⟨(Nat.le_of_ble_eq_true rfl), (Nat.le_of_ble_eq_true rfl)⟩ hl.1 (Nat.le_of_ble_eq_true rfl) (Nat.le_of_ble_eq_true rfl) (Nat.le_of_ble_eq_true rfl) d_law_689 ?_
  rintro r σ2 H2 locs2 ⟨y, rfl, hc, hQ⟩ hP hD hS
  refine lv_pop X.hx X.hb d_law_692 rfl ?_
  refine lv_goto (tgt := 1249) X.hx X.hb d_law_693 (by decide) ?_
  exact kk σ2 H2 locs2 hQ hP hD hS
set_option maxRecDepth 100000 in
set_option maxHeartbeats 400000 in
theorem law_c16 (X : CX p s m #[.ref b] c lw_tbl "SpansAwayLaw" code 4 D cA tb s.heap.size (fun q => s.heap.size ≤ q)) (hX : va_X b Ln xs s s.heap) (hbl : b < s.heap.size) (hL : Ln ≤ 2560) (had : ∀ t q, sm_TB[t]? = some q → ad (1000 + t) = tb (1000 + t)) (h3 : x3.toInt = i) (hi : i + 5 ≤ Ln) (hB : 1488000 * n < 1500000000) (hl : lv_has L 4 [(3, .int x3), (2, .ref (ad 168)), (1, .ref (ad 42)), (0, .ref b)]) (hQ : LR (1488000 * n) σ) (hP : va_P D vwCl (sm_W xF ad cA σ) H) (hD : va_D (fun q => s.heap.size ≤ q) (sm_W xF ad cA σ)) (hS : va_S (fun q => s.heap.size ≤ q) s.heap H locs) (kk : ∀ (σ' : sm_S) (H : Heap) (locs : List Loc), LR (1488000 * n + 1488000) σ' → va_P D vwCl (sm_W xF ad cA σ') H → va_D (fun q => s.heap.size ≤ q) (sm_W xF ad cA σ') → va_S (fun q => s.heap.size ≤ q) s.heap H locs → W p l e room_1 s m #[.ref b] below meth c H locs 174 17642 Q (F0 m 1249 L [])) : W p l e room_1 s m #[.ref b] below meth c H locs 174 17642 Q (F0 m 696 L []) := by
  refine lv_aload_n X.hx X.hb d_law_696 rfl (lv_at hl 2 rfl) ?_
  refine R_arg (kz := 1) (kv := 1) X hX hbl hL h3 hl hS 1 (by decide) (by decide) (by omega) d_law_697 d_law_698 d_law_699 d_law_700 d_law_701 ?_
  refine R_arg (kz := 2) (kv := 2) X hX hbl hL h3 hl hS 2 (by decide) (by decide) (by omega) d_law_702 d_law_703 d_law_704 d_law_705 d_law_706 ?_
  refine R_smV (rest := []) X hP hD hS (List.all_eq_true.mp xF_ok) had (j := j_A_block) (M := m_A_block) rfl (a := 42) (as := [.int (xs (i + 1)), .int (xs (i + 2))]) (cl_block _ _ σ hB hQ) rfl (lawL_ok (i := 32) rfl rfl) rfl rfl (show 2 + 1 = m_A_block.2.2.2.2.1.2.2.2 % 100 by decide) ⟨(Nat.le_of_ble_eq_true rfl), (Nat.le_of_ble_eq_true rfl)⟩ hl.1 (Nat.le_of_ble_eq_true rfl) (Nat.le_of_ble_eq_true rfl) (Nat.le_of_ble_eq_true rfl) d_law_707 ?_
  rintro r σ1 H1 locs1 ⟨x, rfl, hq⟩ hP hD hS
  refine lv_pop X.hx X.hb d_law_710 rfl ?_
  refine lv_aload_n X.hx X.hb d_law_711 rfl (lv_at hl 1 rfl) ?_
  refine R_arg (kz := 1) (kv := 1) X hX hbl hL h3 hl hS 1 (by decide) (by decide) (by omega) d_law_712 d_law_713 d_law_714 d_law_715 d_law_716 ?_
  refine R_arg (kz := 2) (kv := 2) X hX hbl hL h3 hl hS 2 (by decide) (by decide) (by omega) d_law_717 d_law_718 d_law_719 d_law_720 d_law_721 ?_
  refine R_smV (rest := []) X hP hD hS (List.all_eq_true.mp xF_ok) had (j := j_M_block) (M := m_M_block) rfl (a := 168) (as := [.int (xs (i + 1)), .int (xs (i + 2))]) hq rfl (lawL_ok (i := 33) rfl rfl) rfl rfl (show 2 + 1 = m_M_block.2.2.2.2.1.2.2.2 % 100 by decide) ⟨(Nat.le_of_ble_eq_true rfl), (Nat.le_of_ble_eq_true rfl)⟩ hl.1 (Nat.le_of_ble_eq_true rfl) (Nat.le_of_ble_eq_true rfl) (Nat.le_of_ble_eq_true rfl) d_law_722 ?_
  rintro r σ2 H2 locs2 ⟨y, rfl, hc, hQ⟩ hP hD hS
  refine lv_pop X.hx X.hb d_law_725 rfl ?_
  refine lv_goto (tgt := 1249) X.hx X.hb d_law_726 (by decide) ?_
  exact kk σ2 H2 locs2 hQ hP hD hS
set_option maxRecDepth 100000 in
set_option maxHeartbeats 400000 in
theorem law_c17 (X : CX p s m #[.ref b] c lw_tbl "SpansAwayLaw" code 4 D cA tb s.heap.size (fun q => s.heap.size ≤ q)) (hX : va_X b Ln xs s s.heap) (hbl : b < s.heap.size) (hL : Ln ≤ 2560) (had : ∀ t q, sm_TB[t]? = some q → ad (1000 + t) = tb (1000 + t)) (h3 : x3.toInt = i) (hi : i + 5 ≤ Ln) (hB : 1488000 * n < 1500000000) (hl : lv_has L 4 [(3, .int x3), (2, .ref (ad 168)), (1, .ref (ad 42)), (0, .ref b)]) (hQ : LR (1488000 * n) σ) (hP : va_P D vwCl (sm_W xF ad cA σ) H) (hD : va_D (fun q => s.heap.size ≤ q) (sm_W xF ad cA σ)) (hS : va_S (fun q => s.heap.size ≤ q) s.heap H locs) (kk : ∀ (σ' : sm_S) (H : Heap) (locs : List Loc), LR (1488000 * n + 1488000) σ' → va_P D vwCl (sm_W xF ad cA σ') H → va_D (fun q => s.heap.size ≤ q) (sm_W xF ad cA σ') → va_S (fun q => s.heap.size ≤ q) s.heap H locs → W p l e room_1 s m #[.ref b] below meth c H locs 174 17642 Q (F0 m 1249 L [])) : W p l e room_1 s m #[.ref b] below meth c H locs 174 17642 Q (F0 m 729 L []) := by
  refine lv_aload_n X.hx X.hb d_law_729 rfl (lv_at hl 2 rfl) ?_
  refine R_arg (kz := 1) (kv := 1) X hX hbl hL h3 hl hS 1 (by decide) (by decide) (by omega) d_law_730 d_law_731 d_law_732 d_law_733 d_law_734 ?_
  refine R_arg (kz := 2) (kv := 2) X hX hbl hL h3 hl hS 2 (by decide) (by decide) (by omega) d_law_735 d_law_736 d_law_737 d_law_738 d_law_739 ?_
  refine R_smV (rest := []) X hP hD hS (List.all_eq_true.mp xF_ok) had (j := j_A_span) (M := m_A_span) rfl (a := 42) (as := [.int (xs (i + 1)), .int (xs (i + 2))]) (cl_span _ _ σ hB hQ) rfl (lawL_ok (i := 34) rfl rfl) rfl rfl (show 2 + 1 = m_A_span.2.2.2.2.1.2.2.2 % 100 by decide) ⟨(Nat.le_of_ble_eq_true rfl), (Nat.le_of_ble_eq_true rfl)⟩ hl.1 (Nat.le_of_ble_eq_true rfl) (Nat.le_of_ble_eq_true rfl) (Nat.le_of_ble_eq_true rfl) d_law_740 ?_
  rintro r σ1 H1 locs1 ⟨x, rfl, hq⟩ hP hD hS
  refine lv_pop X.hx X.hb d_law_743 rfl ?_
  refine lv_aload_n X.hx X.hb d_law_744 rfl (lv_at hl 1 rfl) ?_
  refine R_arg (kz := 1) (kv := 1) X hX hbl hL h3 hl hS 1 (by decide) (by decide) (by omega) d_law_745 d_law_746 d_law_747 d_law_748 d_law_749 ?_
  refine R_arg (kz := 2) (kv := 2) X hX hbl hL h3 hl hS 2 (by decide) (by decide) (by omega) d_law_750 d_law_751 d_law_752 d_law_753 d_law_754 ?_
  refine R_smV (rest := []) X hP hD hS (List.all_eq_true.mp xF_ok) had (j := j_M_span) (M := m_M_span) rfl (a := 168) (as := [.int (xs (i + 1)), .int (xs (i + 2))]) hq rfl (lawL_ok (i := 35) rfl rfl) rfl rfl (show 2 + 1 = m_M_span.2.2.2.2.1.2.2.2 % 100 by decide) ⟨(Nat.le_of_ble_eq_true rfl), (Nat.le_of_ble_eq_true rfl)⟩ hl.1 (Nat.le_of_ble_eq_true rfl) (Nat.le_of_ble_eq_true rfl) (Nat.le_of_ble_eq_true rfl) d_law_755 ?_
  rintro r σ2 H2 locs2 ⟨y, rfl, hc, hQ⟩ hP hD hS
  refine lv_pop X.hx X.hb d_law_758 rfl ?_
  refine lv_goto (tgt := 1249) X.hx X.hb d_law_759 (by decide) ?_
  exact kk σ2 H2 locs2 hQ hP hD hS
set_option maxRecDepth 100000 in
set_option maxHeartbeats 400000 in
theorem law_c18 (X : CX p s m #[.ref b] c lw_tbl "SpansAwayLaw" code 4 D cA tb s.heap.size (fun q => s.heap.size ≤ q)) (hX : va_X b Ln xs s s.heap) (hbl : b < s.heap.size) (hL : Ln ≤ 2560) (had : ∀ t q, sm_TB[t]? = some q → ad (1000 + t) = tb (1000 + t)) (h3 : x3.toInt = i) (hi : i + 5 ≤ Ln) (hB : 1488000 * n < 1500000000) (hl : lv_has L 4 [(3, .int x3), (2, .ref (ad 168)), (1, .ref (ad 42)), (0, .ref b)]) (hQ : LR (1488000 * n) σ) (hP : va_P D vwCl (sm_W xF ad cA σ) H) (hD : va_D (fun q => s.heap.size ≤ q) (sm_W xF ad cA σ)) (hS : va_S (fun q => s.heap.size ≤ q) s.heap H locs) (kk : ∀ (σ' : sm_S) (H : Heap) (locs : List Loc), LR (1488000 * n + 1488000) σ' → va_P D vwCl (sm_W xF ad cA σ') H → va_D (fun q => s.heap.size ≤ q) (sm_W xF ad cA σ') → va_S (fun q => s.heap.size ≤ q) s.heap H locs → W p l e room_1 s m #[.ref b] below meth c H locs 174 17642 Q (F0 m 1249 L [])) : W p l e room_1 s m #[.ref b] below meth c H locs 174 17642 Q (F0 m 762 L []) := by
  refine lv_aload_n X.hx X.hb d_law_762 rfl (lv_at hl 2 rfl) ?_
  refine R_arg (kz := 1) (kv := 1) X hX hbl hL h3 hl hS 1 (by decide) (by decide) (by omega) d_law_763 d_law_764 d_law_765 d_law_766 d_law_767 ?_
  refine R_arg (kz := 2) (kv := 2) X hX hbl hL h3 hl hS 2 (by decide) (by decide) (by omega) d_law_768 d_law_769 d_law_770 d_law_771 d_law_772 ?_
  refine R_smV (rest := []) X hP hD hS (List.all_eq_true.mp xF_ok) had (j := j_A_task) (M := m_A_task) rfl (a := 42) (as := [.int (xs (i + 1)), .int (xs (i + 2))]) (cl_task _ _ σ hB hQ) rfl (lawL_ok (i := 36) rfl rfl) rfl rfl (show 2 + 1 = m_A_task.2.2.2.2.1.2.2.2 % 100 by decide) ⟨(Nat.le_of_ble_eq_true rfl), (Nat.le_of_ble_eq_true rfl)⟩ hl.1 (Nat.le_of_ble_eq_true rfl) (Nat.le_of_ble_eq_true rfl) (Nat.le_of_ble_eq_true rfl) d_law_773 ?_
  rintro r σ1 H1 locs1 ⟨x, rfl, hq⟩ hP hD hS
  refine lv_pop X.hx X.hb d_law_776 rfl ?_
  refine lv_aload_n X.hx X.hb d_law_777 rfl (lv_at hl 1 rfl) ?_
  refine R_arg (kz := 1) (kv := 1) X hX hbl hL h3 hl hS 1 (by decide) (by decide) (by omega) d_law_778 d_law_779 d_law_780 d_law_781 d_law_782 ?_
  refine R_arg (kz := 2) (kv := 2) X hX hbl hL h3 hl hS 2 (by decide) (by decide) (by omega) d_law_783 d_law_784 d_law_785 d_law_786 d_law_787 ?_
  refine R_smV (rest := []) X hP hD hS (List.all_eq_true.mp xF_ok) had (j := j_M_task) (M := m_M_task) rfl (a := 168) (as := [.int (xs (i + 1)), .int (xs (i + 2))]) hq rfl (lawL_ok (i := 37) rfl rfl) rfl rfl (show 2 + 1 = m_M_task.2.2.2.2.1.2.2.2 % 100 by decide) ⟨(Nat.le_of_ble_eq_true rfl), (Nat.le_of_ble_eq_true rfl)⟩ hl.1 (Nat.le_of_ble_eq_true rfl) (Nat.le_of_ble_eq_true rfl) (Nat.le_of_ble_eq_true rfl) d_law_788 ?_
  rintro r σ2 H2 locs2 ⟨y, rfl, hc, hQ⟩ hP hD hS
  refine lv_pop X.hx X.hb d_law_791 rfl ?_
  refine lv_goto (tgt := 1249) X.hx X.hb d_law_792 (by decide) ?_
  exact kk σ2 H2 locs2 hQ hP hD hS
set_option maxRecDepth 100000 in
set_option maxHeartbeats 400000 in
theorem law_c19 (X : CX p s m #[.ref b] c lw_tbl "SpansAwayLaw" code 4 D cA tb s.heap.size (fun q => s.heap.size ≤ q)) (hX : va_X b Ln xs s s.heap) (hbl : b < s.heap.size) (hL : Ln ≤ 2560) (had : ∀ t q, sm_TB[t]? = some q → ad (1000 + t) = tb (1000 + t)) (h3 : x3.toInt = i) (hi : i + 5 ≤ Ln) (hB : 1488000 * n < 1500000000) (hl : lv_has L 4 [(3, .int x3), (2, .ref (ad 168)), (1, .ref (ad 42)), (0, .ref b)]) (hQ : LR (1488000 * n) σ) (hP : va_P D vwCl (sm_W xF ad cA σ) H) (hD : va_D (fun q => s.heap.size ≤ q) (sm_W xF ad cA σ)) (hS : va_S (fun q => s.heap.size ≤ q) s.heap H locs) (kk : ∀ (σ' : sm_S) (H : Heap) (locs : List Loc), LR (1488000 * n + 1488000) σ' → va_P D vwCl (sm_W xF ad cA σ') H → va_D (fun q => s.heap.size ≤ q) (sm_W xF ad cA σ') → va_S (fun q => s.heap.size ≤ q) s.heap H locs → W p l e room_1 s m #[.ref b] below meth c H locs 174 17642 Q (F0 m 1249 L [])) : W p l e room_1 s m #[.ref b] below meth c H locs 174 17642 Q (F0 m 795 L []) := by
  refine lv_aload_n X.hx X.hb d_law_795 rfl (lv_at hl 2 rfl) ?_
  refine R_arg (kz := 1) (kv := 1) X hX hbl hL h3 hl hS 1 (by decide) (by decide) (by omega) d_law_796 d_law_797 d_law_798 d_law_799 d_law_800 ?_
  refine R_arg (kz := 2) (kv := 2) X hX hbl hL h3 hl hS 2 (by decide) (by decide) (by omega) d_law_801 d_law_802 d_law_803 d_law_804 d_law_805 ?_
  refine R_smV (rest := []) X hP hD hS (List.all_eq_true.mp xF_ok) had (j := j_A_zone) (M := m_A_zone) rfl (a := 42) (as := [.int (xs (i + 1)), .int (xs (i + 2))]) (cl_zone _ _ σ hB hQ) rfl (lawL_ok (i := 38) rfl rfl) rfl rfl (show 2 + 1 = m_A_zone.2.2.2.2.1.2.2.2 % 100 by decide) ⟨(Nat.le_of_ble_eq_true rfl), (Nat.le_of_ble_eq_true rfl)⟩ hl.1 (Nat.le_of_ble_eq_true rfl) (Nat.le_of_ble_eq_true rfl) (Nat.le_of_ble_eq_true rfl) d_law_806 ?_
  rintro r σ1 H1 locs1 ⟨x, rfl, hq⟩ hP hD hS
  refine lv_pop X.hx X.hb d_law_809 rfl ?_
  refine lv_aload_n X.hx X.hb d_law_810 rfl (lv_at hl 1 rfl) ?_
  refine R_arg (kz := 1) (kv := 1) X hX hbl hL h3 hl hS 1 (by decide) (by decide) (by omega) d_law_811 d_law_812 d_law_813 d_law_814 d_law_815 ?_
  refine R_arg (kz := 2) (kv := 2) X hX hbl hL h3 hl hS 2 (by decide) (by decide) (by omega) d_law_816 d_law_817 d_law_818 d_law_819 d_law_820 ?_
  refine R_smV (rest := []) X hP hD hS (List.all_eq_true.mp xF_ok) had (j := j_M_zone) (M := m_M_zone) rfl (a := 168) (as := [.int (xs (i + 1)), .int (xs (i + 2))]) hq rfl (lawL_ok (i := 39) rfl rfl) rfl rfl (show 2 + 1 = m_M_zone.2.2.2.2.1.2.2.2 % 100 by decide) ⟨(Nat.le_of_ble_eq_true rfl), (Nat.le_of_ble_eq_true rfl)⟩ hl.1 (Nat.le_of_ble_eq_true rfl) (Nat.le_of_ble_eq_true rfl) (Nat.le_of_ble_eq_true rfl) d_law_821 ?_
  rintro r σ2 H2 locs2 ⟨y, rfl, hc, hQ⟩ hP hD hS
  refine lv_pop X.hx X.hb d_law_824 rfl ?_
  refine lv_goto (tgt := 1249) X.hx X.hb d_law_825 (by decide) ?_
  exact kk σ2 H2 locs2 hQ hP hD hS
set_option maxRecDepth 100000 in
set_option maxHeartbeats 400000 in
theorem law_c20 (X : CX p s m #[.ref b] c lw_tbl "SpansAwayLaw" code 4 D cA tb s.heap.size (fun q => s.heap.size ≤ q)) (hX : va_X b Ln xs s s.heap) (hbl : b < s.heap.size) (hL : Ln ≤ 2560) (had : ∀ t q, sm_TB[t]? = some q → ad (1000 + t) = tb (1000 + t)) (h3 : x3.toInt = i) (hi : i + 5 ≤ Ln) (hB : 1488000 * n < 1500000000) (hl : lv_has L 4 [(3, .int x3), (2, .ref (ad 168)), (1, .ref (ad 42)), (0, .ref b)]) (hQ : LR (1488000 * n) σ) (hP : va_P D vwCl (sm_W xF ad cA σ) H) (hD : va_D (fun q => s.heap.size ≤ q) (sm_W xF ad cA σ)) (hS : va_S (fun q => s.heap.size ≤ q) s.heap H locs) (kk : ∀ (σ' : sm_S) (H : Heap) (locs : List Loc), LR (1488000 * n + 1488000) σ' → va_P D vwCl (sm_W xF ad cA σ') H → va_D (fun q => s.heap.size ≤ q) (sm_W xF ad cA σ') → va_S (fun q => s.heap.size ≤ q) s.heap H locs → W p l e room_1 s m #[.ref b] below meth c H locs 174 17642 Q (F0 m 1249 L [])) : W p l e room_1 s m #[.ref b] below meth c H locs 174 17642 Q (F0 m 828 L []) := by
  refine lv_aload_n X.hx X.hb d_law_828 rfl (lv_at hl 2 rfl) ?_
  refine R_arg (kz := 1) (kv := 1) X hX hbl hL h3 hl hS 1 (by decide) (by decide) (by omega) d_law_829 d_law_830 d_law_831 d_law_832 d_law_833 ?_
  refine R_arg (kz := 2) (kv := 2) X hX hbl hL h3 hl hS 2 (by decide) (by decide) (by omega) d_law_834 d_law_835 d_law_836 d_law_837 d_law_838 ?_
  refine R_smV (rest := []) X hP hD hS (List.all_eq_true.mp xF_ok) had (j := j_A_loose) (M := m_A_loose) rfl (a := 42) (as := [.int (xs (i + 1)), .int (xs (i + 2))]) (cl_loose _ _ σ hB hQ) rfl (lawL_ok (i := 40) rfl rfl) rfl rfl (show 2 + 1 = m_A_loose.2.2.2.2.1.2.2.2 % 100 by decide) ⟨(Nat.le_of_ble_eq_true rfl), (Nat.le_of_ble_eq_true rfl)⟩ hl.1 (Nat.le_of_ble_eq_true rfl) (Nat.le_of_ble_eq_true rfl) (Nat.le_of_ble_eq_true rfl) d_law_839 ?_
  rintro r σ1 H1 locs1 ⟨x, rfl, hq⟩ hP hD hS
  refine lv_pop X.hx X.hb d_law_842 rfl ?_
  refine lv_aload_n X.hx X.hb d_law_843 rfl (lv_at hl 1 rfl) ?_
  refine R_arg (kz := 1) (kv := 1) X hX hbl hL h3 hl hS 1 (by decide) (by decide) (by omega) d_law_844 d_law_845 d_law_846 d_law_847 d_law_848 ?_
  refine R_arg (kz := 2) (kv := 2) X hX hbl hL h3 hl hS 2 (by decide) (by decide) (by omega) d_law_849 d_law_850 d_law_851 d_law_852 d_law_853 ?_
  refine R_smV (rest := []) X hP hD hS (List.all_eq_true.mp xF_ok) had (j := j_M_loose) (M := m_M_loose) rfl (a := 168) (as := [.int (xs (i + 1)), .int (xs (i + 2))]) hq rfl (lawL_ok (i := 41) rfl rfl) rfl rfl (show 2 + 1 = m_M_loose.2.2.2.2.1.2.2.2 % 100 by decide) ⟨(Nat.le_of_ble_eq_true rfl), (Nat.le_of_ble_eq_true rfl)⟩ hl.1 (Nat.le_of_ble_eq_true rfl) (Nat.le_of_ble_eq_true rfl) (Nat.le_of_ble_eq_true rfl) d_law_854 ?_
  rintro r σ2 H2 locs2 ⟨y, rfl, hc, hQ⟩ hP hD hS
  refine lv_pop X.hx X.hb d_law_857 rfl ?_
  refine lv_goto (tgt := 1249) X.hx X.hb d_law_858 (by decide) ?_
  exact kk σ2 H2 locs2 hQ hP hD hS
set_option maxRecDepth 100000 in
set_option maxHeartbeats 400000 in
theorem law_c21 (X : CX p s m #[.ref b] c lw_tbl "SpansAwayLaw" code 4 D cA tb s.heap.size (fun q => s.heap.size ≤ q)) (hX : va_X b Ln xs s s.heap) (hbl : b < s.heap.size) (hL : Ln ≤ 2560) (had : ∀ t q, sm_TB[t]? = some q → ad (1000 + t) = tb (1000 + t)) (h3 : x3.toInt = i) (hi : i + 5 ≤ Ln) (hB : 1488000 * n < 1500000000) (hl : lv_has L 4 [(3, .int x3), (2, .ref (ad 168)), (1, .ref (ad 42)), (0, .ref b)]) (hQ : LR (1488000 * n) σ) (hP : va_P D vwCl (sm_W xF ad cA σ) H) (hD : va_D (fun q => s.heap.size ≤ q) (sm_W xF ad cA σ)) (hS : va_S (fun q => s.heap.size ≤ q) s.heap H locs) (kk : ∀ (σ' : sm_S) (H : Heap) (locs : List Loc), LR (1488000 * n + 1488000) σ' → va_P D vwCl (sm_W xF ad cA σ') H → va_D (fun q => s.heap.size ≤ q) (sm_W xF ad cA σ') → va_S (fun q => s.heap.size ≤ q) s.heap H locs → W p l e room_1 s m #[.ref b] below meth c H locs 174 17642 Q (F0 m 1249 L [])) : W p l e room_1 s m #[.ref b] below meth c H locs 174 17642 Q (F0 m 861 L []) := by
  refine lv_aload_n X.hx X.hb d_law_861 rfl (lv_at hl 2 rfl) ?_
  refine R_arg (kz := 1) (kv := 1) X hX hbl hL h3 hl hS 1 (by decide) (by decide) (by omega) d_law_862 d_law_863 d_law_864 d_law_865 d_law_866 ?_
  refine R_arg (kz := 2) (kv := 2) X hX hbl hL h3 hl hS 2 (by decide) (by decide) (by omega) d_law_867 d_law_868 d_law_869 d_law_870 d_law_871 ?_
  refine R_arg (kz := 3) (kv := 3) X hX hbl hL h3 hl hS 3 (by decide) (by decide) (by omega) d_law_872 d_law_873 d_law_874 d_law_875 d_law_876 ?_
  refine R_smV (rest := []) X hP hD hS (List.all_eq_true.mp xF_ok) had (j := j_A_place) (M := m_A_place) rfl (a := 42) (as := [.int (xs (i + 1)), .int (xs (i + 2)), .int (xs (i + 3))]) (cl_place _ _ _ σ hB hQ) rfl (lawL_ok (i := 42) rfl rfl) rfl rfl (show 3 + 1 = m_A_place.2.2.2.2.1.2.2.2 % 100 by decide) ⟨(Nat.le_of_ble_eq_true rfl), (Nat.le_of_ble_eq_true rfl)⟩ hl.1 (Nat.le_of_ble_eq_true rfl) (Nat.le_of_ble_eq_true rfl) (Nat.le_of_ble_eq_true rfl) d_law_877 ?_
  rintro r σ1 H1 locs1 ⟨x, rfl, hq⟩ hP hD hS
  refine lv_pop X.hx X.hb d_law_880 rfl ?_
  refine lv_aload_n X.hx X.hb d_law_881 rfl (lv_at hl 1 rfl) ?_
  refine R_arg (kz := 1) (kv := 1) X hX hbl hL h3 hl hS 1 (by decide) (by decide) (by omega) d_law_882 d_law_883 d_law_884 d_law_885 d_law_886 ?_
  refine R_arg (kz := 2) (kv := 2) X hX hbl hL h3 hl hS 2 (by decide) (by decide) (by omega) d_law_887 d_law_888 d_law_889 d_law_890 d_law_891 ?_
  refine R_arg (kz := 3) (kv := 3) X hX hbl hL h3 hl hS 3 (by decide) (by decide) (by omega) d_law_892 d_law_893 d_law_894 d_law_895 d_law_896 ?_
  refine R_smV (rest := []) X hP hD hS (List.all_eq_true.mp xF_ok) had (j := j_M_place) (M := m_M_place) rfl (a := 168) (as := [.int (xs (i + 1)), .int (xs (i + 2)), .int (xs (i + 3))]) hq rfl (lawL_ok (i := 43) rfl rfl) rfl rfl (show 3 + 1 = m_M_place.2.2.2.2.1.2.2.2 % 100 by decide) ⟨(Nat.le_of_ble_eq_true rfl), (Nat.le_of_ble_eq_true rfl)⟩ hl.1 (Nat.le_of_ble_eq_true rfl) (Nat.le_of_ble_eq_true rfl) (Nat.le_of_ble_eq_true rfl) d_law_897 ?_
  rintro r σ2 H2 locs2 ⟨y, rfl, hc, hQ⟩ hP hD hS
  refine lv_pop X.hx X.hb d_law_900 rfl ?_
  refine lv_goto (tgt := 1249) X.hx X.hb d_law_901 (by decide) ?_
  exact kk σ2 H2 locs2 hQ hP hD hS
set_option maxRecDepth 100000 in
set_option maxHeartbeats 400000 in
theorem law_c22 (X : CX p s m #[.ref b] c lw_tbl "SpansAwayLaw" code 4 D cA tb s.heap.size (fun q => s.heap.size ≤ q)) (hX : va_X b Ln xs s s.heap) (hbl : b < s.heap.size) (hL : Ln ≤ 2560) (had : ∀ t q, sm_TB[t]? = some q → ad (1000 + t) = tb (1000 + t)) (h3 : x3.toInt = i) (hi : i + 5 ≤ Ln) (hB : 1488000 * n < 1500000000) (hl : lv_has L 4 [(3, .int x3), (2, .ref (ad 168)), (1, .ref (ad 42)), (0, .ref b)]) (hQ : LR (1488000 * n) σ) (hP : va_P D vwCl (sm_W xF ad cA σ) H) (hD : va_D (fun q => s.heap.size ≤ q) (sm_W xF ad cA σ)) (hS : va_S (fun q => s.heap.size ≤ q) s.heap H locs) (kk : ∀ (σ' : sm_S) (H : Heap) (locs : List Loc), LR (1488000 * n + 1488000) σ' → va_P D vwCl (sm_W xF ad cA σ') H → va_D (fun q => s.heap.size ≤ q) (sm_W xF ad cA σ') → va_S (fun q => s.heap.size ≤ q) s.heap H locs → W p l e room_1 s m #[.ref b] below meth c H locs 174 17642 Q (F0 m 1249 L [])) : W p l e room_1 s m #[.ref b] below meth c H locs 174 17642 Q (F0 m 904 L []) := by
  refine lv_aload_n X.hx X.hb d_law_904 rfl (lv_at hl 2 rfl) ?_
  refine R_arg (kz := 1) (kv := 1) X hX hbl hL h3 hl hS 1 (by decide) (by decide) (by omega) d_law_905 d_law_906 d_law_907 d_law_908 d_law_909 ?_
  refine R_smV (rest := []) X hP hD hS (List.all_eq_true.mp xF_ok) had (j := j_A_hole) (M := m_A_hole) rfl (a := 42) (as := [.int (xs (i + 1))]) (cl_hole _ σ hB hQ) rfl (lawL_ok (i := 44) rfl rfl) rfl rfl (show 1 + 1 = m_A_hole.2.2.2.2.1.2.2.2 % 100 by decide) ⟨(Nat.le_of_ble_eq_true rfl), (Nat.le_of_ble_eq_true rfl)⟩ hl.1 (Nat.le_of_ble_eq_true rfl) (Nat.le_of_ble_eq_true rfl) (Nat.le_of_ble_eq_true rfl) d_law_910 ?_
  rintro r σ1 H1 locs1 ⟨x, rfl, hq⟩ hP hD hS
  refine lv_pop X.hx X.hb d_law_913 rfl ?_
  refine lv_aload_n X.hx X.hb d_law_914 rfl (lv_at hl 1 rfl) ?_
  refine R_arg (kz := 1) (kv := 1) X hX hbl hL h3 hl hS 1 (by decide) (by decide) (by omega) d_law_915 d_law_916 d_law_917 d_law_918 d_law_919 ?_
  refine R_smV (rest := []) X hP hD hS (List.all_eq_true.mp xF_ok) had (j := j_M_hole) (M := m_M_hole) rfl (a := 168) (as := [.int (xs (i + 1))]) hq rfl (lawL_ok (i := 45) rfl rfl) rfl rfl (show 1 + 1 = m_M_hole.2.2.2.2.1.2.2.2 % 100 by decide) ⟨(Nat.le_of_ble_eq_true rfl), (Nat.le_of_ble_eq_true rfl)⟩ hl.1 (Nat.le_of_ble_eq_true rfl) (Nat.le_of_ble_eq_true rfl) (Nat.le_of_ble_eq_true rfl) d_law_920 ?_
  rintro r σ2 H2 locs2 ⟨y, rfl, hc, hQ⟩ hP hD hS
  refine lv_pop X.hx X.hb d_law_923 rfl ?_
  refine lv_goto (tgt := 1249) X.hx X.hb d_law_924 (by decide) ?_
  exact kk σ2 H2 locs2 hQ hP hD hS
set_option maxRecDepth 100000 in
set_option maxHeartbeats 400000 in
theorem law_c23 (X : CX p s m #[.ref b] c lw_tbl "SpansAwayLaw" code 4 D cA tb s.heap.size (fun q => s.heap.size ≤ q)) (hX : va_X b Ln xs s s.heap) (hbl : b < s.heap.size) (hL : Ln ≤ 2560) (had : ∀ t q, sm_TB[t]? = some q → ad (1000 + t) = tb (1000 + t)) (h3 : x3.toInt = i) (hi : i + 5 ≤ Ln) (hB : 1488000 * n < 1500000000) (hl : lv_has L 4 [(3, .int x3), (2, .ref (ad 168)), (1, .ref (ad 42)), (0, .ref b)]) (hQ : LR (1488000 * n) σ) (hP : va_P D vwCl (sm_W xF ad cA σ) H) (hD : va_D (fun q => s.heap.size ≤ q) (sm_W xF ad cA σ)) (hS : va_S (fun q => s.heap.size ≤ q) s.heap H locs) (kk : ∀ (σ' : sm_S) (H : Heap) (locs : List Loc), LR (1488000 * n + 1488000) σ' → va_P D vwCl (sm_W xF ad cA σ') H → va_D (fun q => s.heap.size ≤ q) (sm_W xF ad cA σ') → va_S (fun q => s.heap.size ≤ q) s.heap H locs → W p l e room_1 s m #[.ref b] below meth c H locs 174 17642 Q (F0 m 1249 L [])) : W p l e room_1 s m #[.ref b] below meth c H locs 174 17642 Q (F0 m 927 L []) := by
  refine lv_aload_n X.hx X.hb d_law_927 rfl (lv_at hl 2 rfl) ?_
  refine R_arg (kz := 1) (kv := 1) X hX hbl hL h3 hl hS 1 (by decide) (by decide) (by omega) d_law_928 d_law_929 d_law_930 d_law_931 d_law_932 ?_
  refine R_arg (kz := 2) (kv := 2) X hX hbl hL h3 hl hS 2 (by decide) (by decide) (by omega) d_law_933 d_law_934 d_law_935 d_law_936 d_law_937 ?_
  refine R_arg (kz := 3) (kv := 3) X hX hbl hL h3 hl hS 3 (by decide) (by decide) (by omega) d_law_938 d_law_939 d_law_940 d_law_941 d_law_942 ?_
  refine R_smV (rest := []) X hP hD hS (List.all_eq_true.mp xF_ok) had (j := j_A_keeps) (M := m_A_keeps) rfl (a := 42) (as := [.int (xs (i + 1)), .int (xs (i + 2)), .int (xs (i + 3))]) (cl_keeps _ _ _ σ hB hQ) rfl (lawL_ok (i := 46) rfl rfl) rfl rfl (show 3 + 1 = m_A_keeps.2.2.2.2.1.2.2.2 % 100 by decide) ⟨(Nat.le_of_ble_eq_true rfl), (Nat.le_of_ble_eq_true rfl)⟩ hl.1 (Nat.le_of_ble_eq_true rfl) (Nat.le_of_ble_eq_true rfl) (Nat.le_of_ble_eq_true rfl) d_law_943 ?_
  rintro r σ1 H1 locs1 ⟨x, rfl, hq⟩ hP hD hS
  refine lv_pop X.hx X.hb d_law_946 rfl ?_
  refine lv_aload_n X.hx X.hb d_law_947 rfl (lv_at hl 1 rfl) ?_
  refine R_arg (kz := 1) (kv := 1) X hX hbl hL h3 hl hS 1 (by decide) (by decide) (by omega) d_law_948 d_law_949 d_law_950 d_law_951 d_law_952 ?_
  refine R_arg (kz := 2) (kv := 2) X hX hbl hL h3 hl hS 2 (by decide) (by decide) (by omega) d_law_953 d_law_954 d_law_955 d_law_956 d_law_957 ?_
  refine R_arg (kz := 3) (kv := 3) X hX hbl hL h3 hl hS 3 (by decide) (by decide) (by omega) d_law_958 d_law_959 d_law_960 d_law_961 d_law_962 ?_
  refine R_smV (rest := []) X hP hD hS (List.all_eq_true.mp xF_ok) had (j := j_M_keeps) (M := m_M_keeps) rfl (a := 168) (as := [.int (xs (i + 1)), .int (xs (i + 2)), .int (xs (i + 3))]) hq rfl (lawL_ok (i := 47) rfl rfl) rfl rfl (show 3 + 1 = m_M_keeps.2.2.2.2.1.2.2.2 % 100 by decide) ⟨(Nat.le_of_ble_eq_true rfl), (Nat.le_of_ble_eq_true rfl)⟩ hl.1 (Nat.le_of_ble_eq_true rfl) (Nat.le_of_ble_eq_true rfl) (Nat.le_of_ble_eq_true rfl) d_law_963 ?_
  rintro r σ2 H2 locs2 ⟨y, rfl, hc, hQ⟩ hP hD hS
  refine lv_pop X.hx X.hb d_law_966 rfl ?_
  refine lv_goto (tgt := 1249) X.hx X.hb d_law_967 (by decide) ?_
  exact kk σ2 H2 locs2 hQ hP hD hS
set_option maxRecDepth 100000 in
set_option maxHeartbeats 400000 in
theorem law_c24 (X : CX p s m #[.ref b] c lw_tbl "SpansAwayLaw" code 4 D cA tb s.heap.size (fun q => s.heap.size ≤ q)) (hX : va_X b Ln xs s s.heap) (hbl : b < s.heap.size) (hL : Ln ≤ 2560) (had : ∀ t q, sm_TB[t]? = some q → ad (1000 + t) = tb (1000 + t)) (h3 : x3.toInt = i) (hi : i + 5 ≤ Ln) (hB : 1488000 * n < 1500000000) (hl : lv_has L 4 [(3, .int x3), (2, .ref (ad 168)), (1, .ref (ad 42)), (0, .ref b)]) (hQ : LR (1488000 * n) σ) (hP : va_P D vwCl (sm_W xF ad cA σ) H) (hD : va_D (fun q => s.heap.size ≤ q) (sm_W xF ad cA σ)) (hS : va_S (fun q => s.heap.size ≤ q) s.heap H locs) (kk : ∀ (σ' : sm_S) (H : Heap) (locs : List Loc), LR (1488000 * n + 1488000) σ' → va_P D vwCl (sm_W xF ad cA σ') H → va_D (fun q => s.heap.size ≤ q) (sm_W xF ad cA σ') → va_S (fun q => s.heap.size ≤ q) s.heap H locs → W p l e room_1 s m #[.ref b] below meth c H locs 174 17642 Q (F0 m 1249 L [])) : W p l e room_1 s m #[.ref b] below meth c H locs 174 17642 Q (F0 m 970 L []) := by
  refine lv_aload_n X.hx X.hb d_law_970 rfl (lv_at hl 2 rfl) ?_
  refine R_arg (kz := 1) (kv := 1) X hX hbl hL h3 hl hS 1 (by decide) (by decide) (by omega) d_law_971 d_law_972 d_law_973 d_law_974 d_law_975 ?_
  refine R_smV (rest := []) X hP hD hS (List.all_eq_true.mp xF_ok) had (j := j_A_holders) (M := m_A_holders) rfl (a := 42) (as := [.int (xs (i + 1))]) (cl_holders _ σ hB hQ) rfl (lawL_ok (i := 48) rfl rfl) rfl rfl (show 1 + 1 = m_A_holders.2.2.2.2.1.2.2.2 % 100 by decide) ⟨(Nat.le_of_ble_eq_true rfl), (Nat.le_of_ble_eq_true rfl)⟩ hl.1 (Nat.le_of_ble_eq_true rfl) (Nat.le_of_ble_eq_true rfl) (Nat.le_of_ble_eq_true rfl) d_law_976 ?_
  rintro r σ1 H1 locs1 ⟨x, rfl, hq⟩ hP hD hS
  refine lv_pop X.hx X.hb d_law_979 rfl ?_
  refine lv_aload_n X.hx X.hb d_law_980 rfl (lv_at hl 1 rfl) ?_
  refine R_arg (kz := 1) (kv := 1) X hX hbl hL h3 hl hS 1 (by decide) (by decide) (by omega) d_law_981 d_law_982 d_law_983 d_law_984 d_law_985 ?_
  refine R_smV (rest := []) X hP hD hS (List.all_eq_true.mp xF_ok) had (j := j_M_holders) (M := m_M_holders) rfl (a := 168) (as := [.int (xs (i + 1))]) hq rfl (lawL_ok (i := 49) rfl rfl) rfl rfl (show 1 + 1 = m_M_holders.2.2.2.2.1.2.2.2 % 100 by decide) ⟨(Nat.le_of_ble_eq_true rfl), (Nat.le_of_ble_eq_true rfl)⟩ hl.1 (Nat.le_of_ble_eq_true rfl) (Nat.le_of_ble_eq_true rfl) (Nat.le_of_ble_eq_true rfl) d_law_986 ?_
  rintro r σ2 H2 locs2 ⟨y, rfl, hc, hQ⟩ hP hD hS
  refine lv_pop X.hx X.hb d_law_989 rfl ?_
  refine lv_goto (tgt := 1249) X.hx X.hb d_law_990 (by decide) ?_
  exact kk σ2 H2 locs2 hQ hP hD hS
set_option maxRecDepth 100000 in
set_option maxHeartbeats 400000 in
theorem law_c25 (X : CX p s m #[.ref b] c lw_tbl "SpansAwayLaw" code 4 D cA tb s.heap.size (fun q => s.heap.size ≤ q)) (hX : va_X b Ln xs s s.heap) (hbl : b < s.heap.size) (hL : Ln ≤ 2560) (had : ∀ t q, sm_TB[t]? = some q → ad (1000 + t) = tb (1000 + t)) (h3 : x3.toInt = i) (hi : i + 5 ≤ Ln) (hB : 1488000 * n < 1500000000) (hl : lv_has L 4 [(3, .int x3), (2, .ref (ad 168)), (1, .ref (ad 42)), (0, .ref b)]) (hQ : LR (1488000 * n) σ) (hP : va_P D vwCl (sm_W xF ad cA σ) H) (hD : va_D (fun q => s.heap.size ≤ q) (sm_W xF ad cA σ)) (hS : va_S (fun q => s.heap.size ≤ q) s.heap H locs) (kk : ∀ (σ' : sm_S) (H : Heap) (locs : List Loc), LR (1488000 * n + 1488000) σ' → va_P D vwCl (sm_W xF ad cA σ') H → va_D (fun q => s.heap.size ≤ q) (sm_W xF ad cA σ') → va_S (fun q => s.heap.size ≤ q) s.heap H locs → W p l e room_1 s m #[.ref b] below meth c H locs 174 17642 Q (F0 m 1249 L [])) : W p l e room_1 s m #[.ref b] below meth c H locs 174 17642 Q (F0 m 993 L []) := by
  refine lv_aload_n X.hx X.hb d_law_993 rfl (lv_at hl 2 rfl) ?_
  refine R_arg (kz := 1) (kv := 1) X hX hbl hL h3 hl hS 1 (by decide) (by decide) (by omega) d_law_994 d_law_995 d_law_996 d_law_997 d_law_998 ?_
  refine R_smV (rest := []) X hP hD hS (List.all_eq_true.mp xF_ok) had (j := j_A_pressed) (M := m_A_pressed) rfl (a := 42) (as := [.int (xs (i + 1))]) (cl_pressed _ σ hB hQ) rfl (lawL_ok (i := 50) rfl rfl) rfl rfl (show 1 + 1 = m_A_pressed.2.2.2.2.1.2.2.2 % 100 by decide) ⟨(Nat.le_of_ble_eq_true rfl), (Nat.le_of_ble_eq_true rfl)⟩ hl.1 (Nat.le_of_ble_eq_true rfl) (Nat.le_of_ble_eq_true rfl) (Nat.le_of_ble_eq_true rfl) d_law_999 ?_
  rintro r σ1 H1 locs1 ⟨x, rfl, hq⟩ hP hD hS
  refine lv_pop X.hx X.hb d_law_1002 rfl ?_
  refine lv_aload_n X.hx X.hb d_law_1003 rfl (lv_at hl 1 rfl) ?_
  refine R_arg (kz := 1) (kv := 1) X hX hbl hL h3 hl hS 1 (by decide) (by decide) (by omega) d_law_1004 d_law_1005 d_law_1006 d_law_1007 d_law_1008 ?_
  refine R_smV (rest := []) X hP hD hS (List.all_eq_true.mp xF_ok) had (j := j_M_pressed) (M := m_M_pressed) rfl (a := 168) (as := [.int (xs (i + 1))]) hq rfl (lawL_ok (i := 51) rfl rfl) rfl rfl (show 1 + 1 = m_M_pressed.2.2.2.2.1.2.2.2 % 100 by decide) ⟨(Nat.le_of_ble_eq_true rfl), (Nat.le_of_ble_eq_true rfl)⟩ hl.1 (Nat.le_of_ble_eq_true rfl) (Nat.le_of_ble_eq_true rfl) (Nat.le_of_ble_eq_true rfl) d_law_1009 ?_
  rintro r σ2 H2 locs2 ⟨y, rfl, hc, hQ⟩ hP hD hS
  refine lv_pop X.hx X.hb d_law_1012 rfl ?_
  refine lv_goto (tgt := 1249) X.hx X.hb d_law_1013 (by decide) ?_
  exact kk σ2 H2 locs2 hQ hP hD hS
set_option maxRecDepth 100000 in
set_option maxHeartbeats 400000 in
theorem law_c26 (X : CX p s m #[.ref b] c lw_tbl "SpansAwayLaw" code 4 D cA tb s.heap.size (fun q => s.heap.size ≤ q)) (hX : va_X b Ln xs s s.heap) (hbl : b < s.heap.size) (hL : Ln ≤ 2560) (had : ∀ t q, sm_TB[t]? = some q → ad (1000 + t) = tb (1000 + t)) (h3 : x3.toInt = i) (hi : i + 5 ≤ Ln) (hB : 1488000 * n < 1500000000) (hl : lv_has L 4 [(3, .int x3), (2, .ref (ad 168)), (1, .ref (ad 42)), (0, .ref b)]) (hQ : LR (1488000 * n) σ) (hP : va_P D vwCl (sm_W xF ad cA σ) H) (hD : va_D (fun q => s.heap.size ≤ q) (sm_W xF ad cA σ)) (hS : va_S (fun q => s.heap.size ≤ q) s.heap H locs) (kk : ∀ (σ' : sm_S) (H : Heap) (locs : List Loc), LR (1488000 * n + 1488000) σ' → va_P D vwCl (sm_W xF ad cA σ') H → va_D (fun q => s.heap.size ≤ q) (sm_W xF ad cA σ') → va_S (fun q => s.heap.size ≤ q) s.heap H locs → W p l e room_1 s m #[.ref b] below meth c H locs 174 17642 Q (F0 m 1249 L [])) : W p l e room_1 s m #[.ref b] below meth c H locs 174 17642 Q (F0 m 1016 L []) := by
  refine lv_aload_n X.hx X.hb d_law_1016 rfl (lv_at hl 2 rfl) ?_
  refine R_arg (kz := 1) (kv := 1) X hX hbl hL h3 hl hS 1 (by decide) (by decide) (by omega) d_law_1017 d_law_1018 d_law_1019 d_law_1020 d_law_1021 ?_
  refine R_arg (kz := 2) (kv := 2) X hX hbl hL h3 hl hS 2 (by decide) (by decide) (by omega) d_law_1022 d_law_1023 d_law_1024 d_law_1025 d_law_1026 ?_
  refine R_smV (rest := []) X hP hD hS (List.all_eq_true.mp xF_ok) had (j := j_A_at) (M := m_A_at) rfl (a := 42) (as := [.int (xs (i + 1)), .int (xs (i + 2))]) (cl_at _ _ σ hB hQ) rfl (lawL_ok (i := 52) rfl rfl) rfl rfl (show 2 + 1 = m_A_at.2.2.2.2.1.2.2.2 % 100 by decide) ⟨(Nat.le_of_ble_eq_true rfl), (Nat.le_of_ble_eq_true rfl)⟩ hl.1 (Nat.le_of_ble_eq_true rfl) (Nat.le_of_ble_eq_true rfl) (Nat.le_of_ble_eq_true rfl) d_law_1027 ?_
  rintro r σ1 H1 locs1 ⟨x, rfl, hq⟩ hP hD hS
  refine lv_pop X.hx X.hb d_law_1030 rfl ?_
  refine lv_aload_n X.hx X.hb d_law_1031 rfl (lv_at hl 1 rfl) ?_
  refine R_arg (kz := 1) (kv := 1) X hX hbl hL h3 hl hS 1 (by decide) (by decide) (by omega) d_law_1032 d_law_1033 d_law_1034 d_law_1035 d_law_1036 ?_
  refine R_arg (kz := 2) (kv := 2) X hX hbl hL h3 hl hS 2 (by decide) (by decide) (by omega) d_law_1037 d_law_1038 d_law_1039 d_law_1040 d_law_1041 ?_
  refine R_smV (rest := []) X hP hD hS (List.all_eq_true.mp xF_ok) had (j := j_M_at) (M := m_M_at) rfl (a := 168) (as := [.int (xs (i + 1)), .int (xs (i + 2))]) hq rfl (lawL_ok (i := 53) rfl rfl) rfl rfl (show 2 + 1 = m_M_at.2.2.2.2.1.2.2.2 % 100 by decide) ⟨(Nat.le_of_ble_eq_true rfl), (Nat.le_of_ble_eq_true rfl)⟩ hl.1 (Nat.le_of_ble_eq_true rfl) (Nat.le_of_ble_eq_true rfl) (Nat.le_of_ble_eq_true rfl) d_law_1042 ?_
  rintro r σ2 H2 locs2 ⟨y, rfl, hc, hQ⟩ hP hD hS
  refine lv_pop X.hx X.hb d_law_1045 rfl ?_
  refine lv_goto (tgt := 1249) X.hx X.hb d_law_1046 (by decide) ?_
  exact kk σ2 H2 locs2 hQ hP hD hS
set_option maxRecDepth 100000 in
set_option maxHeartbeats 400000 in
theorem law_c27 (X : CX p s m #[.ref b] c lw_tbl "SpansAwayLaw" code 4 D cA tb s.heap.size (fun q => s.heap.size ≤ q)) (hX : va_X b Ln xs s s.heap) (hbl : b < s.heap.size) (hL : Ln ≤ 2560) (had : ∀ t q, sm_TB[t]? = some q → ad (1000 + t) = tb (1000 + t)) (h3 : x3.toInt = i) (hi : i + 5 ≤ Ln) (hB : 1488000 * n < 1500000000) (hl : lv_has L 4 [(3, .int x3), (2, .ref (ad 168)), (1, .ref (ad 42)), (0, .ref b)]) (hQ : LR (1488000 * n) σ) (hP : va_P D vwCl (sm_W xF ad cA σ) H) (hD : va_D (fun q => s.heap.size ≤ q) (sm_W xF ad cA σ)) (hS : va_S (fun q => s.heap.size ≤ q) s.heap H locs) (kk : ∀ (σ' : sm_S) (H : Heap) (locs : List Loc), LR (1488000 * n + 1488000) σ' → va_P D vwCl (sm_W xF ad cA σ') H → va_D (fun q => s.heap.size ≤ q) (sm_W xF ad cA σ') → va_S (fun q => s.heap.size ≤ q) s.heap H locs → W p l e room_1 s m #[.ref b] below meth c H locs 174 17642 Q (F0 m 1249 L [])) : W p l e room_1 s m #[.ref b] below meth c H locs 174 17642 Q (F0 m 1049 L []) := by
  refine lv_aload_n X.hx X.hb d_law_1049 rfl (lv_at hl 2 rfl) ?_
  refine R_smV (rest := []) X hP hD hS (List.all_eq_true.mp xF_ok) had (j := j_A_movable) (M := m_A_movable) rfl (a := 42) (as := []) (cl_movable  σ hB hQ) rfl (lawL_ok (i := 54) rfl rfl) rfl rfl (show 0 + 1 = m_A_movable.2.2.2.2.1.2.2.2 % 100 by decide) ⟨(Nat.le_of_ble_eq_true rfl), (Nat.le_of_ble_eq_true rfl)⟩ hl.1 (Nat.le_of_ble_eq_true rfl) (Nat.le_of_ble_eq_true rfl) (Nat.le_of_ble_eq_true rfl) d_law_1050 ?_
  rintro r σ1 H1 locs1 ⟨x, rfl, hq⟩ hP hD hS
  refine lv_pop X.hx X.hb d_law_1053 rfl ?_
  refine lv_aload_n X.hx X.hb d_law_1054 rfl (lv_at hl 1 rfl) ?_
  refine R_smV (rest := []) X hP hD hS (List.all_eq_true.mp xF_ok) had (j := j_M_movable) (M := m_M_movable) rfl (a := 168) (as := []) hq rfl (lawL_ok (i := 55) rfl rfl) rfl rfl (show 0 + 1 = m_M_movable.2.2.2.2.1.2.2.2 % 100 by decide) ⟨(Nat.le_of_ble_eq_true rfl), (Nat.le_of_ble_eq_true rfl)⟩ hl.1 (Nat.le_of_ble_eq_true rfl) (Nat.le_of_ble_eq_true rfl) (Nat.le_of_ble_eq_true rfl) d_law_1055 ?_
  rintro r σ2 H2 locs2 ⟨y, rfl, hc, hQ⟩ hP hD hS
  refine lv_pop X.hx X.hb d_law_1058 rfl ?_
  refine lv_goto (tgt := 1249) X.hx X.hb d_law_1059 (by decide) ?_
  exact kk σ2 H2 locs2 hQ hP hD hS
set_option maxRecDepth 100000 in
set_option maxHeartbeats 400000 in
theorem law_c28 (X : CX p s m #[.ref b] c lw_tbl "SpansAwayLaw" code 4 D cA tb s.heap.size (fun q => s.heap.size ≤ q)) (hX : va_X b Ln xs s s.heap) (hbl : b < s.heap.size) (hL : Ln ≤ 2560) (had : ∀ t q, sm_TB[t]? = some q → ad (1000 + t) = tb (1000 + t)) (h3 : x3.toInt = i) (hi : i + 5 ≤ Ln) (hB : 1488000 * n < 1500000000) (hl : lv_has L 4 [(3, .int x3), (2, .ref (ad 168)), (1, .ref (ad 42)), (0, .ref b)]) (hQ : LR (1488000 * n) σ) (hP : va_P D vwCl (sm_W xF ad cA σ) H) (hD : va_D (fun q => s.heap.size ≤ q) (sm_W xF ad cA σ)) (hS : va_S (fun q => s.heap.size ≤ q) s.heap H locs) (kk : ∀ (σ' : sm_S) (H : Heap) (locs : List Loc), LR (1488000 * n + 1488000) σ' → va_P D vwCl (sm_W xF ad cA σ') H → va_D (fun q => s.heap.size ≤ q) (sm_W xF ad cA σ') → va_S (fun q => s.heap.size ≤ q) s.heap H locs → W p l e room_1 s m #[.ref b] below meth c H locs 174 17642 Q (F0 m 1249 L [])) : W p l e room_1 s m #[.ref b] below meth c H locs 174 17642 Q (F0 m 1062 L []) := by
  refine lv_aload_n X.hx X.hb d_law_1062 rfl (lv_at hl 2 rfl) ?_
  refine R_arg (kz := 1) (kv := 1) X hX hbl hL h3 hl hS 1 (by decide) (by decide) (by omega) d_law_1063 d_law_1064 d_law_1065 d_law_1066 d_law_1067 ?_
  refine R_arg (kz := 2) (kv := 2) X hX hbl hL h3 hl hS 2 (by decide) (by decide) (by omega) d_law_1068 d_law_1069 d_law_1070 d_law_1071 d_law_1072 ?_
  refine R_smV (rest := []) X hP hD hS (List.all_eq_true.mp xF_ok) had (j := j_A_would) (M := m_A_would) rfl (a := 42) (as := [.int (xs (i + 1)), .int (xs (i + 2))]) (cl_would _ _ σ hB hQ) rfl (lawL_ok (i := 56) rfl rfl) rfl rfl (show 2 + 1 = m_A_would.2.2.2.2.1.2.2.2 % 100 by decide) ⟨(Nat.le_of_ble_eq_true rfl), (Nat.le_of_ble_eq_true rfl)⟩ hl.1 (Nat.le_of_ble_eq_true rfl) (Nat.le_of_ble_eq_true rfl) (Nat.le_of_ble_eq_true rfl) d_law_1073 ?_
  rintro r σ1 H1 locs1 ⟨x, rfl, hq⟩ hP hD hS
  refine lv_pop X.hx X.hb d_law_1076 rfl ?_
  refine lv_aload_n X.hx X.hb d_law_1077 rfl (lv_at hl 1 rfl) ?_
  refine R_arg (kz := 1) (kv := 1) X hX hbl hL h3 hl hS 1 (by decide) (by decide) (by omega) d_law_1078 d_law_1079 d_law_1080 d_law_1081 d_law_1082 ?_
  refine R_arg (kz := 2) (kv := 2) X hX hbl hL h3 hl hS 2 (by decide) (by decide) (by omega) d_law_1083 d_law_1084 d_law_1085 d_law_1086 d_law_1087 ?_
  refine R_smV (rest := []) X hP hD hS (List.all_eq_true.mp xF_ok) had (j := j_M_would) (M := m_M_would) rfl (a := 168) (as := [.int (xs (i + 1)), .int (xs (i + 2))]) hq rfl (lawL_ok (i := 57) rfl rfl) rfl rfl (show 2 + 1 = m_M_would.2.2.2.2.1.2.2.2 % 100 by decide) ⟨(Nat.le_of_ble_eq_true rfl), (Nat.le_of_ble_eq_true rfl)⟩ hl.1 (Nat.le_of_ble_eq_true rfl) (Nat.le_of_ble_eq_true rfl) (Nat.le_of_ble_eq_true rfl) d_law_1088 ?_
  rintro r σ2 H2 locs2 ⟨y, rfl, hc, hQ⟩ hP hD hS
  refine lv_pop X.hx X.hb d_law_1091 rfl ?_
  refine lv_goto (tgt := 1249) X.hx X.hb d_law_1092 (by decide) ?_
  exact kk σ2 H2 locs2 hQ hP hD hS
set_option maxRecDepth 100000 in
set_option maxHeartbeats 400000 in
theorem law_c29 (X : CX p s m #[.ref b] c lw_tbl "SpansAwayLaw" code 4 D cA tb s.heap.size (fun q => s.heap.size ≤ q)) (hX : va_X b Ln xs s s.heap) (hbl : b < s.heap.size) (hL : Ln ≤ 2560) (had : ∀ t q, sm_TB[t]? = some q → ad (1000 + t) = tb (1000 + t)) (h3 : x3.toInt = i) (hi : i + 5 ≤ Ln) (hB : 1488000 * n < 1500000000) (hl : lv_has L 4 [(3, .int x3), (2, .ref (ad 168)), (1, .ref (ad 42)), (0, .ref b)]) (hQ : LR (1488000 * n) σ) (hP : va_P D vwCl (sm_W xF ad cA σ) H) (hD : va_D (fun q => s.heap.size ≤ q) (sm_W xF ad cA σ)) (hS : va_S (fun q => s.heap.size ≤ q) s.heap H locs) (kk : ∀ (σ' : sm_S) (H : Heap) (locs : List Loc), LR (1488000 * n + 1488000) σ' → va_P D vwCl (sm_W xF ad cA σ') H → va_D (fun q => s.heap.size ≤ q) (sm_W xF ad cA σ') → va_S (fun q => s.heap.size ≤ q) s.heap H locs → W p l e room_1 s m #[.ref b] below meth c H locs 174 17642 Q (F0 m 1249 L [])) : W p l e room_1 s m #[.ref b] below meth c H locs 174 17642 Q (F0 m 1095 L []) := by
  refine lv_aload_n X.hx X.hb d_law_1095 rfl (lv_at hl 2 rfl) ?_
  refine R_arg (kz := 1) (kv := 1) X hX hbl hL h3 hl hS 1 (by decide) (by decide) (by omega) d_law_1096 d_law_1097 d_law_1098 d_law_1099 d_law_1100 ?_
  refine R_smV (rest := []) X hP hD hS (List.all_eq_true.mp xF_ok) had (j := j_A_easiest) (M := m_A_easiest) rfl (a := 42) (as := [.int (xs (i + 1))]) (cl_easiest _ σ hB hQ) rfl (lawL_ok (i := 58) rfl rfl) rfl rfl (show 1 + 1 = m_A_easiest.2.2.2.2.1.2.2.2 % 100 by decide) ⟨(Nat.le_of_ble_eq_true rfl), (Nat.le_of_ble_eq_true rfl)⟩ hl.1 (Nat.le_of_ble_eq_true rfl) (Nat.le_of_ble_eq_true rfl) (Nat.le_of_ble_eq_true rfl) d_law_1101 ?_
  rintro r σ1 H1 locs1 ⟨x, rfl, hq⟩ hP hD hS
  refine lv_pop X.hx X.hb d_law_1104 rfl ?_
  refine lv_aload_n X.hx X.hb d_law_1105 rfl (lv_at hl 1 rfl) ?_
  refine R_arg (kz := 1) (kv := 1) X hX hbl hL h3 hl hS 1 (by decide) (by decide) (by omega) d_law_1106 d_law_1107 d_law_1108 d_law_1109 d_law_1110 ?_
  refine R_smV (rest := []) X hP hD hS (List.all_eq_true.mp xF_ok) had (j := j_M_easiest) (M := m_M_easiest) rfl (a := 168) (as := [.int (xs (i + 1))]) hq rfl (lawL_ok (i := 59) rfl rfl) rfl rfl (show 1 + 1 = m_M_easiest.2.2.2.2.1.2.2.2 % 100 by decide) ⟨(Nat.le_of_ble_eq_true rfl), (Nat.le_of_ble_eq_true rfl)⟩ hl.1 (Nat.le_of_ble_eq_true rfl) (Nat.le_of_ble_eq_true rfl) (Nat.le_of_ble_eq_true rfl) d_law_1111 ?_
  rintro r σ2 H2 locs2 ⟨y, rfl, hc, hQ⟩ hP hD hS
  refine lv_pop X.hx X.hb d_law_1114 rfl ?_
  refine lv_goto (tgt := 1249) X.hx X.hb d_law_1115 (by decide) ?_
  exact kk σ2 H2 locs2 hQ hP hD hS
set_option maxRecDepth 100000 in
set_option maxHeartbeats 400000 in
theorem law_c30 (X : CX p s m #[.ref b] c lw_tbl "SpansAwayLaw" code 4 D cA tb s.heap.size (fun q => s.heap.size ≤ q)) (hX : va_X b Ln xs s s.heap) (hbl : b < s.heap.size) (hL : Ln ≤ 2560) (had : ∀ t q, sm_TB[t]? = some q → ad (1000 + t) = tb (1000 + t)) (h3 : x3.toInt = i) (hi : i + 5 ≤ Ln) (hB : 1488000 * n < 1500000000) (hl : lv_has L 4 [(3, .int x3), (2, .ref (ad 168)), (1, .ref (ad 42)), (0, .ref b)]) (hQ : LR (1488000 * n) σ) (hP : va_P D vwCl (sm_W xF ad cA σ) H) (hD : va_D (fun q => s.heap.size ≤ q) (sm_W xF ad cA σ)) (hS : va_S (fun q => s.heap.size ≤ q) s.heap H locs) (kk : ∀ (σ' : sm_S) (H : Heap) (locs : List Loc), LR (1488000 * n + 1488000) σ' → va_P D vwCl (sm_W xF ad cA σ') H → va_D (fun q => s.heap.size ≤ q) (sm_W xF ad cA σ') → va_S (fun q => s.heap.size ≤ q) s.heap H locs → W p l e room_1 s m #[.ref b] below meth c H locs 174 17642 Q (F0 m 1249 L [])) : W p l e room_1 s m #[.ref b] below meth c H locs 174 17642 Q (F0 m 1118 L []) := by
  refine lv_aload_n X.hx X.hb d_law_1118 rfl (lv_at hl 2 rfl) ?_
  refine R_smV (rest := []) X hP hD hS (List.all_eq_true.mp xF_ok) had (j := j_A_givenBack) (M := m_A_givenBack) rfl (a := 42) (as := []) (ce_givenBack  σ hB hQ) rfl (lawL_ok (i := 60) rfl rfl) rfl rfl (show 0 + 1 = m_A_givenBack.2.2.2.2.1.2.2.2 % 100 by decide) ⟨(Nat.le_of_ble_eq_true rfl), (Nat.le_of_ble_eq_true rfl)⟩ hl.1 (Nat.le_of_ble_eq_true rfl) (Nat.le_of_ble_eq_true rfl) (Nat.le_of_ble_eq_true rfl) d_law_1119 ?_
  rintro r σ1 H1 locs1 ⟨x, rfl, hq⟩ hP hD hS
  refine lv_aload_n X.hx X.hb d_law_1122 rfl (lv_at hl 1 rfl) ?_
  refine R_smV (rest := [.int x]) X hP hD hS (List.all_eq_true.mp xF_ok) had (j := j_M_givenBack) (M := m_M_givenBack) rfl (a := 168) (as := []) hq rfl (lawL_ok (i := 61) rfl rfl) rfl rfl (show 0 + 1 = m_M_givenBack.2.2.2.2.1.2.2.2 % 100 by decide) ⟨(Nat.le_of_ble_eq_true rfl), (Nat.le_of_ble_eq_true rfl)⟩ hl.1 (Nat.le_of_ble_eq_true rfl) (Nat.le_of_ble_eq_true rfl) (Nat.le_of_ble_eq_true rfl) d_law_1123 ?_
  rintro r σ2 H2 locs2 ⟨y, rfl, hc, hQ⟩ hP hD hS
  refine lv_icmp_eq (tgt := 1249) X.hx X.hb d_law_1126 (by decide) (fun _ => kk σ2 H2 locs2 hQ hP hD hS) (fun h => absurd hc h)
set_option maxRecDepth 100000 in
set_option maxHeartbeats 400000 in
theorem law_c31 (X : CX p s m #[.ref b] c lw_tbl "SpansAwayLaw" code 4 D cA tb s.heap.size (fun q => s.heap.size ≤ q)) (hX : va_X b Ln xs s s.heap) (hbl : b < s.heap.size) (hL : Ln ≤ 2560) (had : ∀ t q, sm_TB[t]? = some q → ad (1000 + t) = tb (1000 + t)) (h3 : x3.toInt = i) (hi : i + 5 ≤ Ln) (hB : 1488000 * n < 1500000000) (hl : lv_has L 4 [(3, .int x3), (2, .ref (ad 168)), (1, .ref (ad 42)), (0, .ref b)]) (hQ : LR (1488000 * n) σ) (hP : va_P D vwCl (sm_W xF ad cA σ) H) (hD : va_D (fun q => s.heap.size ≤ q) (sm_W xF ad cA σ)) (hS : va_S (fun q => s.heap.size ≤ q) s.heap H locs) (kk : ∀ (σ' : sm_S) (H : Heap) (locs : List Loc), LR (1488000 * n + 1488000) σ' → va_P D vwCl (sm_W xF ad cA σ') H → va_D (fun q => s.heap.size ≤ q) (sm_W xF ad cA σ') → va_S (fun q => s.heap.size ≤ q) s.heap H locs → W p l e room_1 s m #[.ref b] below meth c H locs 174 17642 Q (F0 m 1249 L [])) : W p l e room_1 s m #[.ref b] below meth c H locs 174 17642 Q (F0 m 1131 L []) := by
  refine lv_aload_n X.hx X.hb d_law_1131 rfl (lv_at hl 2 rfl) ?_
  refine R_arg (kz := 1) (kv := 1) X hX hbl hL h3 hl hS 1 (by decide) (by decide) (by omega) d_law_1132 d_law_1133 d_law_1134 d_law_1135 d_law_1136 ?_
  refine R_arg (kz := 2) (kv := 2) X hX hbl hL h3 hl hS 2 (by decide) (by decide) (by omega) d_law_1137 d_law_1138 d_law_1139 d_law_1140 d_law_1141 ?_
  refine R_smV (rest := []) X hP hD hS (List.all_eq_true.mp xF_ok) had (j := j_A_log) (M := m_A_log) rfl (a := 42) (as := [.int (xs (i + 1)), .int (xs (i + 2))]) (cl_log _ _ σ hB hQ) rfl (lawL_ok (i := 62) rfl rfl) rfl rfl (show 2 + 1 = m_A_log.2.2.2.2.1.2.2.2 % 100 by decide) ⟨(Nat.le_of_ble_eq_true rfl), (Nat.le_of_ble_eq_true rfl)⟩ hl.1 (Nat.le_of_ble_eq_true rfl) (Nat.le_of_ble_eq_true rfl) (Nat.le_of_ble_eq_true rfl) d_law_1142 ?_
  rintro r σ1 H1 locs1 ⟨x, rfl, hq⟩ hP hD hS
  refine lv_pop X.hx X.hb d_law_1145 rfl ?_
  refine lv_aload_n X.hx X.hb d_law_1146 rfl (lv_at hl 1 rfl) ?_
  refine R_arg (kz := 1) (kv := 1) X hX hbl hL h3 hl hS 1 (by decide) (by decide) (by omega) d_law_1147 d_law_1148 d_law_1149 d_law_1150 d_law_1151 ?_
  refine R_arg (kz := 2) (kv := 2) X hX hbl hL h3 hl hS 2 (by decide) (by decide) (by omega) d_law_1152 d_law_1153 d_law_1154 d_law_1155 d_law_1156 ?_
  refine R_smV (rest := []) X hP hD hS (List.all_eq_true.mp xF_ok) had (j := j_M_log) (M := m_M_log) rfl (a := 168) (as := [.int (xs (i + 1)), .int (xs (i + 2))]) hq rfl (lawL_ok (i := 63) rfl rfl) rfl rfl (show 2 + 1 = m_M_log.2.2.2.2.1.2.2.2 % 100 by decide) ⟨(Nat.le_of_ble_eq_true rfl), (Nat.le_of_ble_eq_true rfl)⟩ hl.1 (Nat.le_of_ble_eq_true rfl) (Nat.le_of_ble_eq_true rfl) (Nat.le_of_ble_eq_true rfl) d_law_1157 ?_
  rintro r σ2 H2 locs2 ⟨y, rfl, hc, hQ⟩ hP hD hS
  refine lv_pop X.hx X.hb d_law_1160 rfl ?_
  refine lv_goto (tgt := 1249) X.hx X.hb d_law_1161 (by decide) ?_
  exact kk σ2 H2 locs2 hQ hP hD hS
set_option maxRecDepth 100000 in
set_option maxHeartbeats 400000 in
theorem law_c32 (X : CX p s m #[.ref b] c lw_tbl "SpansAwayLaw" code 4 D cA tb s.heap.size (fun q => s.heap.size ≤ q)) (hX : va_X b Ln xs s s.heap) (hbl : b < s.heap.size) (hL : Ln ≤ 2560) (had : ∀ t q, sm_TB[t]? = some q → ad (1000 + t) = tb (1000 + t)) (h3 : x3.toInt = i) (hi : i + 5 ≤ Ln) (hB : 1488000 * n < 1500000000) (hl : lv_has L 4 [(3, .int x3), (2, .ref (ad 168)), (1, .ref (ad 42)), (0, .ref b)]) (hQ : LR (1488000 * n) σ) (hP : va_P D vwCl (sm_W xF ad cA σ) H) (hD : va_D (fun q => s.heap.size ≤ q) (sm_W xF ad cA σ)) (hS : va_S (fun q => s.heap.size ≤ q) s.heap H locs) (kk : ∀ (σ' : sm_S) (H : Heap) (locs : List Loc), LR (1488000 * n + 1488000) σ' → va_P D vwCl (sm_W xF ad cA σ') H → va_D (fun q => s.heap.size ≤ q) (sm_W xF ad cA σ') → va_S (fun q => s.heap.size ≤ q) s.heap H locs → W p l e room_1 s m #[.ref b] below meth c H locs 174 17642 Q (F0 m 1249 L [])) : W p l e room_1 s m #[.ref b] below meth c H locs 174 17642 Q (F0 m 1164 L []) := by
  refine lv_aload_n X.hx X.hb d_law_1164 rfl (lv_at hl 2 rfl) ?_
  refine R_arg (kz := 1) (kv := 1) X hX hbl hL h3 hl hS 1 (by decide) (by decide) (by omega) d_law_1165 d_law_1166 d_law_1167 d_law_1168 d_law_1169 ?_
  refine R_smV (rest := []) X hP hD hS (List.all_eq_true.mp xF_ok) had (j := j_A_count) (M := m_A_count) rfl (a := 42) (as := [.int (xs (i + 1))]) (cl_count _ σ hB hQ) rfl (lawL_ok (i := 64) rfl rfl) rfl rfl (show 1 + 1 = m_A_count.2.2.2.2.1.2.2.2 % 100 by decide) ⟨(Nat.le_of_ble_eq_true rfl), (Nat.le_of_ble_eq_true rfl)⟩ hl.1 (Nat.le_of_ble_eq_true rfl) (Nat.le_of_ble_eq_true rfl) (Nat.le_of_ble_eq_true rfl) d_law_1170 ?_
  rintro r σ1 H1 locs1 ⟨x, rfl, hq⟩ hP hD hS
  refine lv_pop X.hx X.hb d_law_1173 rfl ?_
  refine lv_aload_n X.hx X.hb d_law_1174 rfl (lv_at hl 1 rfl) ?_
  refine R_arg (kz := 1) (kv := 1) X hX hbl hL h3 hl hS 1 (by decide) (by decide) (by omega) d_law_1175 d_law_1176 d_law_1177 d_law_1178 d_law_1179 ?_
  refine R_smV (rest := []) X hP hD hS (List.all_eq_true.mp xF_ok) had (j := j_M_count) (M := m_M_count) rfl (a := 168) (as := [.int (xs (i + 1))]) hq rfl (lawL_ok (i := 65) rfl rfl) rfl rfl (show 1 + 1 = m_M_count.2.2.2.2.1.2.2.2 % 100 by decide) ⟨(Nat.le_of_ble_eq_true rfl), (Nat.le_of_ble_eq_true rfl)⟩ hl.1 (Nat.le_of_ble_eq_true rfl) (Nat.le_of_ble_eq_true rfl) (Nat.le_of_ble_eq_true rfl) d_law_1180 ?_
  rintro r σ2 H2 locs2 ⟨y, rfl, hc, hQ⟩ hP hD hS
  refine lv_pop X.hx X.hb d_law_1183 rfl ?_
  refine lv_goto (tgt := 1249) X.hx X.hb d_law_1184 (by decide) ?_
  exact kk σ2 H2 locs2 hQ hP hD hS
set_option maxRecDepth 100000 in
set_option maxHeartbeats 400000 in
theorem law_c33 (X : CX p s m #[.ref b] c lw_tbl "SpansAwayLaw" code 4 D cA tb s.heap.size (fun q => s.heap.size ≤ q)) (hX : va_X b Ln xs s s.heap) (hbl : b < s.heap.size) (hL : Ln ≤ 2560) (had : ∀ t q, sm_TB[t]? = some q → ad (1000 + t) = tb (1000 + t)) (h3 : x3.toInt = i) (hi : i + 5 ≤ Ln) (hB : 1488000 * n < 1500000000) (hl : lv_has L 4 [(3, .int x3), (2, .ref (ad 168)), (1, .ref (ad 42)), (0, .ref b)]) (hQ : LR (1488000 * n) σ) (hP : va_P D vwCl (sm_W xF ad cA σ) H) (hD : va_D (fun q => s.heap.size ≤ q) (sm_W xF ad cA σ)) (hS : va_S (fun q => s.heap.size ≤ q) s.heap H locs) (kk : ∀ (σ' : sm_S) (H : Heap) (locs : List Loc), LR (1488000 * n + 1488000) σ' → va_P D vwCl (sm_W xF ad cA σ') H → va_D (fun q => s.heap.size ≤ q) (sm_W xF ad cA σ') → va_S (fun q => s.heap.size ≤ q) s.heap H locs → W p l e room_1 s m #[.ref b] below meth c H locs 174 17642 Q (F0 m 1249 L [])) : W p l e room_1 s m #[.ref b] below meth c H locs 174 17642 Q (F0 m 1187 L []) := by
  refine lv_aload_n X.hx X.hb d_law_1187 rfl (lv_at hl 2 rfl) ?_
  refine R_arg (kz := 1) (kv := 1) X hX hbl hL h3 hl hS 1 (by decide) (by decide) (by omega) d_law_1188 d_law_1189 d_law_1190 d_law_1191 d_law_1192 ?_
  have tail1 : ∀ u : Int32, u = 0 ∧ xs (i + 1) = 0 ∨ u = 1 ∧ xs (i + 1) ≠ 0 → W p l e room_1 s m #[.ref b] below meth c H locs 174 17642 Q (F0 m 1201 L [.int u, .ref (ad 42)]) := by
    intro u hv1
    refine R_smV (rest := []) X hP hD hS (List.all_eq_true.mp xF_ok) had (j := j_A_image) (M := m_A_image) rfl (a := 42) (as := [.int u]) (cl_image _ σ hQ) rfl (lawL_ok (i := 66) rfl rfl) rfl rfl (show 1 + 1 = m_A_image.2.2.2.2.1.2.2.2 % 100 by decide) ⟨(Nat.le_of_ble_eq_true rfl), (Nat.le_of_ble_eq_true rfl)⟩ hl.1 (Nat.le_of_ble_eq_true rfl) (Nat.le_of_ble_eq_true rfl) (Nat.le_of_ble_eq_true rfl) d_law_1201 ?_
    rintro r σ1 H1 locs1 ⟨x, rfl, hq⟩ hP hD hS
    refine lv_pop X.hx X.hb d_law_1204 rfl ?_
    refine lv_aload_n X.hx X.hb d_law_1205 rfl (lv_at hl 1 rfl) ?_
    refine R_arg (kz := 1) (kv := 1) X hX hbl hL h3 hl hS 1 (by decide) (by decide) (by omega) d_law_1206 d_law_1207 d_law_1208 d_law_1209 d_law_1210 ?_
    have tail2 : ∀ v : Int32, v = 0 ∧ xs (i + 1) = 0 ∨ v = 1 ∧ xs (i + 1) ≠ 0 → W p l e room_1 s m #[.ref b] below meth c H1 locs1 174 17642 Q (F0 m 1219 L [.int v, .ref (ad 168)]) := by
      intro v hv2
      have hvu : v = u := by
        rcases hv1 with ⟨z1, z2⟩ | ⟨z1, z2⟩ <;> rcases hv2 with ⟨z3, z4⟩ | ⟨z3, z4⟩
        · rw [z1, z3]
        · exact absurd z2 z4
        · exact absurd z4 z2
        · rw [z1, z3]
      rw [hvu]
      refine R_smV (rest := []) X hP hD hS (List.all_eq_true.mp xF_ok) had (j := j_M_image) (M := m_M_image) rfl (a := 168) (as := [.int u]) hq rfl (lawL_ok (i := 67) rfl rfl) rfl rfl (show 1 + 1 = m_M_image.2.2.2.2.1.2.2.2 % 100 by decide) ⟨(Nat.le_of_ble_eq_true rfl), (Nat.le_of_ble_eq_true rfl)⟩ hl.1 (Nat.le_of_ble_eq_true rfl) (Nat.le_of_ble_eq_true rfl) (Nat.le_of_ble_eq_true rfl) d_law_1219 ?_
      rintro r σ2 H2 locs2 ⟨y, rfl, hc, hQ⟩ hP hD hS
      refine lv_pop X.hx X.hb d_law_1222 rfl ?_
      refine lv_goto (tgt := 1249) X.hx X.hb d_law_1223 (by decide) ?_
      exact kk σ2 H2 locs2 hQ hP hD hS
    refine lv_if_eq (tgt := 1218) X.hx X.hb d_law_1211 (by decide) (fun z => ?_) (fun z => ?_)
    · exact lv_iconst (v := 0) X.hx X.hb d_law_1218 (by decide) (tail2 0 (Or.inl ⟨rfl, z⟩))
    · refine lv_iconst (v := 1) X.hx X.hb d_law_1214 (by decide) ?_
      exact lv_goto (tgt := 1219) X.hx X.hb d_law_1215 (by decide) (tail2 1 (Or.inr ⟨rfl, z⟩))
  refine lv_if_eq (tgt := 1200) X.hx X.hb d_law_1193 (by decide) (fun z => ?_) (fun z => ?_)
  · exact lv_iconst (v := 0) X.hx X.hb d_law_1200 (by decide) (tail1 0 (Or.inl ⟨rfl, z⟩))
  · refine lv_iconst (v := 1) X.hx X.hb d_law_1196 (by decide) ?_
    exact lv_goto (tgt := 1201) X.hx X.hb d_law_1197 (by decide) (tail1 1 (Or.inr ⟨rfl, z⟩))
set_option maxRecDepth 100000 in
set_option maxHeartbeats 400000 in
theorem law_c34 (X : CX p s m #[.ref b] c lw_tbl "SpansAwayLaw" code 4 D cA tb s.heap.size (fun q => s.heap.size ≤ q)) (hX : va_X b Ln xs s s.heap) (hbl : b < s.heap.size) (hL : Ln ≤ 2560) (had : ∀ t q, sm_TB[t]? = some q → ad (1000 + t) = tb (1000 + t)) (h3 : x3.toInt = i) (hi : i + 5 ≤ Ln) (hB : 1488000 * n < 1500000000) (hl : lv_has L 4 [(3, .int x3), (2, .ref (ad 168)), (1, .ref (ad 42)), (0, .ref b)]) (hQ : LR (1488000 * n) σ) (hP : va_P D vwCl (sm_W xF ad cA σ) H) (hD : va_D (fun q => s.heap.size ≤ q) (sm_W xF ad cA σ)) (hS : va_S (fun q => s.heap.size ≤ q) s.heap H locs) (kk : ∀ (σ' : sm_S) (H : Heap) (locs : List Loc), LR (1488000 * n + 1488000) σ' → va_P D vwCl (sm_W xF ad cA σ') H → va_D (fun q => s.heap.size ≤ q) (sm_W xF ad cA σ') → va_S (fun q => s.heap.size ≤ q) s.heap H locs → W p l e room_1 s m #[.ref b] below meth c H locs 174 17642 Q (F0 m 1249 L [])) : W p l e room_1 s m #[.ref b] below meth c H locs 174 17642 Q (F0 m 1226 L []) := by
  refine lv_aload_n X.hx X.hb d_law_1226 rfl (lv_at hl 2 rfl) ?_
  refine R_arg (kz := 1) (kv := 1) X hX hbl hL h3 hl hS 1 (by decide) (by decide) (by omega) d_law_1227 d_law_1228 d_law_1229 d_law_1230 d_law_1231 ?_
  refine R_smV (rest := []) X hP hD hS (List.all_eq_true.mp xF_ok) had (j := j_A_look) (M := m_A_look) rfl (a := 42) (as := [.int (xs (i + 1))]) (cl_look _ σ hB hQ) rfl (lawL_ok (i := 68) rfl rfl) rfl rfl (show 1 + 1 = m_A_look.2.2.2.2.1.2.2.2 % 100 by decide) ⟨(Nat.le_of_ble_eq_true rfl), (Nat.le_of_ble_eq_true rfl)⟩ hl.1 (Nat.le_of_ble_eq_true rfl) (Nat.le_of_ble_eq_true rfl) (Nat.le_of_ble_eq_true rfl) d_law_1232 ?_
  rintro r σ1 H1 locs1 ⟨x, rfl, hq⟩ hP hD hS
  refine lv_pop X.hx X.hb d_law_1235 rfl ?_
  refine lv_aload_n X.hx X.hb d_law_1236 rfl (lv_at hl 1 rfl) ?_
  refine R_arg (kz := 1) (kv := 1) X hX hbl hL h3 hl hS 1 (by decide) (by decide) (by omega) d_law_1237 d_law_1238 d_law_1239 d_law_1240 d_law_1241 ?_
  refine R_smV (rest := []) X hP hD hS (List.all_eq_true.mp xF_ok) had (j := j_M_look) (M := m_M_look) rfl (a := 168) (as := [.int (xs (i + 1))]) hq rfl (lawL_ok (i := 69) rfl rfl) rfl rfl (show 1 + 1 = m_M_look.2.2.2.2.1.2.2.2 % 100 by decide) ⟨(Nat.le_of_ble_eq_true rfl), (Nat.le_of_ble_eq_true rfl)⟩ hl.1 (Nat.le_of_ble_eq_true rfl) (Nat.le_of_ble_eq_true rfl) (Nat.le_of_ble_eq_true rfl) d_law_1242 ?_
  rintro r σ2 H2 locs2 ⟨y, rfl, hc, hQ⟩ hP hD hS
  refine lv_pop X.hx X.hb d_law_1245 rfl ?_
  refine lv_goto (tgt := 1249) X.hx X.hb d_law_1246 (by decide) ?_
  exact kk σ2 H2 locs2 hQ hP hD hS
end LAW
