section CASES
variable {p : Program} {l : Launch} {e : Env} {s : State} {m : MethodId} {below : List Frame} {meth : Method} {c : Code} {D : va_G} {cy : Nat → ClassId} {q : Nat → Nat} {b n : Nat} {xs : Nat → Int32} {M : Mm} {F : Nat}
set_option maxRecDepth 100000 in
set_option maxHeartbeats 4000000 in
theorem lc_0 (hF : 300 ≤ F) (hn : n ≤ 3072) (X : Fx p s m #[Value.ref b] c code 4 RL gw D cy q (fun x : Nat => s.heap.size ≤ x) s.heap) (hX : va_X b n xs s s.heap) (hbl : b < s.heap.size) {i : Nat} (hi : i + 6 ≤ n) (S : St M) (kk : ∀ M', St M' → V p l e room_1 s m #[Value.ref b] below meth c (lw_Z below #[Value.ref b] s) D cy q (fun x : Nat => s.heap.size ≤ x) s.heap 4 50 2483 M' 945 (LL b q i) []) : V p l e room_1 s m #[Value.ref b] below meth c (lw_Z below #[Value.ref b] s) D cy q (fun x : Nat => s.heap.size ≤ x) s.heap 4 50 2483 M 148 (LL b q i) [] := by
  have hbA : ¬ (fun x : Nat => s.heap.size ≤ x) b := Nat.not_le.mpr hbl
  obtain ⟨r, h, H, t, c0, f0, ho, ot⟩ := S
  obtain ⟨v, M1, M2, e1, e2, S2⟩ := Op.run (op_put hF ho ot (xs (i + 1)) (xs (i + 2))) c0 f0
  refine V_aload_n X dL_law_148 1 rfl rfl ?_
  refine L_arg X hn hX hbl hbA 1 (by decide) (by omega) dL_law_149 dL_law_150 dL_law_151 dL_law_152 dL_law_153 ?_
  refine L_arg X hn hX hbl hbA 2 (by decide) (by omega) dL_law_154 dL_law_155 dL_law_156 dL_law_157 dL_law_158 ?_
  refine C_Vi (As := [.int (xs (i + 1)), .int (xs (i + 2))]) (k0 := 0) X rfl rfl (cwV 2 X.1.2.2.2.2 (gw_V wML_L_13 wIM_X6_put wSE_X6_put wIN_X6 (gw_c wCD_X6_put)) rfl rfl rfl (by decide +kernel) ⟨Nat.le_of_ble_eq_true rfl, Nat.le_of_ble_eq_true rfl⟩) rfl rfl (Nat.le_of_ble_eq_true rfl) ⟨Nat.le_of_ble_eq_true rfl, Nat.le_of_ble_eq_true rfl⟩ (k_X6_put l D cy q F (xs (i + 1)) (xs (i + 2)) _ v _ e1) dL_law_159 ?_
  refine V_aload_n X dL_law_162 2 rfl rfl ?_
  refine L_arg X hn hX hbl hbA 1 (by decide) (by omega) dL_law_163 dL_law_164 dL_law_165 dL_law_166 dL_law_167 ?_
  refine L_arg X hn hX hbl hbA 2 (by decide) (by omega) dL_law_168 dL_law_169 dL_law_170 dL_law_171 dL_law_172 ?_
  refine C_Vi (As := [.int (xs (i + 1)), .int (xs (i + 2))]) (k0 := 40) X rfl rfl (cwV 2 X.1.2.2.2.2 (gw_V wML_L_17 wIM_X7_put wSE_X7_put wIN_X7 (gw_c wCD_X7_put)) rfl rfl rfl (by decide +kernel) ⟨Nat.le_of_ble_eq_true rfl, Nat.le_of_ble_eq_true rfl⟩) rfl rfl (Nat.le_of_ble_eq_true rfl) ⟨Nat.le_of_ble_eq_true rfl, Nat.le_of_ble_eq_true rfl⟩ (k_X7_put l D cy q F (xs (i + 1)) (xs (i + 2)) _ v _ e2) dL_law_173 ?_
  refine L_same X 945 dL_law_176 (by decide) ?_
  exact kk _ S2
set_option maxRecDepth 100000 in
set_option maxHeartbeats 4000000 in
theorem lc_1 (hF : 300 ≤ F) (hn : n ≤ 3072) (X : Fx p s m #[Value.ref b] c code 4 RL gw D cy q (fun x : Nat => s.heap.size ≤ x) s.heap) (hX : va_X b n xs s s.heap) (hbl : b < s.heap.size) {i : Nat} (hi : i + 6 ≤ n) (S : St M) (kk : ∀ M', St M' → V p l e room_1 s m #[Value.ref b] below meth c (lw_Z below #[Value.ref b] s) D cy q (fun x : Nat => s.heap.size ≤ x) s.heap 4 50 2483 M' 945 (LL b q i) []) : V p l e room_1 s m #[Value.ref b] below meth c (lw_Z below #[Value.ref b] s) D cy q (fun x : Nat => s.heap.size ≤ x) s.heap 4 50 2483 M 181 (LL b q i) [] := by
  have hbA : ¬ (fun x : Nat => s.heap.size ≤ x) b := Nat.not_le.mpr hbl
  obtain ⟨r, h, H, t, c0, f0, ho, ot⟩ := S
  obtain ⟨v, M1, M2, e1, e2, S2⟩ := Op.run (op_take hF ho ot (xs (i + 1))) c0 f0
  refine V_aload_n X dL_law_181 1 rfl rfl ?_
  refine L_arg X hn hX hbl hbA 1 (by decide) (by omega) dL_law_182 dL_law_183 dL_law_184 dL_law_185 dL_law_186 ?_
  refine C_Vi (As := [.int (xs (i + 1))]) (k0 := 0) X rfl rfl (cwV 1 X.1.2.2.2.2 (gw_V wML_L_18 wIM_X6_take wSE_X6_take wIN_X6 (gw_c wCD_X6_take)) rfl rfl rfl (by decide +kernel) ⟨Nat.le_of_ble_eq_true rfl, Nat.le_of_ble_eq_true rfl⟩) rfl rfl (Nat.le_of_ble_eq_true rfl) ⟨Nat.le_of_ble_eq_true rfl, Nat.le_of_ble_eq_true rfl⟩ (k_X6_take l D cy q F (xs (i + 1)) _ v _ e1) dL_law_187 ?_
  refine V_aload_n X dL_law_190 2 rfl rfl ?_
  refine L_arg X hn hX hbl hbA 1 (by decide) (by omega) dL_law_191 dL_law_192 dL_law_193 dL_law_194 dL_law_195 ?_
  refine C_Vi (As := [.int (xs (i + 1))]) (k0 := 40) X rfl rfl (cwV 1 X.1.2.2.2.2 (gw_V wML_L_22 wIM_X7_take wSE_X7_take wIN_X7 (gw_c wCD_X7_take)) rfl rfl rfl (by decide +kernel) ⟨Nat.le_of_ble_eq_true rfl, Nat.le_of_ble_eq_true rfl⟩) rfl rfl (Nat.le_of_ble_eq_true rfl) ⟨Nat.le_of_ble_eq_true rfl, Nat.le_of_ble_eq_true rfl⟩ (k_X7_take l D cy q F (xs (i + 1)) _ v _ e2) dL_law_196 ?_
  refine L_same X 945 dL_law_199 (by decide) ?_
  exact kk _ S2
set_option maxRecDepth 100000 in
set_option maxHeartbeats 4000000 in
theorem lc_2 (hF : 300 ≤ F) (hn : n ≤ 3072) (X : Fx p s m #[Value.ref b] c code 4 RL gw D cy q (fun x : Nat => s.heap.size ≤ x) s.heap) (hX : va_X b n xs s s.heap) (hbl : b < s.heap.size) {i : Nat} (hi : i + 6 ≤ n) (S : St M) (kk : ∀ M', St M' → V p l e room_1 s m #[Value.ref b] below meth c (lw_Z below #[Value.ref b] s) D cy q (fun x : Nat => s.heap.size ≤ x) s.heap 4 50 2483 M' 945 (LL b q i) []) : V p l e room_1 s m #[Value.ref b] below meth c (lw_Z below #[Value.ref b] s) D cy q (fun x : Nat => s.heap.size ≤ x) s.heap 4 50 2483 M 204 (LL b q i) [] := by
  have hbA : ¬ (fun x : Nat => s.heap.size ≤ x) b := Nat.not_le.mpr hbl
  obtain ⟨r, h, H, t, c0, f0, ho, ot⟩ := S
  obtain ⟨v, M1, M2, e1, e2, S2⟩ := Op.run (op_change hF ho ot (xs (i + 1)) (xs (i + 2))) c0 f0
  refine V_aload_n X dL_law_204 1 rfl rfl ?_
  refine L_arg X hn hX hbl hbA 1 (by decide) (by omega) dL_law_205 dL_law_206 dL_law_207 dL_law_208 dL_law_209 ?_
  refine L_arg X hn hX hbl hbA 2 (by decide) (by omega) dL_law_210 dL_law_211 dL_law_212 dL_law_213 dL_law_214 ?_
  refine C_Vi (As := [.int (xs (i + 1)), .int (xs (i + 2))]) (k0 := 0) X rfl rfl (cwV 2 X.1.2.2.2.2 (gw_V wML_L_23 wIM_X6_change wSE_X6_change wIN_X6 (gw_c wCD_X6_change)) rfl rfl rfl (by decide +kernel) ⟨Nat.le_of_ble_eq_true rfl, Nat.le_of_ble_eq_true rfl⟩) rfl rfl (Nat.le_of_ble_eq_true rfl) ⟨Nat.le_of_ble_eq_true rfl, Nat.le_of_ble_eq_true rfl⟩ (k_X6_change l D cy q F (xs (i + 1)) (xs (i + 2)) _ v _ e1) dL_law_215 ?_
  refine V_aload_n X dL_law_218 2 rfl rfl ?_
  refine L_arg X hn hX hbl hbA 1 (by decide) (by omega) dL_law_219 dL_law_220 dL_law_221 dL_law_222 dL_law_223 ?_
  refine L_arg X hn hX hbl hbA 2 (by decide) (by omega) dL_law_224 dL_law_225 dL_law_226 dL_law_227 dL_law_228 ?_
  refine C_Vi (As := [.int (xs (i + 1)), .int (xs (i + 2))]) (k0 := 40) X rfl rfl (cwV 2 X.1.2.2.2.2 (gw_V wML_L_26 wIM_X7_change wSE_X7_change wIN_X7 (gw_c wCD_X7_change)) rfl rfl rfl (by decide +kernel) ⟨Nat.le_of_ble_eq_true rfl, Nat.le_of_ble_eq_true rfl⟩) rfl rfl (Nat.le_of_ble_eq_true rfl) ⟨Nat.le_of_ble_eq_true rfl, Nat.le_of_ble_eq_true rfl⟩ (k_X7_change l D cy q F (xs (i + 1)) (xs (i + 2)) _ v _ e2) dL_law_229 ?_
  refine L_same X 945 dL_law_232 (by decide) ?_
  exact kk _ S2
set_option maxRecDepth 100000 in
set_option maxHeartbeats 4000000 in
theorem lc_3 (hF : 300 ≤ F) (hn : n ≤ 3072) (X : Fx p s m #[Value.ref b] c code 4 RL gw D cy q (fun x : Nat => s.heap.size ≤ x) s.heap) (hX : va_X b n xs s s.heap) (hbl : b < s.heap.size) {i : Nat} (hi : i + 6 ≤ n) (S : St M) (kk : ∀ M', St M' → V p l e room_1 s m #[Value.ref b] below meth c (lw_Z below #[Value.ref b] s) D cy q (fun x : Nat => s.heap.size ≤ x) s.heap 4 50 2483 M' 945 (LL b q i) []) : V p l e room_1 s m #[Value.ref b] below meth c (lw_Z below #[Value.ref b] s) D cy q (fun x : Nat => s.heap.size ≤ x) s.heap 4 50 2483 M 237 (LL b q i) [] := by
  have hbA : ¬ (fun x : Nat => s.heap.size ≤ x) b := Nat.not_le.mpr hbl
  obtain ⟨r, h, H, t, c0, f0, ho, ot⟩ := S
  obtain ⟨v, M1, M2, e1, e2, S2⟩ := Op.run (op_swap hF ho ot (xs (i + 1)) (xs (i + 2))) c0 f0
  refine V_aload_n X dL_law_237 1 rfl rfl ?_
  refine L_arg X hn hX hbl hbA 1 (by decide) (by omega) dL_law_238 dL_law_239 dL_law_240 dL_law_241 dL_law_242 ?_
  refine L_arg X hn hX hbl hbA 2 (by decide) (by omega) dL_law_243 dL_law_244 dL_law_245 dL_law_246 dL_law_247 ?_
  refine C_Vi (As := [.int (xs (i + 1)), .int (xs (i + 2))]) (k0 := 0) X rfl rfl (cwV 2 X.1.2.2.2.2 (gw_V wML_L_27 wIM_X6_swap wSE_X6_swap wIN_X6 (gw_c wCD_X6_swap)) rfl rfl rfl (by decide +kernel) ⟨Nat.le_of_ble_eq_true rfl, Nat.le_of_ble_eq_true rfl⟩) rfl rfl (Nat.le_of_ble_eq_true rfl) ⟨Nat.le_of_ble_eq_true rfl, Nat.le_of_ble_eq_true rfl⟩ (k_X6_swap l D cy q F (xs (i + 1)) (xs (i + 2)) _ v _ e1) dL_law_248 ?_
  refine V_aload_n X dL_law_251 2 rfl rfl ?_
  refine L_arg X hn hX hbl hbA 1 (by decide) (by omega) dL_law_252 dL_law_253 dL_law_254 dL_law_255 dL_law_256 ?_
  refine L_arg X hn hX hbl hbA 2 (by decide) (by omega) dL_law_257 dL_law_258 dL_law_259 dL_law_260 dL_law_261 ?_
  refine C_Vi (As := [.int (xs (i + 1)), .int (xs (i + 2))]) (k0 := 40) X rfl rfl (cwV 2 X.1.2.2.2.2 (gw_V wML_L_30 wIM_X7_swap wSE_X7_swap wIN_X7 (gw_c wCD_X7_swap)) rfl rfl rfl (by decide +kernel) ⟨Nat.le_of_ble_eq_true rfl, Nat.le_of_ble_eq_true rfl⟩) rfl rfl (Nat.le_of_ble_eq_true rfl) ⟨Nat.le_of_ble_eq_true rfl, Nat.le_of_ble_eq_true rfl⟩ (k_X7_swap l D cy q F (xs (i + 1)) (xs (i + 2)) _ v _ e2) dL_law_262 ?_
  refine L_same X 945 dL_law_265 (by decide) ?_
  exact kk _ S2
set_option maxRecDepth 100000 in
set_option maxHeartbeats 4000000 in
theorem lc_4 (hF : 300 ≤ F) (hn : n ≤ 3072) (X : Fx p s m #[Value.ref b] c code 4 RL gw D cy q (fun x : Nat => s.heap.size ≤ x) s.heap) (hX : va_X b n xs s s.heap) (hbl : b < s.heap.size) {i : Nat} (hi : i + 6 ≤ n) (S : St M) (kk : ∀ M', St M' → V p l e room_1 s m #[Value.ref b] below meth c (lw_Z below #[Value.ref b] s) D cy q (fun x : Nat => s.heap.size ≤ x) s.heap 4 50 2483 M' 945 (LL b q i) []) : V p l e room_1 s m #[Value.ref b] below meth c (lw_Z below #[Value.ref b] s) D cy q (fun x : Nat => s.heap.size ≤ x) s.heap 4 50 2483 M 270 (LL b q i) [] := by
  have hbA : ¬ (fun x : Nat => s.heap.size ≤ x) b := Nat.not_le.mpr hbl
  obtain ⟨r, h, H, t, c0, f0, ho, ot⟩ := S
  obtain ⟨v, M1, M2, e1, e2, S2⟩ := Op.run (op_turn hF ho ot (xs (i + 1)) (xs (i + 2))) c0 f0
  refine V_aload_n X dL_law_270 1 rfl rfl ?_
  refine L_arg X hn hX hbl hbA 1 (by decide) (by omega) dL_law_271 dL_law_272 dL_law_273 dL_law_274 dL_law_275 ?_
  refine L_arg X hn hX hbl hbA 2 (by decide) (by omega) dL_law_276 dL_law_277 dL_law_278 dL_law_279 dL_law_280 ?_
  refine C_Vi (As := [.int (xs (i + 1)), .int (xs (i + 2))]) (k0 := 0) X rfl rfl (cwV 2 X.1.2.2.2.2 (gw_V wML_L_31 wIM_X6_turn wSE_X6_turn wIN_X6 (gw_c wCD_X6_turn)) rfl rfl rfl (by decide +kernel) ⟨Nat.le_of_ble_eq_true rfl, Nat.le_of_ble_eq_true rfl⟩) rfl rfl (Nat.le_of_ble_eq_true rfl) ⟨Nat.le_of_ble_eq_true rfl, Nat.le_of_ble_eq_true rfl⟩ (k_X6_turn l D cy q F (xs (i + 1)) (xs (i + 2)) _ v _ e1) dL_law_281 ?_
  refine V_aload_n X dL_law_284 2 rfl rfl ?_
  refine L_arg X hn hX hbl hbA 1 (by decide) (by omega) dL_law_285 dL_law_286 dL_law_287 dL_law_288 dL_law_289 ?_
  refine L_arg X hn hX hbl hbA 2 (by decide) (by omega) dL_law_290 dL_law_291 dL_law_292 dL_law_293 dL_law_294 ?_
  refine C_Vi (As := [.int (xs (i + 1)), .int (xs (i + 2))]) (k0 := 40) X rfl rfl (cwV 2 X.1.2.2.2.2 (gw_V wML_L_34 wIM_X7_turn wSE_X7_turn wIN_X7 (gw_c wCD_X7_turn)) rfl rfl rfl (by decide +kernel) ⟨Nat.le_of_ble_eq_true rfl, Nat.le_of_ble_eq_true rfl⟩) rfl rfl (Nat.le_of_ble_eq_true rfl) ⟨Nat.le_of_ble_eq_true rfl, Nat.le_of_ble_eq_true rfl⟩ (k_X7_turn l D cy q F (xs (i + 1)) (xs (i + 2)) _ v _ e2) dL_law_295 ?_
  refine L_same X 945 dL_law_298 (by decide) ?_
  exact kk _ S2
set_option maxRecDepth 100000 in
set_option maxHeartbeats 4000000 in
theorem lc_5 (hF : 300 ≤ F) (hn : n ≤ 3072) (X : Fx p s m #[Value.ref b] c code 4 RL gw D cy q (fun x : Nat => s.heap.size ≤ x) s.heap) (hX : va_X b n xs s s.heap) (hbl : b < s.heap.size) {i : Nat} (hi : i + 6 ≤ n) (S : St M) (kk : ∀ M', St M' → V p l e room_1 s m #[Value.ref b] below meth c (lw_Z below #[Value.ref b] s) D cy q (fun x : Nat => s.heap.size ≤ x) s.heap 4 50 2483 M' 945 (LL b q i) []) : V p l e room_1 s m #[Value.ref b] below meth c (lw_Z below #[Value.ref b] s) D cy q (fun x : Nat => s.heap.size ≤ x) s.heap 4 50 2483 M 303 (LL b q i) [] := by
  have hbA : ¬ (fun x : Nat => s.heap.size ≤ x) b := Nat.not_le.mpr hbl
  obtain ⟨r, h, H, t, c0, f0, ho, ot⟩ := S
  obtain ⟨v, M1, M2, e1, e2, S2⟩ := Op.run (op_sort hF ho ot (xs (i + 1)) (xs (i + 2))) c0 f0
  refine V_aload_n X dL_law_303 1 rfl rfl ?_
  refine L_arg X hn hX hbl hbA 1 (by decide) (by omega) dL_law_304 dL_law_305 dL_law_306 dL_law_307 dL_law_308 ?_
  refine L_arg X hn hX hbl hbA 2 (by decide) (by omega) dL_law_309 dL_law_310 dL_law_311 dL_law_312 dL_law_313 ?_
  refine C_Vi (As := [.int (xs (i + 1)), .int (xs (i + 2))]) (k0 := 0) X rfl rfl (cwV 2 X.1.2.2.2.2 (gw_V wML_L_35 wIM_X6_sort wSE_X6_sort wIN_X6 (gw_c wCD_X6_sort)) rfl rfl rfl (by decide +kernel) ⟨Nat.le_of_ble_eq_true rfl, Nat.le_of_ble_eq_true rfl⟩) rfl rfl (Nat.le_of_ble_eq_true rfl) ⟨Nat.le_of_ble_eq_true rfl, Nat.le_of_ble_eq_true rfl⟩ (k_X6_sort l D cy q F (xs (i + 1)) (xs (i + 2)) _ v _ e1) dL_law_314 ?_
  refine V_aload_n X dL_law_317 2 rfl rfl ?_
  refine L_arg X hn hX hbl hbA 1 (by decide) (by omega) dL_law_318 dL_law_319 dL_law_320 dL_law_321 dL_law_322 ?_
  refine L_arg X hn hX hbl hbA 2 (by decide) (by omega) dL_law_323 dL_law_324 dL_law_325 dL_law_326 dL_law_327 ?_
  refine C_Vi (As := [.int (xs (i + 1)), .int (xs (i + 2))]) (k0 := 40) X rfl rfl (cwV 2 X.1.2.2.2.2 (gw_V wML_L_38 wIM_X7_sort wSE_X7_sort wIN_X7 (gw_c wCD_X7_sort)) rfl rfl rfl (by decide +kernel) ⟨Nat.le_of_ble_eq_true rfl, Nat.le_of_ble_eq_true rfl⟩) rfl rfl (Nat.le_of_ble_eq_true rfl) ⟨Nat.le_of_ble_eq_true rfl, Nat.le_of_ble_eq_true rfl⟩ (k_X7_sort l D cy q F (xs (i + 1)) (xs (i + 2)) _ v _ e2) dL_law_328 ?_
  refine L_same X 945 dL_law_331 (by decide) ?_
  exact kk _ S2
set_option maxRecDepth 100000 in
set_option maxHeartbeats 4000000 in
theorem lc_6 (hF : 300 ≤ F) (hn : n ≤ 3072) (X : Fx p s m #[Value.ref b] c code 4 RL gw D cy q (fun x : Nat => s.heap.size ≤ x) s.heap) (hX : va_X b n xs s s.heap) (hbl : b < s.heap.size) {i : Nat} (hi : i + 6 ≤ n) (S : St M) (kk : ∀ M', St M' → V p l e room_1 s m #[Value.ref b] below meth c (lw_Z below #[Value.ref b] s) D cy q (fun x : Nat => s.heap.size ≤ x) s.heap 4 50 2483 M' 945 (LL b q i) []) : V p l e room_1 s m #[Value.ref b] below meth c (lw_Z below #[Value.ref b] s) D cy q (fun x : Nat => s.heap.size ≤ x) s.heap 4 50 2483 M 336 (LL b q i) [] := by
  have hbA : ¬ (fun x : Nat => s.heap.size ≤ x) b := Nat.not_le.mpr hbl
  obtain ⟨r, h, H, t, c0, f0, ho, ot⟩ := S
  obtain ⟨v, M1, M2, e1, e2, S2⟩ := Op.run (op_levelOf hF ho ot (xs (i + 1)) (xs (i + 2)) (xs (i + 3))) c0 f0
  refine V_aload_n X dL_law_336 1 rfl rfl ?_
  refine L_arg X hn hX hbl hbA 1 (by decide) (by omega) dL_law_337 dL_law_338 dL_law_339 dL_law_340 dL_law_341 ?_
  refine L_arg X hn hX hbl hbA 2 (by decide) (by omega) dL_law_342 dL_law_343 dL_law_344 dL_law_345 dL_law_346 ?_
  refine L_arg X hn hX hbl hbA 3 (by decide) (by omega) dL_law_347 dL_law_348 dL_law_349 dL_law_350 dL_law_351 ?_
  refine C_Vi (As := [.int (xs (i + 1)), .int (xs (i + 2)), .int (xs (i + 3))]) (k0 := 0) X rfl rfl (cwV 3 X.1.2.2.2.2 (gw_V wML_L_39 wIM_X6_levelOf wSE_X6_levelOf wIN_X6 (gw_c wCD_X6_levelOf)) rfl rfl rfl (by decide +kernel) ⟨Nat.le_of_ble_eq_true rfl, Nat.le_of_ble_eq_true rfl⟩) rfl rfl (Nat.le_of_ble_eq_true rfl) ⟨Nat.le_of_ble_eq_true rfl, Nat.le_of_ble_eq_true rfl⟩ (k_X6_levelOf l D cy q F (xs (i + 1)) (xs (i + 2)) (xs (i + 3)) _ v _ e1) dL_law_352 ?_
  refine V_aload_n X dL_law_355 2 rfl rfl ?_
  refine L_arg X hn hX hbl hbA 1 (by decide) (by omega) dL_law_356 dL_law_357 dL_law_358 dL_law_359 dL_law_360 ?_
  refine L_arg X hn hX hbl hbA 2 (by decide) (by omega) dL_law_361 dL_law_362 dL_law_363 dL_law_364 dL_law_365 ?_
  refine L_arg X hn hX hbl hbA 3 (by decide) (by omega) dL_law_366 dL_law_367 dL_law_368 dL_law_369 dL_law_370 ?_
  refine C_Vi (As := [.int (xs (i + 1)), .int (xs (i + 2)), .int (xs (i + 3))]) (k0 := 40) X rfl rfl (cwV 3 X.1.2.2.2.2 (gw_V wML_L_43 wIM_X7_levelOf wSE_X7_levelOf wIN_X7 (gw_c wCD_X7_levelOf)) rfl rfl rfl (by decide +kernel) ⟨Nat.le_of_ble_eq_true rfl, Nat.le_of_ble_eq_true rfl⟩) rfl rfl (Nat.le_of_ble_eq_true rfl) ⟨Nat.le_of_ble_eq_true rfl, Nat.le_of_ble_eq_true rfl⟩ (k_X7_levelOf l D cy q F (xs (i + 1)) (xs (i + 2)) (xs (i + 3)) _ v _ e2) dL_law_371 ?_
  refine L_same X 945 dL_law_374 (by decide) ?_
  exact kk _ S2
set_option maxRecDepth 100000 in
set_option maxHeartbeats 4000000 in
theorem lc_7 (hF : 300 ≤ F) (hn : n ≤ 3072) (X : Fx p s m #[Value.ref b] c code 4 RL gw D cy q (fun x : Nat => s.heap.size ≤ x) s.heap) (hX : va_X b n xs s s.heap) (hbl : b < s.heap.size) {i : Nat} (hi : i + 6 ≤ n) (S : St M) (kk : ∀ M', St M' → V p l e room_1 s m #[Value.ref b] below meth c (lw_Z below #[Value.ref b] s) D cy q (fun x : Nat => s.heap.size ≤ x) s.heap 4 50 2483 M' 945 (LL b q i) []) : V p l e room_1 s m #[Value.ref b] below meth c (lw_Z below #[Value.ref b] s) D cy q (fun x : Nat => s.heap.size ≤ x) s.heap 4 50 2483 M 379 (LL b q i) [] := by
  have hbA : ¬ (fun x : Nat => s.heap.size ≤ x) b := Nat.not_le.mpr hbl
  obtain ⟨r, h, H, t, c0, f0, ho, ot⟩ := S
  obtain ⟨v, M1, M2, e1, e2, S2⟩ := Op.run (op_blockOf hF ho ot (xs (i + 1)) (xs (i + 2)) (xs (i + 3))) c0 f0
  refine V_aload_n X dL_law_379 1 rfl rfl ?_
  refine L_arg X hn hX hbl hbA 1 (by decide) (by omega) dL_law_380 dL_law_381 dL_law_382 dL_law_383 dL_law_384 ?_
  refine L_arg X hn hX hbl hbA 2 (by decide) (by omega) dL_law_385 dL_law_386 dL_law_387 dL_law_388 dL_law_389 ?_
  refine L_arg X hn hX hbl hbA 3 (by decide) (by omega) dL_law_390 dL_law_391 dL_law_392 dL_law_393 dL_law_394 ?_
  refine C_Vi (As := [.int (xs (i + 1)), .int (xs (i + 2)), .int (xs (i + 3))]) (k0 := 0) X rfl rfl (cwV 3 X.1.2.2.2.2 (gw_V wML_L_44 wIM_X6_blockOf wSE_X6_blockOf wIN_X6 (gw_c wCD_X6_blockOf)) rfl rfl rfl (by decide +kernel) ⟨Nat.le_of_ble_eq_true rfl, Nat.le_of_ble_eq_true rfl⟩) rfl rfl (Nat.le_of_ble_eq_true rfl) ⟨Nat.le_of_ble_eq_true rfl, Nat.le_of_ble_eq_true rfl⟩ (k_X6_blockOf l D cy q F (xs (i + 1)) (xs (i + 2)) (xs (i + 3)) _ v _ e1) dL_law_395 ?_
  refine V_aload_n X dL_law_398 2 rfl rfl ?_
  refine L_arg X hn hX hbl hbA 1 (by decide) (by omega) dL_law_399 dL_law_400 dL_law_401 dL_law_402 dL_law_403 ?_
  refine L_arg X hn hX hbl hbA 2 (by decide) (by omega) dL_law_404 dL_law_405 dL_law_406 dL_law_407 dL_law_408 ?_
  refine L_arg X hn hX hbl hbA 3 (by decide) (by omega) dL_law_409 dL_law_410 dL_law_411 dL_law_412 dL_law_413 ?_
  refine C_Vi (As := [.int (xs (i + 1)), .int (xs (i + 2)), .int (xs (i + 3))]) (k0 := 40) X rfl rfl (cwV 3 X.1.2.2.2.2 (gw_V wML_L_47 wIM_X7_blockOf wSE_X7_blockOf wIN_X7 (gw_c wCD_X7_blockOf)) rfl rfl rfl (by decide +kernel) ⟨Nat.le_of_ble_eq_true rfl, Nat.le_of_ble_eq_true rfl⟩) rfl rfl (Nat.le_of_ble_eq_true rfl) ⟨Nat.le_of_ble_eq_true rfl, Nat.le_of_ble_eq_true rfl⟩ (k_X7_blockOf l D cy q F (xs (i + 1)) (xs (i + 2)) (xs (i + 3)) _ v _ e2) dL_law_414 ?_
  refine L_same X 945 dL_law_417 (by decide) ?_
  exact kk _ S2
set_option maxRecDepth 100000 in
set_option maxHeartbeats 4000000 in
theorem lc_8 (hF : 300 ≤ F) (hn : n ≤ 3072) (X : Fx p s m #[Value.ref b] c code 4 RL gw D cy q (fun x : Nat => s.heap.size ≤ x) s.heap) (hX : va_X b n xs s s.heap) (hbl : b < s.heap.size) {i : Nat} (hi : i + 6 ≤ n) (S : St M) (kk : ∀ M', St M' → V p l e room_1 s m #[Value.ref b] below meth c (lw_Z below #[Value.ref b] s) D cy q (fun x : Nat => s.heap.size ≤ x) s.heap 4 50 2483 M' 945 (LL b q i) []) : V p l e room_1 s m #[Value.ref b] below meth c (lw_Z below #[Value.ref b] s) D cy q (fun x : Nat => s.heap.size ≤ x) s.heap 4 50 2483 M 422 (LL b q i) [] := by
  have hbA : ¬ (fun x : Nat => s.heap.size ≤ x) b := Nat.not_le.mpr hbl
  obtain ⟨r, h, H, t, c0, f0, ho, ot⟩ := S
  obtain ⟨v, M1, M2, e1, e2, S2⟩ := Op.run (op_bits hF ho ot (xs (i + 1))) c0 f0
  refine V_aload_n X dL_law_422 1 rfl rfl ?_
  refine L_arg X hn hX hbl hbA 1 (by decide) (by omega) dL_law_423 dL_law_424 dL_law_425 dL_law_426 dL_law_427 ?_
  refine C_Vl (As := [.int (xs (i + 1))]) (k0 := 0) X rfl rfl (cwV 1 X.1.2.2.2.2 (gw_V wML_L_48 wIM_X6_bits wSE_X6_bits wIN_X6 (gw_c wCD_X6_bits)) rfl rfl rfl (by decide +kernel) ⟨Nat.le_of_ble_eq_true rfl, Nat.le_of_ble_eq_true rfl⟩) rfl rfl (Nat.le_of_ble_eq_true rfl) ⟨Nat.le_of_ble_eq_true rfl, Nat.le_of_ble_eq_true rfl⟩ (k_X6_bits l D cy q F (xs (i + 1)) _ v _ e1) dL_law_428 ?_
  refine V_aload_n X dL_law_431 2 rfl rfl ?_
  refine L_arg X hn hX hbl hbA 1 (by decide) (by omega) dL_law_432 dL_law_433 dL_law_434 dL_law_435 dL_law_436 ?_
  refine C_Vl (As := [.int (xs (i + 1))]) (k0 := 40) X rfl rfl (cwV 1 X.1.2.2.2.2 (gw_V wML_L_52 wIM_X7_bits wSE_X7_bits wIN_X7 (gw_c wCD_X7_bits)) rfl rfl rfl (by decide +kernel) ⟨Nat.le_of_ble_eq_true rfl, Nat.le_of_ble_eq_true rfl⟩) rfl rfl (Nat.le_of_ble_eq_true rfl) ⟨Nat.le_of_ble_eq_true rfl, Nat.le_of_ble_eq_true rfl⟩ (k_X7_bits l D cy q F (xs (i + 1)) _ v _ e2) dL_law_437 ?_
  refine V_lcmp X dL_law_440 ?_
  rw [cmp_self]
  refine L_zero X 945 dL_law_441 (by decide) ?_
  exact kk _ S2
set_option maxRecDepth 100000 in
set_option maxHeartbeats 4000000 in
theorem lc_9 (hF : 300 ≤ F) (hn : n ≤ 3072) (X : Fx p s m #[Value.ref b] c code 4 RL gw D cy q (fun x : Nat => s.heap.size ≤ x) s.heap) (hX : va_X b n xs s s.heap) (hbl : b < s.heap.size) {i : Nat} (hi : i + 6 ≤ n) (S : St M) (kk : ∀ M', St M' → V p l e room_1 s m #[Value.ref b] below meth c (lw_Z below #[Value.ref b] s) D cy q (fun x : Nat => s.heap.size ≤ x) s.heap 4 50 2483 M' 945 (LL b q i) []) : V p l e room_1 s m #[Value.ref b] below meth c (lw_Z below #[Value.ref b] s) D cy q (fun x : Nat => s.heap.size ≤ x) s.heap 4 50 2483 M 446 (LL b q i) [] := by
  have hbA : ¬ (fun x : Nat => s.heap.size ≤ x) b := Nat.not_le.mpr hbl
  obtain ⟨r, h, H, t, c0, f0, ho, ot⟩ := S
  obtain ⟨v, M1, M2, e1, e2, S2⟩ := Op.run (op_symbolAt ho ot (xs (i + 1))) c0 f0
  refine V_aload_n X dL_law_446 1 rfl rfl ?_
  refine L_arg X hn hX hbl hbA 1 (by decide) (by omega) dL_law_447 dL_law_448 dL_law_449 dL_law_450 dL_law_451 ?_
  obtain ⟨e1, ge1⟩ := rd_inv e1
  subst ge1
  refine C_Vi (As := [.int (xs (i + 1))]) (k0 := 0) X rfl rfl (cwV 1 X.1.2.2.2.2 (gw_V wML_L_53 wIM_X6_symbolAt wSE_X6_symbolAt wIN_X6 (gw_c wCD_X6_symbolAt)) rfl rfl rfl (by decide +kernel) ⟨Nat.le_of_ble_eq_true rfl, Nat.le_of_ble_eq_true rfl⟩) rfl rfl (Nat.le_of_ble_eq_true rfl) ⟨Nat.le_of_ble_eq_true rfl, Nat.le_of_ble_eq_true rfl⟩ (k_X6_symbolAt l D cy q (xs (i + 1)) _ v e1) dL_law_452 ?_
  refine V_aload_n X dL_law_455 2 rfl rfl ?_
  refine L_arg X hn hX hbl hbA 1 (by decide) (by omega) dL_law_456 dL_law_457 dL_law_458 dL_law_459 dL_law_460 ?_
  obtain ⟨e2, ge2⟩ := rd_inv e2
  subst ge2
  refine C_Vi (As := [.int (xs (i + 1))]) (k0 := 40) X rfl rfl (cwV 1 X.1.2.2.2.2 (gw_V wML_L_56 wIM_X7_symbolAt wSE_X7_symbolAt wIN_X7 (gw_c wCD_X7_symbolAt)) rfl rfl rfl (by decide +kernel) ⟨Nat.le_of_ble_eq_true rfl, Nat.le_of_ble_eq_true rfl⟩) rfl rfl (Nat.le_of_ble_eq_true rfl) ⟨Nat.le_of_ble_eq_true rfl, Nat.le_of_ble_eq_true rfl⟩ (k_X7_symbolAt l D cy q (xs (i + 1)) _ v e2) dL_law_461 ?_
  refine L_same X 945 dL_law_464 (by decide) ?_
  exact kk _ S2
set_option maxRecDepth 100000 in
set_option maxHeartbeats 4000000 in
theorem lc_10 (hF : 300 ≤ F) (hn : n ≤ 3072) (X : Fx p s m #[Value.ref b] c code 4 RL gw D cy q (fun x : Nat => s.heap.size ≤ x) s.heap) (hX : va_X b n xs s s.heap) (hbl : b < s.heap.size) {i : Nat} (hi : i + 6 ≤ n) (S : St M) (kk : ∀ M', St M' → V p l e room_1 s m #[Value.ref b] below meth c (lw_Z below #[Value.ref b] s) D cy q (fun x : Nat => s.heap.size ≤ x) s.heap 4 50 2483 M' 945 (LL b q i) []) : V p l e room_1 s m #[Value.ref b] below meth c (lw_Z below #[Value.ref b] s) D cy q (fun x : Nat => s.heap.size ≤ x) s.heap 4 50 2483 M 469 (LL b q i) [] := by
  have hbA : ¬ (fun x : Nat => s.heap.size ≤ x) b := Nat.not_le.mpr hbl
  obtain ⟨r, h, H, t, c0, f0, ho, ot⟩ := S
  obtain ⟨v, M1, M2, e1, e2, S2⟩ := Op.run (op_rank hF ho ot (xs (i + 1)) (xs (i + 2))) c0 f0
  refine V_aload_n X dL_law_469 1 rfl rfl ?_
  refine L_arg X hn hX hbl hbA 1 (by decide) (by omega) dL_law_470 dL_law_471 dL_law_472 dL_law_473 dL_law_474 ?_
  refine L_arg X hn hX hbl hbA 2 (by decide) (by omega) dL_law_475 dL_law_476 dL_law_477 dL_law_478 dL_law_479 ?_
  refine C_Vi (As := [.int (xs (i + 1)), .int (xs (i + 2))]) (k0 := 0) X rfl rfl (cwV 2 X.1.2.2.2.2 (gw_V wML_L_57 wIM_X6_rank wSE_X6_rank wIN_X6 (gw_c wCD_X6_rank)) rfl rfl rfl (by decide +kernel) ⟨Nat.le_of_ble_eq_true rfl, Nat.le_of_ble_eq_true rfl⟩) rfl rfl (Nat.le_of_ble_eq_true rfl) ⟨Nat.le_of_ble_eq_true rfl, Nat.le_of_ble_eq_true rfl⟩ (k_X6_rank l D cy q F (xs (i + 1)) (xs (i + 2)) _ v _ e1) dL_law_480 ?_
  refine V_aload_n X dL_law_483 2 rfl rfl ?_
  refine L_arg X hn hX hbl hbA 1 (by decide) (by omega) dL_law_484 dL_law_485 dL_law_486 dL_law_487 dL_law_488 ?_
  refine L_arg X hn hX hbl hbA 2 (by decide) (by omega) dL_law_489 dL_law_490 dL_law_491 dL_law_492 dL_law_493 ?_
  refine C_Vi (As := [.int (xs (i + 1)), .int (xs (i + 2))]) (k0 := 40) X rfl rfl (cwV 2 X.1.2.2.2.2 (gw_V wML_L_60 wIM_X7_rank wSE_X7_rank wIN_X7 (gw_c wCD_X7_rank)) rfl rfl rfl (by decide +kernel) ⟨Nat.le_of_ble_eq_true rfl, Nat.le_of_ble_eq_true rfl⟩) rfl rfl (Nat.le_of_ble_eq_true rfl) ⟨Nat.le_of_ble_eq_true rfl, Nat.le_of_ble_eq_true rfl⟩ (k_X7_rank l D cy q F (xs (i + 1)) (xs (i + 2)) _ v _ e2) dL_law_494 ?_
  refine L_same X 945 dL_law_497 (by decide) ?_
  exact kk _ S2
set_option maxRecDepth 100000 in
set_option maxHeartbeats 4000000 in
theorem lc_11 (hF : 300 ≤ F) (hn : n ≤ 3072) (X : Fx p s m #[Value.ref b] c code 4 RL gw D cy q (fun x : Nat => s.heap.size ≤ x) s.heap) (hX : va_X b n xs s s.heap) (hbl : b < s.heap.size) {i : Nat} (hi : i + 6 ≤ n) (S : St M) (kk : ∀ M', St M' → V p l e room_1 s m #[Value.ref b] below meth c (lw_Z below #[Value.ref b] s) D cy q (fun x : Nat => s.heap.size ≤ x) s.heap 4 50 2483 M' 945 (LL b q i) []) : V p l e room_1 s m #[Value.ref b] below meth c (lw_Z below #[Value.ref b] s) D cy q (fun x : Nat => s.heap.size ≤ x) s.heap 4 50 2483 M 502 (LL b q i) [] := by
  have hbA : ¬ (fun x : Nat => s.heap.size ≤ x) b := Nat.not_le.mpr hbl
  obtain ⟨r, h, H, t, c0, f0, ho, ot⟩ := S
  obtain ⟨v, M1, M2, e1, e2, S2⟩ := Op.run (op_select hF ho ot (xs (i + 1)) (xs (i + 2))) c0 f0
  refine V_aload_n X dL_law_502 1 rfl rfl ?_
  refine L_arg X hn hX hbl hbA 1 (by decide) (by omega) dL_law_503 dL_law_504 dL_law_505 dL_law_506 dL_law_507 ?_
  refine L_arg X hn hX hbl hbA 2 (by decide) (by omega) dL_law_508 dL_law_509 dL_law_510 dL_law_511 dL_law_512 ?_
  obtain ⟨e1, ge1⟩ := rd_inv e1
  subst ge1
  refine C_Vi (As := [.int (xs (i + 1)), .int (xs (i + 2))]) (k0 := 0) X rfl rfl (cwV 2 X.1.2.2.2.2 (gw_V wML_L_61 wIM_X6_select wSE_X6_select wIN_X6 (gw_c wCD_X6_select)) rfl rfl rfl (by decide +kernel) ⟨Nat.le_of_ble_eq_true rfl, Nat.le_of_ble_eq_true rfl⟩) rfl rfl (Nat.le_of_ble_eq_true rfl) ⟨Nat.le_of_ble_eq_true rfl, Nat.le_of_ble_eq_true rfl⟩ (k_X6_select l D cy q F (xs (i + 1)) (xs (i + 2)) _ v e1) dL_law_513 ?_
  refine V_aload_n X dL_law_516 2 rfl rfl ?_
  refine L_arg X hn hX hbl hbA 1 (by decide) (by omega) dL_law_517 dL_law_518 dL_law_519 dL_law_520 dL_law_521 ?_
  refine L_arg X hn hX hbl hbA 2 (by decide) (by omega) dL_law_522 dL_law_523 dL_law_524 dL_law_525 dL_law_526 ?_
  obtain ⟨e2, ge2⟩ := rd_inv e2
  subst ge2
  refine C_Vi (As := [.int (xs (i + 1)), .int (xs (i + 2))]) (k0 := 40) X rfl rfl (cwV 2 X.1.2.2.2.2 (gw_V wML_L_64 wIM_X7_select wSE_X7_select wIN_X7 (gw_c wCD_X7_select)) rfl rfl rfl (by decide +kernel) ⟨Nat.le_of_ble_eq_true rfl, Nat.le_of_ble_eq_true rfl⟩) rfl rfl (Nat.le_of_ble_eq_true rfl) ⟨Nat.le_of_ble_eq_true rfl, Nat.le_of_ble_eq_true rfl⟩ (k_X7_select l D cy q F (xs (i + 1)) (xs (i + 2)) _ v e2) dL_law_527 ?_
  refine L_same X 945 dL_law_530 (by decide) ?_
  exact kk _ S2
set_option maxRecDepth 100000 in
set_option maxHeartbeats 4000000 in
theorem lc_12 (hF : 300 ≤ F) (hn : n ≤ 3072) (X : Fx p s m #[Value.ref b] c code 4 RL gw D cy q (fun x : Nat => s.heap.size ≤ x) s.heap) (hX : va_X b n xs s s.heap) (hbl : b < s.heap.size) {i : Nat} (hi : i + 6 ≤ n) (S : St M) (kk : ∀ M', St M' → V p l e room_1 s m #[Value.ref b] below meth c (lw_Z below #[Value.ref b] s) D cy q (fun x : Nat => s.heap.size ≤ x) s.heap 4 50 2483 M' 945 (LL b q i) []) : V p l e room_1 s m #[Value.ref b] below meth c (lw_Z below #[Value.ref b] s) D cy q (fun x : Nat => s.heap.size ≤ x) s.heap 4 50 2483 M 535 (LL b q i) [] := by
  have hbA : ¬ (fun x : Nat => s.heap.size ≤ x) b := Nat.not_le.mpr hbl
  obtain ⟨r, h, H, t, c0, f0, ho, ot⟩ := S
  obtain ⟨v, M1, M2, e1, e2, S2⟩ := Op.run (op_smallest hF ho ot (xs (i + 1)) (xs (i + 2)) (xs (i + 3))) c0 f0
  refine V_aload_n X dL_law_535 1 rfl rfl ?_
  refine L_arg X hn hX hbl hbA 1 (by decide) (by omega) dL_law_536 dL_law_537 dL_law_538 dL_law_539 dL_law_540 ?_
  refine L_arg X hn hX hbl hbA 2 (by decide) (by omega) dL_law_541 dL_law_542 dL_law_543 dL_law_544 dL_law_545 ?_
  refine L_arg X hn hX hbl hbA 3 (by decide) (by omega) dL_law_546 dL_law_547 dL_law_548 dL_law_549 dL_law_550 ?_
  refine C_Vi (As := [.int (xs (i + 1)), .int (xs (i + 2)), .int (xs (i + 3))]) (k0 := 0) X rfl rfl (cwV 3 X.1.2.2.2.2 (gw_V wML_L_65 wIM_X6_smallest wSE_X6_smallest wIN_X6 (gw_c wCD_X6_smallest)) rfl rfl rfl (by decide +kernel) ⟨Nat.le_of_ble_eq_true rfl, Nat.le_of_ble_eq_true rfl⟩) rfl rfl (Nat.le_of_ble_eq_true rfl) ⟨Nat.le_of_ble_eq_true rfl, Nat.le_of_ble_eq_true rfl⟩ (k_X6_smallest l D cy q F (xs (i + 1)) (xs (i + 2)) (xs (i + 3)) _ v _ e1) dL_law_551 ?_
  refine V_aload_n X dL_law_554 2 rfl rfl ?_
  refine L_arg X hn hX hbl hbA 1 (by decide) (by omega) dL_law_555 dL_law_556 dL_law_557 dL_law_558 dL_law_559 ?_
  refine L_arg X hn hX hbl hbA 2 (by decide) (by omega) dL_law_560 dL_law_561 dL_law_562 dL_law_563 dL_law_564 ?_
  refine L_arg X hn hX hbl hbA 3 (by decide) (by omega) dL_law_565 dL_law_566 dL_law_567 dL_law_568 dL_law_569 ?_
  refine C_Vi (As := [.int (xs (i + 1)), .int (xs (i + 2)), .int (xs (i + 3))]) (k0 := 40) X rfl rfl (cwV 3 X.1.2.2.2.2 (gw_V wML_L_68 wIM_X7_smallest wSE_X7_smallest wIN_X7 (gw_c wCD_X7_smallest)) rfl rfl rfl (by decide +kernel) ⟨Nat.le_of_ble_eq_true rfl, Nat.le_of_ble_eq_true rfl⟩) rfl rfl (Nat.le_of_ble_eq_true rfl) ⟨Nat.le_of_ble_eq_true rfl, Nat.le_of_ble_eq_true rfl⟩ (k_X7_smallest l D cy q F (xs (i + 1)) (xs (i + 2)) (xs (i + 3)) _ v _ e2) dL_law_570 ?_
  refine L_same X 945 dL_law_573 (by decide) ?_
  exact kk _ S2
set_option maxRecDepth 100000 in
set_option maxHeartbeats 4000000 in
theorem lc_13 (hF : 300 ≤ F) (hn : n ≤ 3072) (X : Fx p s m #[Value.ref b] c code 4 RL gw D cy q (fun x : Nat => s.heap.size ≤ x) s.heap) (hX : va_X b n xs s s.heap) (hbl : b < s.heap.size) {i : Nat} (hi : i + 6 ≤ n) (S : St M) (kk : ∀ M', St M' → V p l e room_1 s m #[Value.ref b] below meth c (lw_Z below #[Value.ref b] s) D cy q (fun x : Nat => s.heap.size ≤ x) s.heap 4 50 2483 M' 945 (LL b q i) []) : V p l e room_1 s m #[Value.ref b] below meth c (lw_Z below #[Value.ref b] s) D cy q (fun x : Nat => s.heap.size ≤ x) s.heap 4 50 2483 M 578 (LL b q i) [] := by
  have hbA : ¬ (fun x : Nat => s.heap.size ≤ x) b := Nat.not_le.mpr hbl
  obtain ⟨r, h, H, t, c0, f0, ho, ot⟩ := S
  obtain ⟨v, M1, M2, e1, e2, S2⟩ := Op.run (op_below hF ho ot (xs (i + 1)) (xs (i + 2)) (xs (i + 3))) c0 f0
  refine V_aload_n X dL_law_578 1 rfl rfl ?_
  refine L_arg X hn hX hbl hbA 1 (by decide) (by omega) dL_law_579 dL_law_580 dL_law_581 dL_law_582 dL_law_583 ?_
  refine L_arg X hn hX hbl hbA 2 (by decide) (by omega) dL_law_584 dL_law_585 dL_law_586 dL_law_587 dL_law_588 ?_
  refine L_arg X hn hX hbl hbA 3 (by decide) (by omega) dL_law_589 dL_law_590 dL_law_591 dL_law_592 dL_law_593 ?_
  refine C_Vi (As := [.int (xs (i + 1)), .int (xs (i + 2)), .int (xs (i + 3))]) (k0 := 0) X rfl rfl (cwV 3 X.1.2.2.2.2 (gw_V wML_L_69 wIM_X6_below wSE_X6_below wIN_X6 (gw_c wCD_X6_below)) rfl rfl rfl (by decide +kernel) ⟨Nat.le_of_ble_eq_true rfl, Nat.le_of_ble_eq_true rfl⟩) rfl rfl (Nat.le_of_ble_eq_true rfl) ⟨Nat.le_of_ble_eq_true rfl, Nat.le_of_ble_eq_true rfl⟩ (k_X6_below l D cy q F (xs (i + 1)) (xs (i + 2)) (xs (i + 3)) _ v _ e1) dL_law_594 ?_
  refine V_aload_n X dL_law_597 2 rfl rfl ?_
  refine L_arg X hn hX hbl hbA 1 (by decide) (by omega) dL_law_598 dL_law_599 dL_law_600 dL_law_601 dL_law_602 ?_
  refine L_arg X hn hX hbl hbA 2 (by decide) (by omega) dL_law_603 dL_law_604 dL_law_605 dL_law_606 dL_law_607 ?_
  refine L_arg X hn hX hbl hbA 3 (by decide) (by omega) dL_law_608 dL_law_609 dL_law_610 dL_law_611 dL_law_612 ?_
  obtain ⟨e2, ge2⟩ := rd_inv e2
  subst ge2
  refine C_Vi (As := [.int (xs (i + 1)), .int (xs (i + 2)), .int (xs (i + 3))]) (k0 := 40) X rfl rfl (cwV 3 X.1.2.2.2.2 (gw_V wML_L_72 wIM_X7_below wSE_X7_below wIN_X7 (gw_c wCD_X7_below)) rfl rfl rfl (by decide +kernel) ⟨Nat.le_of_ble_eq_true rfl, Nat.le_of_ble_eq_true rfl⟩) rfl rfl (Nat.le_of_ble_eq_true rfl) ⟨Nat.le_of_ble_eq_true rfl, Nat.le_of_ble_eq_true rfl⟩ (k_X7_below l D cy q F (xs (i + 1)) (xs (i + 2)) (xs (i + 3)) _ v e2) dL_law_613 ?_
  refine L_same X 945 dL_law_616 (by decide) ?_
  exact kk _ S2
set_option maxRecDepth 100000 in
set_option maxHeartbeats 4000000 in
theorem lc_14 (hF : 300 ≤ F) (hn : n ≤ 3072) (X : Fx p s m #[Value.ref b] c code 4 RL gw D cy q (fun x : Nat => s.heap.size ≤ x) s.heap) (hX : va_X b n xs s s.heap) (hbl : b < s.heap.size) {i : Nat} (hi : i + 6 ≤ n) (S : St M) (kk : ∀ M', St M' → V p l e room_1 s m #[Value.ref b] below meth c (lw_Z below #[Value.ref b] s) D cy q (fun x : Nat => s.heap.size ≤ x) s.heap 4 50 2483 M' 945 (LL b q i) []) : V p l e room_1 s m #[Value.ref b] below meth c (lw_Z below #[Value.ref b] s) D cy q (fun x : Nat => s.heap.size ≤ x) s.heap 4 50 2483 M 621 (LL b q i) [] := by
  have hbA : ¬ (fun x : Nat => s.heap.size ≤ x) b := Nat.not_le.mpr hbl
  obtain ⟨r, h, H, t, c0, f0, ho, ot⟩ := S
  obtain ⟨v, M1, M2, e1, e2, S2⟩ := Op.run (op_notBelow hF ho ot (xs (i + 1)) (xs (i + 2)) (xs (i + 3))) c0 f0
  refine V_aload_n X dL_law_621 1 rfl rfl ?_
  refine L_arg X hn hX hbl hbA 1 (by decide) (by omega) dL_law_622 dL_law_623 dL_law_624 dL_law_625 dL_law_626 ?_
  refine L_arg X hn hX hbl hbA 2 (by decide) (by omega) dL_law_627 dL_law_628 dL_law_629 dL_law_630 dL_law_631 ?_
  refine L_arg X hn hX hbl hbA 3 (by decide) (by omega) dL_law_632 dL_law_633 dL_law_634 dL_law_635 dL_law_636 ?_
  refine C_Vi (As := [.int (xs (i + 1)), .int (xs (i + 2)), .int (xs (i + 3))]) (k0 := 0) X rfl rfl (cwV 3 X.1.2.2.2.2 (gw_V wML_L_73 wIM_X6_notBelow wSE_X6_notBelow wIN_X6 (gw_c wCD_X6_notBelow)) rfl rfl rfl (by decide +kernel) ⟨Nat.le_of_ble_eq_true rfl, Nat.le_of_ble_eq_true rfl⟩) rfl rfl (Nat.le_of_ble_eq_true rfl) ⟨Nat.le_of_ble_eq_true rfl, Nat.le_of_ble_eq_true rfl⟩ (k_X6_notBelow l D cy q F (xs (i + 1)) (xs (i + 2)) (xs (i + 3)) _ v _ e1) dL_law_637 ?_
  refine V_aload_n X dL_law_640 2 rfl rfl ?_
  refine L_arg X hn hX hbl hbA 1 (by decide) (by omega) dL_law_641 dL_law_642 dL_law_643 dL_law_644 dL_law_645 ?_
  refine L_arg X hn hX hbl hbA 2 (by decide) (by omega) dL_law_646 dL_law_647 dL_law_648 dL_law_649 dL_law_650 ?_
  refine L_arg X hn hX hbl hbA 3 (by decide) (by omega) dL_law_651 dL_law_652 dL_law_653 dL_law_654 dL_law_655 ?_
  obtain ⟨e2, ge2⟩ := rd_inv e2
  subst ge2
  refine C_Vi (As := [.int (xs (i + 1)), .int (xs (i + 2)), .int (xs (i + 3))]) (k0 := 40) X rfl rfl (cwV 3 X.1.2.2.2.2 (gw_V wML_L_76 wIM_X7_notBelow wSE_X7_notBelow wIN_X7 (gw_c wCD_X7_notBelow)) rfl rfl rfl (by decide +kernel) ⟨Nat.le_of_ble_eq_true rfl, Nat.le_of_ble_eq_true rfl⟩) rfl rfl (Nat.le_of_ble_eq_true rfl) ⟨Nat.le_of_ble_eq_true rfl, Nat.le_of_ble_eq_true rfl⟩ (k_X7_notBelow l D cy q F (xs (i + 1)) (xs (i + 2)) (xs (i + 3)) _ v e2) dL_law_656 ?_
  refine L_same X 945 dL_law_659 (by decide) ?_
  exact kk _ S2
set_option maxRecDepth 100000 in
set_option maxHeartbeats 4000000 in
theorem lc_15 (hF : 300 ≤ F) (hn : n ≤ 3072) (X : Fx p s m #[Value.ref b] c code 4 RL gw D cy q (fun x : Nat => s.heap.size ≤ x) s.heap) (hX : va_X b n xs s s.heap) (hbl : b < s.heap.size) {i : Nat} (hi : i + 6 ≤ n) (S : St M) (kk : ∀ M', St M' → V p l e room_1 s m #[Value.ref b] below meth c (lw_Z below #[Value.ref b] s) D cy q (fun x : Nat => s.heap.size ≤ x) s.heap 4 50 2483 M' 945 (LL b q i) []) : V p l e room_1 s m #[Value.ref b] below meth c (lw_Z below #[Value.ref b] s) D cy q (fun x : Nat => s.heap.size ≤ x) s.heap 4 50 2483 M 664 (LL b q i) [] := by
  have hbA : ¬ (fun x : Nat => s.heap.size ≤ x) b := Nat.not_le.mpr hbl
  obtain ⟨r, h, H, t, c0, f0, ho, ot⟩ := S
  obtain ⟨v, M1, M2, e1, e2, S2⟩ := Op.run (op_spanOf hF ho ot (xs (i + 1)) (xs (i + 2)) (xs (i + 3))) c0 f0
  refine V_aload_n X dL_law_664 1 rfl rfl ?_
  refine L_arg X hn hX hbl hbA 1 (by decide) (by omega) dL_law_665 dL_law_666 dL_law_667 dL_law_668 dL_law_669 ?_
  refine L_arg X hn hX hbl hbA 2 (by decide) (by omega) dL_law_670 dL_law_671 dL_law_672 dL_law_673 dL_law_674 ?_
  refine L_arg X hn hX hbl hbA 3 (by decide) (by omega) dL_law_675 dL_law_676 dL_law_677 dL_law_678 dL_law_679 ?_
  refine C_Vi (As := [.int (xs (i + 1)), .int (xs (i + 2)), .int (xs (i + 3))]) (k0 := 0) X rfl rfl (cwV 3 X.1.2.2.2.2 (gw_V wML_L_77 wIM_X6_spanOf wSE_X6_spanOf wIN_X6 (gw_c wCD_X6_spanOf)) rfl rfl rfl (by decide +kernel) ⟨Nat.le_of_ble_eq_true rfl, Nat.le_of_ble_eq_true rfl⟩) rfl rfl (Nat.le_of_ble_eq_true rfl) ⟨Nat.le_of_ble_eq_true rfl, Nat.le_of_ble_eq_true rfl⟩ (k_X6_spanOf l D cy q F (xs (i + 1)) (xs (i + 2)) (xs (i + 3)) _ v _ e1) dL_law_680 ?_
  refine V_aload_n X dL_law_683 2 rfl rfl ?_
  refine L_arg X hn hX hbl hbA 1 (by decide) (by omega) dL_law_684 dL_law_685 dL_law_686 dL_law_687 dL_law_688 ?_
  refine L_arg X hn hX hbl hbA 2 (by decide) (by omega) dL_law_689 dL_law_690 dL_law_691 dL_law_692 dL_law_693 ?_
  refine L_arg X hn hX hbl hbA 3 (by decide) (by omega) dL_law_694 dL_law_695 dL_law_696 dL_law_697 dL_law_698 ?_
  refine C_Vi (As := [.int (xs (i + 1)), .int (xs (i + 2)), .int (xs (i + 3))]) (k0 := 40) X rfl rfl (cwV 3 X.1.2.2.2.2 (gw_V wML_L_80 wIM_X7_spanOf wSE_X7_spanOf wIN_X7 (gw_c wCD_X7_spanOf)) rfl rfl rfl (by decide +kernel) ⟨Nat.le_of_ble_eq_true rfl, Nat.le_of_ble_eq_true rfl⟩) rfl rfl (Nat.le_of_ble_eq_true rfl) ⟨Nat.le_of_ble_eq_true rfl, Nat.le_of_ble_eq_true rfl⟩ (k_X7_spanOf l D cy q F (xs (i + 1)) (xs (i + 2)) (xs (i + 3)) _ v _ e2) dL_law_699 ?_
  refine L_same X 945 dL_law_702 (by decide) ?_
  exact kk _ S2
set_option maxRecDepth 100000 in
set_option maxHeartbeats 4000000 in
theorem lc_16 (hF : 300 ≤ F) (hn : n ≤ 3072) (X : Fx p s m #[Value.ref b] c code 4 RL gw D cy q (fun x : Nat => s.heap.size ≤ x) s.heap) (hX : va_X b n xs s s.heap) (hbl : b < s.heap.size) {i : Nat} (hi : i + 6 ≤ n) (S : St M) (kk : ∀ M', St M' → V p l e room_1 s m #[Value.ref b] below meth c (lw_Z below #[Value.ref b] s) D cy q (fun x : Nat => s.heap.size ≤ x) s.heap 4 50 2483 M' 945 (LL b q i) []) : V p l e room_1 s m #[Value.ref b] below meth c (lw_Z below #[Value.ref b] s) D cy q (fun x : Nat => s.heap.size ≤ x) s.heap 4 50 2483 M 707 (LL b q i) [] := by
  have hbA : ¬ (fun x : Nat => s.heap.size ≤ x) b := Nat.not_le.mpr hbl
  obtain ⟨r, h, H, t, c0, f0, ho, ot⟩ := S
  obtain ⟨v, M1, M2, e1, e2, S2⟩ := Op.run (op_product hF ho ot (xs (i + 1)) (xs (i + 2))) c0 f0
  refine V_aload_n X dL_law_707 1 rfl rfl ?_
  refine L_arg X hn hX hbl hbA 1 (by decide) (by omega) dL_law_708 dL_law_709 dL_law_710 dL_law_711 dL_law_712 ?_
  refine L_arg X hn hX hbl hbA 2 (by decide) (by omega) dL_law_713 dL_law_714 dL_law_715 dL_law_716 dL_law_717 ?_
  obtain ⟨e1, ge1⟩ := rd_inv e1
  subst ge1
  refine C_Vl (As := [.int (xs (i + 1)), .int (xs (i + 2))]) (k0 := 0) X rfl rfl (cwV 2 X.1.2.2.2.2 (gw_V wML_L_81 wIM_X6_product wSE_X6_product wIN_X6 (gw_c wCD_X6_product)) rfl rfl rfl (by decide +kernel) ⟨Nat.le_of_ble_eq_true rfl, Nat.le_of_ble_eq_true rfl⟩) rfl rfl (Nat.le_of_ble_eq_true rfl) ⟨Nat.le_of_ble_eq_true rfl, Nat.le_of_ble_eq_true rfl⟩ (k_X6_product l D cy q F (xs (i + 1)) (xs (i + 2)) _ v e1) dL_law_718 ?_
  refine V_aload_n X dL_law_721 2 rfl rfl ?_
  refine L_arg X hn hX hbl hbA 1 (by decide) (by omega) dL_law_722 dL_law_723 dL_law_724 dL_law_725 dL_law_726 ?_
  refine L_arg X hn hX hbl hbA 2 (by decide) (by omega) dL_law_727 dL_law_728 dL_law_729 dL_law_730 dL_law_731 ?_
  obtain ⟨e2, ge2⟩ := rd_inv e2
  subst ge2
  refine C_Vl (As := [.int (xs (i + 1)), .int (xs (i + 2))]) (k0 := 40) X rfl rfl (cwV 2 X.1.2.2.2.2 (gw_V wML_L_85 wIM_X7_product wSE_X7_product wIN_X7 (gw_c wCD_X7_product)) rfl rfl rfl (by decide +kernel) ⟨Nat.le_of_ble_eq_true rfl, Nat.le_of_ble_eq_true rfl⟩) rfl rfl (Nat.le_of_ble_eq_true rfl) ⟨Nat.le_of_ble_eq_true rfl, Nat.le_of_ble_eq_true rfl⟩ (k_X7_product l D cy q F (xs (i + 1)) (xs (i + 2)) _ v e2) dL_law_732 ?_
  refine V_lcmp X dL_law_735 ?_
  rw [cmp_self]
  refine L_zero X 945 dL_law_736 (by decide) ?_
  exact kk _ S2
set_option maxRecDepth 100000 in
set_option maxHeartbeats 4000000 in
theorem lc_17 (hF : 300 ≤ F) (hn : n ≤ 3072) (X : Fx p s m #[Value.ref b] c code 4 RL gw D cy q (fun x : Nat => s.heap.size ≤ x) s.heap) (hX : va_X b n xs s s.heap) (hbl : b < s.heap.size) {i : Nat} (hi : i + 6 ≤ n) (S : St M) (kk : ∀ M', St M' → V p l e room_1 s m #[Value.ref b] below meth c (lw_Z below #[Value.ref b] s) D cy q (fun x : Nat => s.heap.size ≤ x) s.heap 4 50 2483 M' 945 (LL b q i) []) : V p l e room_1 s m #[Value.ref b] below meth c (lw_Z below #[Value.ref b] s) D cy q (fun x : Nat => s.heap.size ≤ x) s.heap 4 50 2483 M 741 (LL b q i) [] := by
  have hbA : ¬ (fun x : Nat => s.heap.size ≤ x) b := Nat.not_le.mpr hbl
  obtain ⟨r, h, H, t, c0, f0, ho, ot⟩ := S
  obtain ⟨v, M1, M2, e1, e2, S2⟩ := Op.run (op_common hF ho ot (xs (i + 1)) (xs (i + 2)) (xs (i + 3)) (xs (i + 4)) (xs (i + 5))) c0 f0
  refine V_aload_n X dL_law_741 1 rfl rfl ?_
  refine L_arg X hn hX hbl hbA 1 (by decide) (by omega) dL_law_742 dL_law_743 dL_law_744 dL_law_745 dL_law_746 ?_
  refine L_arg X hn hX hbl hbA 2 (by decide) (by omega) dL_law_747 dL_law_748 dL_law_749 dL_law_750 dL_law_751 ?_
  refine L_arg X hn hX hbl hbA 3 (by decide) (by omega) dL_law_752 dL_law_753 dL_law_754 dL_law_755 dL_law_756 ?_
  refine L_arg X hn hX hbl hbA 4 (by decide) (by omega) dL_law_757 dL_law_758 dL_law_759 dL_law_760 dL_law_761 ?_
  refine L_arg X hn hX hbl hbA 5 (by decide) (by omega) dL_law_762 dL_law_763 dL_law_764 dL_law_765 dL_law_766 ?_
  refine C_Vi (As := [.int (xs (i + 1)), .int (xs (i + 2)), .int (xs (i + 3)), .int (xs (i + 4)), .int (xs (i + 5))]) (k0 := 0) X rfl rfl (cwV 5 X.1.2.2.2.2 (gw_V wML_L_86 wIM_X6_common wSE_X6_common wIN_X6 (gw_c wCD_X6_common)) rfl rfl rfl (by decide +kernel) ⟨Nat.le_of_ble_eq_true rfl, Nat.le_of_ble_eq_true rfl⟩) rfl rfl (Nat.le_of_ble_eq_true rfl) ⟨Nat.le_of_ble_eq_true rfl, Nat.le_of_ble_eq_true rfl⟩ (k_X6_common l D cy q F (xs (i + 1)) (xs (i + 2)) (xs (i + 3)) (xs (i + 4)) (xs (i + 5)) _ v _ e1) dL_law_767 ?_
  refine V_aload_n X dL_law_770 2 rfl rfl ?_
  refine L_arg X hn hX hbl hbA 1 (by decide) (by omega) dL_law_771 dL_law_772 dL_law_773 dL_law_774 dL_law_775 ?_
  refine L_arg X hn hX hbl hbA 2 (by decide) (by omega) dL_law_776 dL_law_777 dL_law_778 dL_law_779 dL_law_780 ?_
  refine L_arg X hn hX hbl hbA 3 (by decide) (by omega) dL_law_781 dL_law_782 dL_law_783 dL_law_784 dL_law_785 ?_
  refine L_arg X hn hX hbl hbA 4 (by decide) (by omega) dL_law_786 dL_law_787 dL_law_788 dL_law_789 dL_law_790 ?_
  refine L_arg X hn hX hbl hbA 5 (by decide) (by omega) dL_law_791 dL_law_792 dL_law_793 dL_law_794 dL_law_795 ?_
  refine C_Vi (As := [.int (xs (i + 1)), .int (xs (i + 2)), .int (xs (i + 3)), .int (xs (i + 4)), .int (xs (i + 5))]) (k0 := 40) X rfl rfl (cwV 5 X.1.2.2.2.2 (gw_V wML_L_90 wIM_X7_common wSE_X7_common wIN_X7 (gw_c wCD_X7_common)) rfl rfl rfl (by decide +kernel) ⟨Nat.le_of_ble_eq_true rfl, Nat.le_of_ble_eq_true rfl⟩) rfl rfl (Nat.le_of_ble_eq_true rfl) ⟨Nat.le_of_ble_eq_true rfl, Nat.le_of_ble_eq_true rfl⟩ (k_X7_common l D cy q F (xs (i + 1)) (xs (i + 2)) (xs (i + 3)) (xs (i + 4)) (xs (i + 5)) _ v _ e2) dL_law_796 ?_
  refine L_same X 945 dL_law_799 (by decide) ?_
  exact kk _ S2
set_option maxRecDepth 100000 in
set_option maxHeartbeats 4000000 in
theorem lc_18 (hF : 300 ≤ F) (hn : n ≤ 3072) (X : Fx p s m #[Value.ref b] c code 4 RL gw D cy q (fun x : Nat => s.heap.size ≤ x) s.heap) (hX : va_X b n xs s s.heap) (hbl : b < s.heap.size) {i : Nat} (hi : i + 6 ≤ n) (S : St M) (kk : ∀ M', St M' → V p l e room_1 s m #[Value.ref b] below meth c (lw_Z below #[Value.ref b] s) D cy q (fun x : Nat => s.heap.size ≤ x) s.heap 4 50 2483 M' 945 (LL b q i) []) : V p l e room_1 s m #[Value.ref b] below meth c (lw_Z below #[Value.ref b] s) D cy q (fun x : Nat => s.heap.size ≤ x) s.heap 4 50 2483 M 804 (LL b q i) [] := by
  have hbA : ¬ (fun x : Nat => s.heap.size ≤ x) b := Nat.not_le.mpr hbl
  obtain ⟨r, h, H, t, c0, f0, ho, ot⟩ := S
  obtain ⟨v, M1, M2, e1, e2, S2⟩ := Op.run (op_heaviest hF ho ot (xs (i + 1)) (xs (i + 2))) c0 f0
  refine V_aload_n X dL_law_804 1 rfl rfl ?_
  refine L_arg X hn hX hbl hbA 1 (by decide) (by omega) dL_law_805 dL_law_806 dL_law_807 dL_law_808 dL_law_809 ?_
  refine L_arg X hn hX hbl hbA 2 (by decide) (by omega) dL_law_810 dL_law_811 dL_law_812 dL_law_813 dL_law_814 ?_
  obtain ⟨e1, ge1⟩ := rd_inv e1
  subst ge1
  refine C_Vi (As := [.int (xs (i + 1)), .int (xs (i + 2))]) (k0 := 0) X rfl rfl (cwV 2 X.1.2.2.2.2 (gw_V wML_L_91 wIM_X6_heaviest wSE_X6_heaviest wIN_X6 (gw_c wCD_X6_heaviest)) rfl rfl rfl (by decide +kernel) ⟨Nat.le_of_ble_eq_true rfl, Nat.le_of_ble_eq_true rfl⟩) rfl rfl (Nat.le_of_ble_eq_true rfl) ⟨Nat.le_of_ble_eq_true rfl, Nat.le_of_ble_eq_true rfl⟩ (k_X6_heaviest l D cy q F (xs (i + 1)) (xs (i + 2)) _ v e1) dL_law_815 ?_
  refine V_aload_n X dL_law_818 2 rfl rfl ?_
  refine L_arg X hn hX hbl hbA 1 (by decide) (by omega) dL_law_819 dL_law_820 dL_law_821 dL_law_822 dL_law_823 ?_
  refine L_arg X hn hX hbl hbA 2 (by decide) (by omega) dL_law_824 dL_law_825 dL_law_826 dL_law_827 dL_law_828 ?_
  obtain ⟨e2, ge2⟩ := rd_inv e2
  subst ge2
  refine C_Vi (As := [.int (xs (i + 1)), .int (xs (i + 2))]) (k0 := 40) X rfl rfl (cwV 2 X.1.2.2.2.2 (gw_V wML_L_94 wIM_X7_heaviest wSE_X7_heaviest wIN_X7 (gw_c wCD_X7_heaviest)) rfl rfl rfl (by decide +kernel) ⟨Nat.le_of_ble_eq_true rfl, Nat.le_of_ble_eq_true rfl⟩) rfl rfl (Nat.le_of_ble_eq_true rfl) ⟨Nat.le_of_ble_eq_true rfl, Nat.le_of_ble_eq_true rfl⟩ (k_X7_heaviest l D cy q F (xs (i + 1)) (xs (i + 2)) _ v e2) dL_law_829 ?_
  refine L_same X 945 dL_law_832 (by decide) ?_
  exact kk _ S2
set_option maxRecDepth 100000 in
set_option maxHeartbeats 4000000 in
theorem lc_19 (hF : 300 ≤ F) (hn : n ≤ 3072) (X : Fx p s m #[Value.ref b] c code 4 RL gw D cy q (fun x : Nat => s.heap.size ≤ x) s.heap) (hX : va_X b n xs s s.heap) (hbl : b < s.heap.size) {i : Nat} (hi : i + 6 ≤ n) (S : St M) (kk : ∀ M', St M' → V p l e room_1 s m #[Value.ref b] below meth c (lw_Z below #[Value.ref b] s) D cy q (fun x : Nat => s.heap.size ≤ x) s.heap 4 50 2483 M' 945 (LL b q i) []) : V p l e room_1 s m #[Value.ref b] below meth c (lw_Z below #[Value.ref b] s) D cy q (fun x : Nat => s.heap.size ≤ x) s.heap 4 50 2483 M 837 (LL b q i) [] := by
  have hbA : ¬ (fun x : Nat => s.heap.size ≤ x) b := Nat.not_le.mpr hbl
  obtain ⟨r, h, H, t, c0, f0, ho, ot⟩ := S
  obtain ⟨v, M1, M2, e1, e2, S2⟩ := Op.run (op_count hF ho ot (xs (i + 1))) c0 f0
  refine V_aload_n X dL_law_837 1 rfl rfl ?_
  refine L_arg X hn hX hbl hbA 1 (by decide) (by omega) dL_law_838 dL_law_839 dL_law_840 dL_law_841 dL_law_842 ?_
  refine C_Vi (As := [.int (xs (i + 1))]) (k0 := 0) X rfl rfl (cwV 1 X.1.2.2.2.2 (gw_V wML_L_95 wIM_X6_count wSE_X6_count wIN_X6 (gw_c wCD_X6_count)) rfl rfl rfl (by decide +kernel) ⟨Nat.le_of_ble_eq_true rfl, Nat.le_of_ble_eq_true rfl⟩) rfl rfl (Nat.le_of_ble_eq_true rfl) ⟨Nat.le_of_ble_eq_true rfl, Nat.le_of_ble_eq_true rfl⟩ (k_X6_count l D cy q F (xs (i + 1)) _ v _ e1) dL_law_843 ?_
  refine V_aload_n X dL_law_846 2 rfl rfl ?_
  refine L_arg X hn hX hbl hbA 1 (by decide) (by omega) dL_law_847 dL_law_848 dL_law_849 dL_law_850 dL_law_851 ?_
  refine C_Vi (As := [.int (xs (i + 1))]) (k0 := 40) X rfl rfl (cwV 1 X.1.2.2.2.2 (gw_V wML_L_98 wIM_X7_count wSE_X7_count wIN_X7 (gw_c wCD_X7_count)) rfl rfl rfl (by decide +kernel) ⟨Nat.le_of_ble_eq_true rfl, Nat.le_of_ble_eq_true rfl⟩) rfl rfl (Nat.le_of_ble_eq_true rfl) ⟨Nat.le_of_ble_eq_true rfl, Nat.le_of_ble_eq_true rfl⟩ (k_X7_count l D cy q F (xs (i + 1)) _ v _ e2) dL_law_852 ?_
  refine L_same X 945 dL_law_855 (by decide) ?_
  exact kk _ S2
set_option maxRecDepth 100000 in
set_option maxHeartbeats 4000000 in
theorem lc_20 (hF : 300 ≤ F) (hn : n ≤ 3072) (X : Fx p s m #[Value.ref b] c code 4 RL gw D cy q (fun x : Nat => s.heap.size ≤ x) s.heap) (hX : va_X b n xs s s.heap) (hbl : b < s.heap.size) {i : Nat} (hi : i + 6 ≤ n) (S : St M) (kk : ∀ M', St M' → V p l e room_1 s m #[Value.ref b] below meth c (lw_Z below #[Value.ref b] s) D cy q (fun x : Nat => s.heap.size ≤ x) s.heap 4 50 2483 M' 945 (LL b q i) []) : V p l e room_1 s m #[Value.ref b] below meth c (lw_Z below #[Value.ref b] s) D cy q (fun x : Nat => s.heap.size ≤ x) s.heap 4 50 2483 M 860 (LL b q i) [] := by
  have hbA : ¬ (fun x : Nat => s.heap.size ≤ x) b := Nat.not_le.mpr hbl
  obtain ⟨r, h, H, t, c0, f0, ho, ot⟩ := S
  obtain ⟨v, M1, M2, e1, e2, S2⟩ := Op.run (op_undo hF ho ot ⟨c0.2.1.2.1, fun j hj => (c0.2.1.2.2 j hj).2⟩) c0 f0
  refine V_aload_n X dL_law_860 1 rfl rfl ?_
  refine C_Vi (As := []) (k0 := 0) X rfl rfl (cwV 0 X.1.2.2.2.2 (gw_V wML_L_99 wIM_X6_undo wSE_X6_undo wIN_X6 (gw_c wCD_X6_undo)) rfl rfl rfl (by decide +kernel) ⟨Nat.le_of_ble_eq_true rfl, Nat.le_of_ble_eq_true rfl⟩) rfl rfl (Nat.le_of_ble_eq_true rfl) ⟨Nat.le_of_ble_eq_true rfl, Nat.le_of_ble_eq_true rfl⟩ (k_X6_undo l D cy q F  _ v _ e1) dL_law_861 ?_
  refine V_aload_n X dL_law_864 2 rfl rfl ?_
  refine C_Vi (As := []) (k0 := 40) X rfl rfl (cwV 0 X.1.2.2.2.2 (gw_V wML_L_103 wIM_X7_undo wSE_X7_undo wIN_X7 (gw_c wCD_X7_undo)) rfl rfl rfl (by decide +kernel) ⟨Nat.le_of_ble_eq_true rfl, Nat.le_of_ble_eq_true rfl⟩) rfl rfl (Nat.le_of_ble_eq_true rfl) ⟨Nat.le_of_ble_eq_true rfl, Nat.le_of_ble_eq_true rfl⟩ (k_X7_undo l D cy q F  _ v _ e2) dL_law_865 ?_
  refine L_same X 945 dL_law_868 (by decide) ?_
  exact kk _ S2
set_option maxRecDepth 100000 in
set_option maxHeartbeats 4000000 in
theorem lc_21 (hF : 300 ≤ F) (hn : n ≤ 3072) (X : Fx p s m #[Value.ref b] c code 4 RL gw D cy q (fun x : Nat => s.heap.size ≤ x) s.heap) (hX : va_X b n xs s s.heap) (hbl : b < s.heap.size) {i : Nat} (hi : i + 6 ≤ n) (S : St M) (kk : ∀ M', St M' → V p l e room_1 s m #[Value.ref b] below meth c (lw_Z below #[Value.ref b] s) D cy q (fun x : Nat => s.heap.size ≤ x) s.heap 4 50 2483 M' 945 (LL b q i) []) : V p l e room_1 s m #[Value.ref b] below meth c (lw_Z below #[Value.ref b] s) D cy q (fun x : Nat => s.heap.size ≤ x) s.heap 4 50 2483 M 873 (LL b q i) [] := by
  have hbA : ¬ (fun x : Nat => s.heap.size ≤ x) b := Nat.not_le.mpr hbl
  obtain ⟨r, h, H, t, c0, f0, ho, ot⟩ := S
  obtain ⟨v, M1, M2, e1, e2, S2⟩ := Op.run (op_type ho ot (xs (i + 1))) c0 f0
  refine V_aload_n X dL_law_873 1 rfl rfl ?_
  refine L_arg X hn hX hbl hbA 1 (by decide) (by omega) dL_law_874 dL_law_875 dL_law_876 dL_law_877 dL_law_878 ?_
  refine C_Vi (As := [.int (xs (i + 1))]) (k0 := 0) X rfl rfl (cwV 1 X.1.2.2.2.2 (gw_V wML_L_104 wIM_X6_type wSE_X6_type wIN_X6 (gw_c wCD_X6_type)) rfl rfl rfl (by decide +kernel) ⟨Nat.le_of_ble_eq_true rfl, Nat.le_of_ble_eq_true rfl⟩) rfl rfl (Nat.le_of_ble_eq_true rfl) ⟨Nat.le_of_ble_eq_true rfl, Nat.le_of_ble_eq_true rfl⟩ (k_X6_type l D cy q (xs (i + 1)) _ v _ e1) dL_law_879 ?_
  refine V_aload_n X dL_law_882 2 rfl rfl ?_
  refine L_arg X hn hX hbl hbA 1 (by decide) (by omega) dL_law_883 dL_law_884 dL_law_885 dL_law_886 dL_law_887 ?_
  refine C_Vi (As := [.int (xs (i + 1))]) (k0 := 40) X rfl rfl (cwV 1 X.1.2.2.2.2 (gw_V wML_L_107 wIM_X7_type wSE_X7_type wIN_X7 (gw_c wCD_X7_type)) rfl rfl rfl (by decide +kernel) ⟨Nat.le_of_ble_eq_true rfl, Nat.le_of_ble_eq_true rfl⟩) rfl rfl (Nat.le_of_ble_eq_true rfl) ⟨Nat.le_of_ble_eq_true rfl, Nat.le_of_ble_eq_true rfl⟩ (k_X7_type l D cy q (xs (i + 1)) _ v _ e2) dL_law_888 ?_
  refine L_same X 945 dL_law_891 (by decide) ?_
  exact kk _ S2
set_option maxRecDepth 100000 in
set_option maxHeartbeats 4000000 in
theorem lc_22 (hF : 300 ≤ F) (hn : n ≤ 3072) (X : Fx p s m #[Value.ref b] c code 4 RL gw D cy q (fun x : Nat => s.heap.size ≤ x) s.heap) (hX : va_X b n xs s s.heap) (hbl : b < s.heap.size) {i : Nat} (hi : i + 6 ≤ n) (S : St M) (kk : ∀ M', St M' → V p l e room_1 s m #[Value.ref b] below meth c (lw_Z below #[Value.ref b] s) D cy q (fun x : Nat => s.heap.size ≤ x) s.heap 4 50 2483 M' 945 (LL b q i) []) : V p l e room_1 s m #[Value.ref b] below meth c (lw_Z below #[Value.ref b] s) D cy q (fun x : Nat => s.heap.size ≤ x) s.heap 4 50 2483 M 896 (LL b q i) [] := by
  have hbA : ¬ (fun x : Nat => s.heap.size ≤ x) b := Nat.not_le.mpr hbl
  obtain ⟨r, h, H, t, c0, f0, ho, ot⟩ := S
  obtain ⟨v, M1, M2, e1, e2, S2⟩ := Op.run (op_clearText ho ot ) c0 f0
  refine V_aload_n X dL_law_896 1 rfl rfl ?_
  refine C_Vi (As := []) (k0 := 0) X rfl rfl (cwV 0 X.1.2.2.2.2 (gw_V wML_L_108 wIM_X6_clearText wSE_X6_clearText wIN_X6 (gw_c wCD_X6_clearText)) rfl rfl rfl (by decide +kernel) ⟨Nat.le_of_ble_eq_true rfl, Nat.le_of_ble_eq_true rfl⟩) rfl rfl (Nat.le_of_ble_eq_true rfl) ⟨Nat.le_of_ble_eq_true rfl, Nat.le_of_ble_eq_true rfl⟩ (k_X6_clearText l D cy q  _ v _ e1) dL_law_897 ?_
  refine V_aload_n X dL_law_900 2 rfl rfl ?_
  refine C_Vi (As := []) (k0 := 40) X rfl rfl (cwV 0 X.1.2.2.2.2 (gw_V wML_L_111 wIM_X7_clearText wSE_X7_clearText wIN_X7 (gw_c wCD_X7_clearText)) rfl rfl rfl (by decide +kernel) ⟨Nat.le_of_ble_eq_true rfl, Nat.le_of_ble_eq_true rfl⟩) rfl rfl (Nat.le_of_ble_eq_true rfl) ⟨Nat.le_of_ble_eq_true rfl, Nat.le_of_ble_eq_true rfl⟩ (k_X7_clearText l D cy q  _ v _ e2) dL_law_901 ?_
  refine L_same X 945 dL_law_904 (by decide) ?_
  exact kk _ S2
set_option maxRecDepth 100000 in
set_option maxHeartbeats 4000000 in
theorem lc_23 (hF : 300 ≤ F) (hn : n ≤ 3072) (X : Fx p s m #[Value.ref b] c code 4 RL gw D cy q (fun x : Nat => s.heap.size ≤ x) s.heap) (hX : va_X b n xs s s.heap) (hbl : b < s.heap.size) {i : Nat} (hi : i + 6 ≤ n) (S : St M) (kk : ∀ M', St M' → V p l e room_1 s m #[Value.ref b] below meth c (lw_Z below #[Value.ref b] s) D cy q (fun x : Nat => s.heap.size ≤ x) s.heap 4 50 2483 M' 945 (LL b q i) []) : V p l e room_1 s m #[Value.ref b] below meth c (lw_Z below #[Value.ref b] s) D cy q (fun x : Nat => s.heap.size ≤ x) s.heap 4 50 2483 M 909 (LL b q i) [] := by
  have hbA : ¬ (fun x : Nat => s.heap.size ≤ x) b := Nat.not_le.mpr hbl
  obtain ⟨r, h, H, t, c0, f0, ho, ot⟩ := S
  obtain ⟨v, M1, M2, e1, e2, S2⟩ := Op.run (op_fault hF ho ot (xs (i + 1))) c0 f0
  refine V_aload_n X dL_law_909 1 rfl rfl ?_
  refine L_arg X hn hX hbl hbA 1 (by decide) (by omega) dL_law_910 dL_law_911 dL_law_912 dL_law_913 dL_law_914 ?_
  refine C_Vi (As := [.int (xs (i + 1))]) (k0 := 0) X rfl rfl (cwV 1 X.1.2.2.2.2 (gw_V wML_L_112 wIM_X6_fault wSE_X6_fault wIN_X6 (gw_c wCD_X6_fault)) rfl rfl rfl (by decide +kernel) ⟨Nat.le_of_ble_eq_true rfl, Nat.le_of_ble_eq_true rfl⟩) rfl rfl (Nat.le_of_ble_eq_true rfl) ⟨Nat.le_of_ble_eq_true rfl, Nat.le_of_ble_eq_true rfl⟩ (k_X6_fault l D cy q F (xs (i + 1)) _ v _ e1) dL_law_915 ?_
  refine V_aload_n X dL_law_918 2 rfl rfl ?_
  refine L_arg X hn hX hbl hbA 1 (by decide) (by omega) dL_law_919 dL_law_920 dL_law_921 dL_law_922 dL_law_923 ?_
  refine C_Vi (As := [.int (xs (i + 1))]) (k0 := 40) X rfl rfl (cwV 1 X.1.2.2.2.2 (gw_V wML_L_115 wIM_X7_fault wSE_X7_fault wIN_X7 (gw_c wCD_X7_fault)) rfl rfl rfl (by decide +kernel) ⟨Nat.le_of_ble_eq_true rfl, Nat.le_of_ble_eq_true rfl⟩) rfl rfl (Nat.le_of_ble_eq_true rfl) ⟨Nat.le_of_ble_eq_true rfl, Nat.le_of_ble_eq_true rfl⟩ (k_X7_fault l D cy q F (xs (i + 1)) _ v _ e2) dL_law_924 ?_
  refine L_same X 945 dL_law_927 (by decide) ?_
  exact kk _ S2
set_option maxRecDepth 100000 in
set_option maxHeartbeats 4000000 in
theorem lc_24 (hF : 300 ≤ F) (hn : n ≤ 3072) (X : Fx p s m #[Value.ref b] c code 4 RL gw D cy q (fun x : Nat => s.heap.size ≤ x) s.heap) (hX : va_X b n xs s s.heap) (hbl : b < s.heap.size) {i : Nat} (hi : i + 6 ≤ n) (S : St M) (kk : ∀ M', St M' → V p l e room_1 s m #[Value.ref b] below meth c (lw_Z below #[Value.ref b] s) D cy q (fun x : Nat => s.heap.size ≤ x) s.heap 4 50 2483 M' 945 (LL b q i) []) : V p l e room_1 s m #[Value.ref b] below meth c (lw_Z below #[Value.ref b] s) D cy q (fun x : Nat => s.heap.size ≤ x) s.heap 4 50 2483 M 932 (LL b q i) [] := by
  have hbA : ¬ (fun x : Nat => s.heap.size ≤ x) b := Nat.not_le.mpr hbl
  obtain ⟨r, h, H, t, c0, f0, ho, ot⟩ := S
  obtain ⟨v, M1, M2, e1, e2, S2⟩ := Op.run (op_play hF ho ot ) c0 f0
  refine V_aload_n X dL_law_932 1 rfl rfl ?_
  refine C_Vi (As := []) (k0 := 0) X rfl rfl (cwV 0 X.1.2.2.2.2 (gw_V wML_L_116 wIM_X6_play wSE_X6_play wIN_X6 (gw_c wCD_X6_play)) rfl rfl rfl (by decide +kernel) ⟨Nat.le_of_ble_eq_true rfl, Nat.le_of_ble_eq_true rfl⟩) rfl rfl (Nat.le_of_ble_eq_true rfl) ⟨Nat.le_of_ble_eq_true rfl, Nat.le_of_ble_eq_true rfl⟩ (k_X6_play l D cy q F  _ v _ e1) dL_law_933 ?_
  refine V_aload_n X dL_law_936 2 rfl rfl ?_
  refine C_Vi (As := []) (k0 := 40) X rfl rfl (cwV 0 X.1.2.2.2.2 (gw_V wML_L_119 wIM_X7_play wSE_X7_play wIN_X7 (gw_c wCD_X7_play)) rfl rfl rfl (by decide +kernel) ⟨Nat.le_of_ble_eq_true rfl, Nat.le_of_ble_eq_true rfl⟩) rfl rfl (Nat.le_of_ble_eq_true rfl) ⟨Nat.le_of_ble_eq_true rfl, Nat.le_of_ble_eq_true rfl⟩ (k_X7_play l D cy q F  _ v _ e2) dL_law_937 ?_
  refine L_same X 945 dL_law_940 (by decide) ?_
  exact kk _ S2
end CASES
