/-! the cases of the law's switch -/
section LWC
variable {p : Program} {l : Launch} {e : Env} {s : State} {m : MethodId} {below : List Frame} {meth : Method} {c : Code} {Q : State → Prop} {D : va_G} {T : Nat → ClassId} {adK adV : Nat → Nat} {b L sa : Nat} {xs : Nat → Int32} {cJ : ClassId}
set_option maxHeartbeats 4000000 in
set_option maxRecDepth 100000 in
theorem lw_feed {j : Nat} {K : Nat → Nat → Nat} {a0 a1 a2 a3 a4 a5 a6 a7 a8 a9 b0 : Nat → Nat} {S1 S2 S3 S4 S5 S6 S7 S8 S9 M : Nat → Nat → Int32} {q : Nat} {f : Nat → Int64} {cells slots : Nat} (C0 : lwC p s m meth c D T adK adV b L sa xs cJ) (hj : 6 * j + 6 ≤ L) (hI : ivK K S1 S2 S4 S5 S6 S7 S8 M) (hD : va_D (fun q : Nat => s.heap.size ≤ q) ((wX6 a0 a1 a2 a3 a4 a5 a6 a7 a8 a9 ++ (wX4 T a1 S1 ++ (wX1 T a2 S2 ++ (wX1 T a3 S3 ++ (wX0 T a4 S4 ++ (wX5 T a5 S5 ++ (wX5 T a6 S6 ++ (wX5 T a7 S7 ++ (wX5 T a8 S8 ++ wX3 T a9 S9))))))))) ++ (wX7 T b0 M ++ wJ cJ q f))) (hc : cells + 5 * tpL S1 ≤ 53 + 106 * j) (hs : slots + 25 * tpL S1 ≤ 98797 + 600 * j) (KK : lwG p l e s m below meth c Q D T b cJ j) : zt p l e room_1 s m #[Value.ref b] below meth c 7 (fun q : Nat => s.heap.size ≤ q) D cells slots Q ((wX6 a0 a1 a2 a3 a4 a5 a6 a7 a8 a9 ++ (wX4 T a1 S1 ++ (wX1 T a2 S2 ++ (wX1 T a3 S3 ++ (wX0 T a4 S4 ++ (wX5 T a5 S5 ++ (wX5 T a6 S6 ++ (wX5 T a7 S7 ++ (wX5 T a8 S8 ++ wX3 T a9 S9))))))))) ++ (wX7 T b0 M ++ wJ cJ q f)) [(0, .ref b), (1, .ref (a0 99)), (2, .ref (b0 99)), (3, .ref q), (4, .int (nI (6 * j)))] 136 [] := by
  obtain ⟨C1, hXs, hbl, hL, hE, hX, hKJ⟩ := C0
  have hbA : ¬ (fun q : Nat => s.heap.size ≤ q) b := Nat.not_le.mpr hbl
  have hA : ∀ q : Nat, s.heap.size ≤ q → (fun q : Nat => s.heap.size ≤ q) q := fun _ h => h
  have C := C1 cells slots (by omega) (by omega)
  obtain ⟨x, S1', M', h1, h2, hI', h0, ht⟩ := m_feed2 (S3 := S3) (S9 := S9) hI (sv xs (6 * j) 1) (sv xs (6 * j) 2) (sv xs (6 * j) 3) (sv xs (6 * j) 4) (sv xs (6 * j) 5)
  refine z_aload_n C dL_law_136 rfl 1 rfl 137 rfl ?_
  refine z_sarg (z := 1) 1 C hXs hbl hbA (lw_in hL hj 1 (by decide)) (by decide) rfl rfl dL_law_137 dL_law_138 dL_law_140 dL_law_141 dL_law_142 143 rfl ?_
  refine z_sarg (z := 2) 2 C hXs hbl hbA (lw_in hL hj 2 (by decide)) (by decide) rfl rfl dL_law_143 dL_law_144 dL_law_146 dL_law_147 dL_law_148 149 rfl ?_
  refine z_sarg (z := 3) 3 C hXs hbl hbA (lw_in hL hj 3 (by decide)) (by decide) rfl rfl dL_law_149 dL_law_150 dL_law_152 dL_law_153 dL_law_154 155 rfl ?_
  refine z_sarg (z := 4) 4 C hXs hbl hbA (lw_in hL hj 4 (by decide)) (by decide) rfl rfl dL_law_155 dL_law_156 dL_law_158 dL_law_159 dL_law_160 161 rfl ?_
  refine z_sarg (z := 5) 5 C hXs hbl hbA (lw_in hL hj 5 (by decide)) (by decide) rfl rfl dL_law_161 dL_law_162 dL_law_164 dL_law_165 dL_law_166 167 rfl ?_
  refine z_callL C (c_X6_feed l D T a0 a1 a2 a3 a4 a5 a6 a7 a8 a9 S1 S2 S3 S4 S5 S6 S7 S8 S9 (sv xs (6 * j) 1) (sv xs (6 * j) 2) (sv xs (6 * j) 3) (sv xs (6 * j) 4) (sv xs (6 * j) 5) (x, S1') h1) ⟨rfl, rfl⟩ (z_cwV C 5 gL_law_X6_feed rfl rfl dd_X6_feed ⟨(Nat.le_of_ble_eq_true rfl), (Nat.le_of_ble_eq_true rfl)⟩) hD ⟨a0 99, [.int (sv xs (6 * j) 1), .int (sv xs (6 * j) 2), .int (sv xs (6 * j) 3), .int (sv xs (6 * j) 4), .int (sv xs (6 * j) 5)], 5, 0, _, _, rfl, rfl, rfl, rfl, rfl⟩ rfl (Nat.le_of_ble_eq_true rfl) dL_law_167 170 rfl ?_
  have hD1 : va_D (fun q : Nat => s.heap.size ≤ q) ((wX6 a0 a1 a2 a3 a4 a5 a6 a7 a8 a9 ++ (wX4 T a1 S1' ++ (wX1 T a2 S2 ++ (wX1 T a3 S3 ++ (wX0 T a4 S4 ++ (wX5 T a5 S5 ++ (wX5 T a6 S6 ++ (wX5 T a7 S7 ++ (wX5 T a8 S8 ++ wX3 T a9 S9))))))))) ++ (wX7 T b0 M ++ wJ cJ q f)) := hD.zaddr rfl
  refine z_aload_n C dL_law_170 rfl 2 rfl 171 rfl ?_
  refine z_sarg (z := 1) 1 C hXs hbl hbA (lw_in hL hj 1 (by decide)) (by decide) rfl rfl dL_law_171 dL_law_172 dL_law_174 dL_law_175 dL_law_176 177 rfl ?_
  refine z_sarg (z := 2) 2 C hXs hbl hbA (lw_in hL hj 2 (by decide)) (by decide) rfl rfl dL_law_177 dL_law_178 dL_law_180 dL_law_181 dL_law_182 183 rfl ?_
  refine z_sarg (z := 3) 3 C hXs hbl hbA (lw_in hL hj 3 (by decide)) (by decide) rfl rfl dL_law_183 dL_law_184 dL_law_186 dL_law_187 dL_law_188 189 rfl ?_
  refine z_sarg (z := 4) 4 C hXs hbl hbA (lw_in hL hj 4 (by decide)) (by decide) rfl rfl dL_law_189 dL_law_190 dL_law_192 dL_law_193 dL_law_194 195 rfl ?_
  refine z_sarg (z := 5) 5 C hXs hbl hbA (lw_in hL hj 5 (by decide)) (by decide) rfl rfl dL_law_195 dL_law_196 dL_law_198 dL_law_199 dL_law_200 201 rfl ?_
  refine z_callM (wa := (wX6 a0 a1 a2 a3 a4 a5 a6 a7 a8 a9 ++ (wX4 T a1 S1' ++ (wX1 T a2 S2 ++ (wX1 T a3 S3 ++ (wX0 T a4 S4 ++ (wX5 T a5 S5 ++ (wX5 T a6 S6 ++ (wX5 T a7 S7 ++ (wX5 T a8 S8 ++ wX3 T a9 S9)))))))))) C (c_X7_feed l D T b0 M (sv xs (6 * j) 1) (sv xs (6 * j) 2) (sv xs (6 * j) 3) (sv xs (6 * j) 4) (sv xs (6 * j) 5) (x, M') h2) ⟨rfl, rfl⟩ (z_cwV C 5 gL_law_X7_feed rfl rfl dd_X7_feed ⟨(Nat.le_of_ble_eq_true rfl), (Nat.le_of_ble_eq_true rfl)⟩) hD1 ⟨b0 99, [.int (sv xs (6 * j) 1), .int (sv xs (6 * j) 2), .int (sv xs (6 * j) 3), .int (sv xs (6 * j) 4), .int (sv xs (6 * j) 5)], 6, 0, _, _, rfl, rfl, rfl, rfl, rfl⟩ rfl (Nat.le_of_ble_eq_true rfl) dL_law_201 204 rfl ?_
  refine z_icmp_eq (X := some ()) (Y := none) (ex := ()) C 1019 dL_law_204 (by decide) 207 rfl (if_pos rfl) (fun _ => ?_) (fun h => nomatch h)
  exact KK K a0 a1 a2 a3 a4 a5 a6 a7 a8 a9 b0 S1' S2 S3 S4 S5 S6 S7 S8 S9 M' q f cells slots hI' (hD.zaddr rfl) (by omega) (by omega)

set_option maxHeartbeats 4000000 in
set_option maxRecDepth 100000 in
theorem lw_chart {j : Nat} {K : Nat → Nat → Nat} {a0 a1 a2 a3 a4 a5 a6 a7 a8 a9 b0 : Nat → Nat} {S1 S2 S3 S4 S5 S6 S7 S8 S9 M : Nat → Nat → Int32} {q : Nat} {f : Nat → Int64} {cells slots : Nat} (C0 : lwC p s m meth c D T adK adV b L sa xs cJ) (hj : 6 * j + 6 ≤ L) (hI : ivK K S1 S2 S4 S5 S6 S7 S8 M) (hD : va_D (fun q : Nat => s.heap.size ≤ q) ((wX6 a0 a1 a2 a3 a4 a5 a6 a7 a8 a9 ++ (wX4 T a1 S1 ++ (wX1 T a2 S2 ++ (wX1 T a3 S3 ++ (wX0 T a4 S4 ++ (wX5 T a5 S5 ++ (wX5 T a6 S6 ++ (wX5 T a7 S7 ++ (wX5 T a8 S8 ++ wX3 T a9 S9))))))))) ++ (wX7 T b0 M ++ wJ cJ q f))) (hc : cells + 5 * tpL S1 ≤ 53 + 106 * j) (hs : slots + 25 * tpL S1 ≤ 98797 + 600 * j) (KK : lwG p l e s m below meth c Q D T b cJ j) : zt p l e room_1 s m #[Value.ref b] below meth c 7 (fun q : Nat => s.heap.size ≤ q) D cells slots Q ((wX6 a0 a1 a2 a3 a4 a5 a6 a7 a8 a9 ++ (wX4 T a1 S1 ++ (wX1 T a2 S2 ++ (wX1 T a3 S3 ++ (wX0 T a4 S4 ++ (wX5 T a5 S5 ++ (wX5 T a6 S6 ++ (wX5 T a7 S7 ++ (wX5 T a8 S8 ++ wX3 T a9 S9))))))))) ++ (wX7 T b0 M ++ wJ cJ q f)) [(0, .ref b), (1, .ref (a0 99)), (2, .ref (b0 99)), (3, .ref q), (4, .int (nI (6 * j)))] 234 [] := by
  obtain ⟨C1, hXs, hbl, hL, hE, hX, hKJ⟩ := C0
  have hbA : ¬ (fun q : Nat => s.heap.size ≤ q) b := Nat.not_le.mpr hbl
  have hA : ∀ q : Nat, s.heap.size ≤ q → (fun q : Nat => s.heap.size ≤ q) q := fun _ h => h
  have C := C1 cells slots (by omega) (by omega)
  obtain ⟨x, S2', S4', S5', S6', S7', S8', M', h1, h2, h0, K', hI'⟩ := m_chart (S3 := S3) (S9 := S9) hI (sv xs (6 * j) 1) (sv xs (6 * j) 2)
  refine z_aload_n C dL_law_234 rfl 1 rfl 235 rfl ?_
  refine z_sarg (z := 1) 1 C hXs hbl hbA (lw_in hL hj 1 (by decide)) (by decide) rfl rfl dL_law_235 dL_law_236 dL_law_238 dL_law_239 dL_law_240 241 rfl ?_
  refine z_sarg (z := 2) 2 C hXs hbl hbA (lw_in hL hj 2 (by decide)) (by decide) rfl rfl dL_law_241 dL_law_242 dL_law_244 dL_law_245 dL_law_246 247 rfl ?_
  refine z_callL C (c_X6_chart l D T a0 a1 a2 a3 a4 a5 a6 a7 a8 a9 S1 S2 S3 S4 S5 S6 S7 S8 S9 (sv xs (6 * j) 1) (sv xs (6 * j) 2) (x, S2', S4', S5', S6', S7', S8') h1) ⟨rfl, rfl⟩ (z_cwV C 2 gL_law_X6_chart rfl rfl dd_X6_chart ⟨(Nat.le_of_ble_eq_true rfl), (Nat.le_of_ble_eq_true rfl)⟩) hD ⟨a0 99, [.int (sv xs (6 * j) 1), .int (sv xs (6 * j) 2)], 5, 0, _, _, rfl, rfl, rfl, rfl, rfl⟩ rfl (Nat.le_of_ble_eq_true rfl) dL_law_247 250 rfl ?_
  have hD1 : va_D (fun q : Nat => s.heap.size ≤ q) ((wX6 a0 a1 a2 a3 a4 a5 a6 a7 a8 a9 ++ (wX4 T a1 S1 ++ (wX1 T a2 S2' ++ (wX1 T a3 S3 ++ (wX0 T a4 S4' ++ (wX5 T a5 S5' ++ (wX5 T a6 S6' ++ (wX5 T a7 S7' ++ (wX5 T a8 S8' ++ wX3 T a9 S9))))))))) ++ (wX7 T b0 M ++ wJ cJ q f)) := hD.zaddr rfl
  refine z_aload_n C dL_law_250 rfl 2 rfl 251 rfl ?_
  refine z_sarg (z := 1) 1 C hXs hbl hbA (lw_in hL hj 1 (by decide)) (by decide) rfl rfl dL_law_251 dL_law_252 dL_law_254 dL_law_255 dL_law_256 257 rfl ?_
  refine z_sarg (z := 2) 2 C hXs hbl hbA (lw_in hL hj 2 (by decide)) (by decide) rfl rfl dL_law_257 dL_law_258 dL_law_260 dL_law_261 dL_law_262 263 rfl ?_
  refine z_callM (wa := (wX6 a0 a1 a2 a3 a4 a5 a6 a7 a8 a9 ++ (wX4 T a1 S1 ++ (wX1 T a2 S2' ++ (wX1 T a3 S3 ++ (wX0 T a4 S4' ++ (wX5 T a5 S5' ++ (wX5 T a6 S6' ++ (wX5 T a7 S7' ++ (wX5 T a8 S8' ++ wX3 T a9 S9)))))))))) C (c_X7_chart l D T b0 M (sv xs (6 * j) 1) (sv xs (6 * j) 2) (x, M') h2) ⟨rfl, rfl⟩ (z_cwV C 2 gL_law_X7_chart rfl rfl dd_X7_chart ⟨(Nat.le_of_ble_eq_true rfl), (Nat.le_of_ble_eq_true rfl)⟩) hD1 ⟨b0 99, [.int (sv xs (6 * j) 1), .int (sv xs (6 * j) 2)], 6, 0, _, _, rfl, rfl, rfl, rfl, rfl⟩ rfl (Nat.le_of_ble_eq_true rfl) dL_law_263 266 rfl ?_
  refine z_icmp_eq (X := some ()) (Y := none) (ex := ()) C 1019 dL_law_266 (by decide) 269 rfl (if_pos rfl) (fun _ => ?_) (fun h => nomatch h)
  exact KK K' a0 a1 a2 a3 a4 a5 a6 a7 a8 a9 b0 S1 S2' S3 S4' S5' S6' S7' S8' S9 M' q f cells slots hI' (hD.zaddr rfl) (by omega) (by omega)

set_option maxHeartbeats 4000000 in
set_option maxRecDepth 100000 in
theorem lw_place {j : Nat} {K : Nat → Nat → Nat} {a0 a1 a2 a3 a4 a5 a6 a7 a8 a9 b0 : Nat → Nat} {S1 S2 S3 S4 S5 S6 S7 S8 S9 M : Nat → Nat → Int32} {q : Nat} {f : Nat → Int64} {cells slots : Nat} (C0 : lwC p s m meth c D T adK adV b L sa xs cJ) (hj : 6 * j + 6 ≤ L) (hI : ivK K S1 S2 S4 S5 S6 S7 S8 M) (hD : va_D (fun q : Nat => s.heap.size ≤ q) ((wX6 a0 a1 a2 a3 a4 a5 a6 a7 a8 a9 ++ (wX4 T a1 S1 ++ (wX1 T a2 S2 ++ (wX1 T a3 S3 ++ (wX0 T a4 S4 ++ (wX5 T a5 S5 ++ (wX5 T a6 S6 ++ (wX5 T a7 S7 ++ (wX5 T a8 S8 ++ wX3 T a9 S9))))))))) ++ (wX7 T b0 M ++ wJ cJ q f))) (hc : cells + 5 * tpL S1 ≤ 53 + 106 * j) (hs : slots + 25 * tpL S1 ≤ 98797 + 600 * j) (KK : lwG p l e s m below meth c Q D T b cJ j) : zt p l e room_1 s m #[Value.ref b] below meth c 7 (fun q : Nat => s.heap.size ≤ q) D cells slots Q ((wX6 a0 a1 a2 a3 a4 a5 a6 a7 a8 a9 ++ (wX4 T a1 S1 ++ (wX1 T a2 S2 ++ (wX1 T a3 S3 ++ (wX0 T a4 S4 ++ (wX5 T a5 S5 ++ (wX5 T a6 S6 ++ (wX5 T a7 S7 ++ (wX5 T a8 S8 ++ wX3 T a9 S9))))))))) ++ (wX7 T b0 M ++ wJ cJ q f)) [(0, .ref b), (1, .ref (a0 99)), (2, .ref (b0 99)), (3, .ref q), (4, .int (nI (6 * j)))] 271 [] := by
  obtain ⟨C1, hXs, hbl, hL, hE, hX, hKJ⟩ := C0
  have hbA : ¬ (fun q : Nat => s.heap.size ≤ q) b := Nat.not_le.mpr hbl
  have hA : ∀ q : Nat, s.heap.size ≤ q → (fun q : Nat => s.heap.size ≤ q) q := fun _ h => h
  have C := C1 cells slots (by omega) (by omega)
  obtain ⟨x, S2', S4', S5', S6', S7', S8', M', h1, h2, h0, K', hI'⟩ := m_place (S3 := S3) (S9 := S9) hI (sv xs (6 * j) 1) (sv xs (6 * j) 2) (sv xs (6 * j) 3)
  refine z_aload_n C dL_law_271 rfl 1 rfl 272 rfl ?_
  refine z_sarg (z := 1) 1 C hXs hbl hbA (lw_in hL hj 1 (by decide)) (by decide) rfl rfl dL_law_272 dL_law_273 dL_law_275 dL_law_276 dL_law_277 278 rfl ?_
  refine z_sarg (z := 2) 2 C hXs hbl hbA (lw_in hL hj 2 (by decide)) (by decide) rfl rfl dL_law_278 dL_law_279 dL_law_281 dL_law_282 dL_law_283 284 rfl ?_
  refine z_sarg (z := 3) 3 C hXs hbl hbA (lw_in hL hj 3 (by decide)) (by decide) rfl rfl dL_law_284 dL_law_285 dL_law_287 dL_law_288 dL_law_289 290 rfl ?_
  refine z_callL C (c_X6_place l D T a0 a1 a2 a3 a4 a5 a6 a7 a8 a9 S1 S2 S3 S4 S5 S6 S7 S8 S9 (sv xs (6 * j) 1) (sv xs (6 * j) 2) (sv xs (6 * j) 3) (x, S2', S4', S5', S6', S7', S8') h1) ⟨rfl, rfl⟩ (z_cwV C 3 gL_law_X6_place rfl rfl dd_X6_place ⟨(Nat.le_of_ble_eq_true rfl), (Nat.le_of_ble_eq_true rfl)⟩) hD ⟨a0 99, [.int (sv xs (6 * j) 1), .int (sv xs (6 * j) 2), .int (sv xs (6 * j) 3)], 5, 0, _, _, rfl, rfl, rfl, rfl, rfl⟩ rfl (Nat.le_of_ble_eq_true rfl) dL_law_290 293 rfl ?_
  have hD1 : va_D (fun q : Nat => s.heap.size ≤ q) ((wX6 a0 a1 a2 a3 a4 a5 a6 a7 a8 a9 ++ (wX4 T a1 S1 ++ (wX1 T a2 S2' ++ (wX1 T a3 S3 ++ (wX0 T a4 S4' ++ (wX5 T a5 S5' ++ (wX5 T a6 S6' ++ (wX5 T a7 S7' ++ (wX5 T a8 S8' ++ wX3 T a9 S9))))))))) ++ (wX7 T b0 M ++ wJ cJ q f)) := hD.zaddr rfl
  refine z_aload_n C dL_law_293 rfl 2 rfl 294 rfl ?_
  refine z_sarg (z := 1) 1 C hXs hbl hbA (lw_in hL hj 1 (by decide)) (by decide) rfl rfl dL_law_294 dL_law_295 dL_law_297 dL_law_298 dL_law_299 300 rfl ?_
  refine z_sarg (z := 2) 2 C hXs hbl hbA (lw_in hL hj 2 (by decide)) (by decide) rfl rfl dL_law_300 dL_law_301 dL_law_303 dL_law_304 dL_law_305 306 rfl ?_
  refine z_sarg (z := 3) 3 C hXs hbl hbA (lw_in hL hj 3 (by decide)) (by decide) rfl rfl dL_law_306 dL_law_307 dL_law_309 dL_law_310 dL_law_311 312 rfl ?_
  refine z_callM (wa := (wX6 a0 a1 a2 a3 a4 a5 a6 a7 a8 a9 ++ (wX4 T a1 S1 ++ (wX1 T a2 S2' ++ (wX1 T a3 S3 ++ (wX0 T a4 S4' ++ (wX5 T a5 S5' ++ (wX5 T a6 S6' ++ (wX5 T a7 S7' ++ (wX5 T a8 S8' ++ wX3 T a9 S9)))))))))) C (c_X7_place l D T b0 M (sv xs (6 * j) 1) (sv xs (6 * j) 2) (sv xs (6 * j) 3) (x, M') h2) ⟨rfl, rfl⟩ (z_cwV C 3 gL_law_X7_place rfl rfl dd_X7_place ⟨(Nat.le_of_ble_eq_true rfl), (Nat.le_of_ble_eq_true rfl)⟩) hD1 ⟨b0 99, [.int (sv xs (6 * j) 1), .int (sv xs (6 * j) 2), .int (sv xs (6 * j) 3)], 6, 0, _, _, rfl, rfl, rfl, rfl, rfl⟩ rfl (Nat.le_of_ble_eq_true rfl) dL_law_312 315 rfl ?_
  refine z_icmp_eq (X := some ()) (Y := none) (ex := ()) C 1019 dL_law_315 (by decide) 318 rfl (if_pos rfl) (fun _ => ?_) (fun h => nomatch h)
  exact KK K' a0 a1 a2 a3 a4 a5 a6 a7 a8 a9 b0 S1 S2' S3 S4' S5' S6' S7' S8' S9 M' q f cells slots hI' (hD.zaddr rfl) (by omega) (by omega)

set_option maxHeartbeats 4000000 in
set_option maxRecDepth 100000 in
theorem lw_set {j : Nat} {K : Nat → Nat → Nat} {a0 a1 a2 a3 a4 a5 a6 a7 a8 a9 b0 : Nat → Nat} {S1 S2 S3 S4 S5 S6 S7 S8 S9 M : Nat → Nat → Int32} {q : Nat} {f : Nat → Int64} {cells slots : Nat} (C0 : lwC p s m meth c D T adK adV b L sa xs cJ) (hj : 6 * j + 6 ≤ L) (hI : ivK K S1 S2 S4 S5 S6 S7 S8 M) (hD : va_D (fun q : Nat => s.heap.size ≤ q) ((wX6 a0 a1 a2 a3 a4 a5 a6 a7 a8 a9 ++ (wX4 T a1 S1 ++ (wX1 T a2 S2 ++ (wX1 T a3 S3 ++ (wX0 T a4 S4 ++ (wX5 T a5 S5 ++ (wX5 T a6 S6 ++ (wX5 T a7 S7 ++ (wX5 T a8 S8 ++ wX3 T a9 S9))))))))) ++ (wX7 T b0 M ++ wJ cJ q f))) (hc : cells + 5 * tpL S1 ≤ 53 + 106 * j) (hs : slots + 25 * tpL S1 ≤ 98797 + 600 * j) (KK : lwG p l e s m below meth c Q D T b cJ j) : zt p l e room_1 s m #[Value.ref b] below meth c 7 (fun q : Nat => s.heap.size ≤ q) D cells slots Q ((wX6 a0 a1 a2 a3 a4 a5 a6 a7 a8 a9 ++ (wX4 T a1 S1 ++ (wX1 T a2 S2 ++ (wX1 T a3 S3 ++ (wX0 T a4 S4 ++ (wX5 T a5 S5 ++ (wX5 T a6 S6 ++ (wX5 T a7 S7 ++ (wX5 T a8 S8 ++ wX3 T a9 S9))))))))) ++ (wX7 T b0 M ++ wJ cJ q f)) [(0, .ref b), (1, .ref (a0 99)), (2, .ref (b0 99)), (3, .ref q), (4, .int (nI (6 * j)))] 385 [] := by
  obtain ⟨C1, hXs, hbl, hL, hE, hX, hKJ⟩ := C0
  have hbA : ¬ (fun q : Nat => s.heap.size ≤ q) b := Nat.not_le.mpr hbl
  have hA : ∀ q : Nat, s.heap.size ≤ q → (fun q : Nat => s.heap.size ≤ q) q := fun _ h => h
  have C := C1 cells slots (by omega) (by omega)
  obtain ⟨x, S2', S4', S5', S6', S7', S8', M', h1, h2, h0, K', hI'⟩ := m_set (S3 := S3) (S9 := S9) hI (sv xs (6 * j) 1) (sv xs (6 * j) 2)
  refine z_aload_n C dL_law_385 rfl 1 rfl 386 rfl ?_
  refine z_sarg (z := 1) 1 C hXs hbl hbA (lw_in hL hj 1 (by decide)) (by decide) rfl rfl dL_law_386 dL_law_387 dL_law_389 dL_law_390 dL_law_391 392 rfl ?_
  refine z_sarg (z := 2) 2 C hXs hbl hbA (lw_in hL hj 2 (by decide)) (by decide) rfl rfl dL_law_392 dL_law_393 dL_law_395 dL_law_396 dL_law_397 398 rfl ?_
  refine z_callL C (c_X6_set l D T a0 a1 a2 a3 a4 a5 a6 a7 a8 a9 S1 S2 S3 S4 S5 S6 S7 S8 S9 (sv xs (6 * j) 1) (sv xs (6 * j) 2) (x, S2', S4', S5', S6', S7', S8') h1) ⟨rfl, rfl⟩ (z_cwV C 2 gL_law_X6_set rfl rfl dd_X6_set ⟨(Nat.le_of_ble_eq_true rfl), (Nat.le_of_ble_eq_true rfl)⟩) hD ⟨a0 99, [.int (sv xs (6 * j) 1), .int (sv xs (6 * j) 2)], 5, 0, _, _, rfl, rfl, rfl, rfl, rfl⟩ rfl (Nat.le_of_ble_eq_true rfl) dL_law_398 401 rfl ?_
  have hD1 : va_D (fun q : Nat => s.heap.size ≤ q) ((wX6 a0 a1 a2 a3 a4 a5 a6 a7 a8 a9 ++ (wX4 T a1 S1 ++ (wX1 T a2 S2' ++ (wX1 T a3 S3 ++ (wX0 T a4 S4' ++ (wX5 T a5 S5' ++ (wX5 T a6 S6' ++ (wX5 T a7 S7' ++ (wX5 T a8 S8' ++ wX3 T a9 S9))))))))) ++ (wX7 T b0 M ++ wJ cJ q f)) := hD.zaddr rfl
  refine z_aload_n C dL_law_401 rfl 2 rfl 402 rfl ?_
  refine z_sarg (z := 1) 1 C hXs hbl hbA (lw_in hL hj 1 (by decide)) (by decide) rfl rfl dL_law_402 dL_law_403 dL_law_405 dL_law_406 dL_law_407 408 rfl ?_
  refine z_sarg (z := 2) 2 C hXs hbl hbA (lw_in hL hj 2 (by decide)) (by decide) rfl rfl dL_law_408 dL_law_409 dL_law_411 dL_law_412 dL_law_413 414 rfl ?_
  refine z_callM (wa := (wX6 a0 a1 a2 a3 a4 a5 a6 a7 a8 a9 ++ (wX4 T a1 S1 ++ (wX1 T a2 S2' ++ (wX1 T a3 S3 ++ (wX0 T a4 S4' ++ (wX5 T a5 S5' ++ (wX5 T a6 S6' ++ (wX5 T a7 S7' ++ (wX5 T a8 S8' ++ wX3 T a9 S9)))))))))) C (c_X7_set l D T b0 M (sv xs (6 * j) 1) (sv xs (6 * j) 2) (x, M') h2) ⟨rfl, rfl⟩ (z_cwV C 2 gL_law_X7_set rfl rfl dd_X7_set ⟨(Nat.le_of_ble_eq_true rfl), (Nat.le_of_ble_eq_true rfl)⟩) hD1 ⟨b0 99, [.int (sv xs (6 * j) 1), .int (sv xs (6 * j) 2)], 6, 0, _, _, rfl, rfl, rfl, rfl, rfl⟩ rfl (Nat.le_of_ble_eq_true rfl) dL_law_414 417 rfl ?_
  refine z_icmp_eq (X := some ()) (Y := none) (ex := ()) C 1019 dL_law_417 (by decide) 420 rfl (if_pos rfl) (fun _ => ?_) (fun h => nomatch h)
  exact KK K' a0 a1 a2 a3 a4 a5 a6 a7 a8 a9 b0 S1 S2' S3 S4' S5' S6' S7' S8' S9 M' q f cells slots hI' (hD.zaddr rfl) (by omega) (by omega)

set_option maxHeartbeats 4000000 in
set_option maxRecDepth 100000 in
theorem lw_ink {j : Nat} {K : Nat → Nat → Nat} {a0 a1 a2 a3 a4 a5 a6 a7 a8 a9 b0 : Nat → Nat} {S1 S2 S3 S4 S5 S6 S7 S8 S9 M : Nat → Nat → Int32} {q : Nat} {f : Nat → Int64} {cells slots : Nat} (C0 : lwC p s m meth c D T adK adV b L sa xs cJ) (hj : 6 * j + 6 ≤ L) (hI : ivK K S1 S2 S4 S5 S6 S7 S8 M) (hD : va_D (fun q : Nat => s.heap.size ≤ q) ((wX6 a0 a1 a2 a3 a4 a5 a6 a7 a8 a9 ++ (wX4 T a1 S1 ++ (wX1 T a2 S2 ++ (wX1 T a3 S3 ++ (wX0 T a4 S4 ++ (wX5 T a5 S5 ++ (wX5 T a6 S6 ++ (wX5 T a7 S7 ++ (wX5 T a8 S8 ++ wX3 T a9 S9))))))))) ++ (wX7 T b0 M ++ wJ cJ q f))) (hc : cells + 5 * tpL S1 ≤ 53 + 106 * j) (hs : slots + 25 * tpL S1 ≤ 98797 + 600 * j) (KK : lwG p l e s m below meth c Q D T b cJ j) : zt p l e room_1 s m #[Value.ref b] below meth c 7 (fun q : Nat => s.heap.size ≤ q) D cells slots Q ((wX6 a0 a1 a2 a3 a4 a5 a6 a7 a8 a9 ++ (wX4 T a1 S1 ++ (wX1 T a2 S2 ++ (wX1 T a3 S3 ++ (wX0 T a4 S4 ++ (wX5 T a5 S5 ++ (wX5 T a6 S6 ++ (wX5 T a7 S7 ++ (wX5 T a8 S8 ++ wX3 T a9 S9))))))))) ++ (wX7 T b0 M ++ wJ cJ q f)) [(0, .ref b), (1, .ref (a0 99)), (2, .ref (b0 99)), (3, .ref q), (4, .int (nI (6 * j)))] 490 [] := by
  obtain ⟨C1, hXs, hbl, hL, hE, hX, hKJ⟩ := C0
  have hbA : ¬ (fun q : Nat => s.heap.size ≤ q) b := Nat.not_le.mpr hbl
  have hA : ∀ q : Nat, s.heap.size ≤ q → (fun q : Nat => s.heap.size ≤ q) q := fun _ h => h
  have C := C1 cells slots (by omega) (by omega)
  obtain ⟨x, S4', S5', S6', S7', S8', M', h1, h2, h0, hI'⟩ := m_ink (S3 := S3) (S9 := S9) hI (sv xs (6 * j) 1)
  refine z_aload_n C dL_law_490 rfl 1 rfl 491 rfl ?_
  refine z_sarg (z := 1) 1 C hXs hbl hbA (lw_in hL hj 1 (by decide)) (by decide) rfl rfl dL_law_491 dL_law_492 dL_law_494 dL_law_495 dL_law_496 497 rfl ?_
  refine z_callL C (c_X6_ink l D T a0 a1 a2 a3 a4 a5 a6 a7 a8 a9 S1 S2 S3 S4 S5 S6 S7 S8 S9 (sv xs (6 * j) 1) (x, S4', S5', S6', S7', S8') h1) ⟨rfl, rfl⟩ (z_cwV C 1 gL_law_X6_ink rfl rfl dd_X6_ink ⟨(Nat.le_of_ble_eq_true rfl), (Nat.le_of_ble_eq_true rfl)⟩) hD ⟨a0 99, [.int (sv xs (6 * j) 1)], 5, 0, _, _, rfl, rfl, rfl, rfl, rfl⟩ rfl (Nat.le_of_ble_eq_true rfl) dL_law_497 500 rfl ?_
  have hD1 : va_D (fun q : Nat => s.heap.size ≤ q) ((wX6 a0 a1 a2 a3 a4 a5 a6 a7 a8 a9 ++ (wX4 T a1 S1 ++ (wX1 T a2 S2 ++ (wX1 T a3 S3 ++ (wX0 T a4 S4' ++ (wX5 T a5 S5' ++ (wX5 T a6 S6' ++ (wX5 T a7 S7' ++ (wX5 T a8 S8' ++ wX3 T a9 S9))))))))) ++ (wX7 T b0 M ++ wJ cJ q f)) := hD.zaddr rfl
  refine z_aload_n C dL_law_500 rfl 2 rfl 501 rfl ?_
  refine z_sarg (z := 1) 1 C hXs hbl hbA (lw_in hL hj 1 (by decide)) (by decide) rfl rfl dL_law_501 dL_law_502 dL_law_504 dL_law_505 dL_law_506 507 rfl ?_
  refine z_callM (wa := (wX6 a0 a1 a2 a3 a4 a5 a6 a7 a8 a9 ++ (wX4 T a1 S1 ++ (wX1 T a2 S2 ++ (wX1 T a3 S3 ++ (wX0 T a4 S4' ++ (wX5 T a5 S5' ++ (wX5 T a6 S6' ++ (wX5 T a7 S7' ++ (wX5 T a8 S8' ++ wX3 T a9 S9)))))))))) C (c_X7_ink l D T b0 M (sv xs (6 * j) 1) (x, M') h2) ⟨rfl, rfl⟩ (z_cwV C 1 gL_law_X7_ink rfl rfl dd_X7_ink ⟨(Nat.le_of_ble_eq_true rfl), (Nat.le_of_ble_eq_true rfl)⟩) hD1 ⟨b0 99, [.int (sv xs (6 * j) 1)], 6, 0, _, _, rfl, rfl, rfl, rfl, rfl⟩ rfl (Nat.le_of_ble_eq_true rfl) dL_law_507 510 rfl ?_
  refine z_icmp_eq (X := some ()) (Y := none) (ex := ()) C 1019 dL_law_510 (by decide) 513 rfl (if_pos rfl) (fun _ => ?_) (fun h => nomatch h)
  exact KK K a0 a1 a2 a3 a4 a5 a6 a7 a8 a9 b0 S1 S2 S3 S4' S5' S6' S7' S8' S9 M' q f cells slots hI' (hD.zaddr rfl) (by omega) (by omega)
end LWC
