/-! ===== the law: its 27 cases (printed by wip/whole/gen/law.py) ===== -/
section LAWK
variable {p : Program} {l : Launch} {e : Env} {s : State} {m : MethodId} {below : List Frame} {meth : Method} {c : Code} {H : Heap} {locs : List Loc} {Q : State → Prop}
variable {b : Nat} {ls : Array Slot} {D : va_G} {cA : Nat → ClassId} {hqS hqV : Nat → Nat} {B L i u : Nat} {xs : Nat → Int32} {C M : hq_M}
set_option maxHeartbeats 4000000 in
set_option maxRecDepth 100000 in
theorem l_k0 (LC : l_C p m c s b meth D cA hqS hqV B) (h : l_S D cA B C M s.heap H locs) (hJ : JJ u C M) (hu : 8 * u + 8 ≤ 800000) (hX : va_X b L xs s s.heap) (hb : b < s.heap.size ∧ b < B) (hl : lv_has ls 4 [(3, .int (w3 (i : Int))), (2, .ref (B + 410 + 0)), (1, .ref (B + 0)), (0, .ref b)]) (hi : i + 4 < L) (hL : L ≤ 2560)
    (kk : ∀ (C1 M1 : hq_M) (H1 : Heap) (locs1 : List Loc), JJ (u + 1) C1 M1 → l_S D cA B C1 M1 s.heap H1 locs1 → W p l e room_1 s m #[Value.ref b] below meth c H1 locs1 444 15984 Q (F0 m 839 ls [])) : W p l e room_1 s m #[Value.ref b] below meth c H locs 444 15984 Q (F0 m 156 ls []) := by
  refine lv_aload_n LC.1.1 LC.1.2.1 dL_law_156 rfl (lv_at hl 2 rfl) ?_
  refine l_arg (k := 1) LC h hX hb hl (by omega) hL dL_law_157 dL_law_158 dL_law_159 dL_law_160 dL_law_161 ?_
  refine l_cC (n := 1) (rest := []) LC h (c_X11_type l (l_Zo (fun _ hq => hq.1)) _ (w3_rg _) C _ (o_type hJ _)) gL_law_X11_type rfl ⟨rfl, rfl⟩ ⟨rfl, by decide, by decide, by decide +kernel⟩ ⟨Nat.le_of_ble_eq_true rfl, Nat.le_of_ble_eq_true rfl⟩ rfl hl.1 rfl (Nat.le_of_ble_eq_true rfl) dL_law_162 (fun v C1 H locs hq h => ?_)
  obtain ⟨z, rfl, rz, hw⟩ := hq
  refine lv_aload_n LC.1.1 LC.1.2.1 dL_law_165 rfl (lv_at hl 1 rfl) ?_
  refine l_arg (k := 1) LC h hX hb hl (by omega) hL dL_law_166 dL_law_167 dL_law_168 dL_law_169 dL_law_170 ?_
  refine l_cM (n := 1) (rest := [.int (w3 z)]) LC h (c_X12_type l (l_Zo (fun _ hq => l_inM hq)) _ (w3_rg _) M _ hw) gL_law_X12_type rfl ⟨rfl, rfl⟩ ⟨rfl, by decide, by decide, by decide +kernel⟩ ⟨Nat.le_of_ble_eq_true rfl, Nat.le_of_ble_eq_true rfl⟩ rfl hl.1 rfl (Nat.le_of_ble_eq_true rfl) dL_law_171 (fun v M1 H locs hq h => ?_)
  obtain ⟨z1, rfl, rz1, ez, hJ1⟩ := hq
  subst ez
  exact hq_icmp_eq (tgt := 839) LC rz rz1 dL_law_174 rfl (fun _ => kk _ _ _ _ (hJ1.mono (by omega)) h) (fun hne => absurd rfl hne)
set_option maxHeartbeats 4000000 in
set_option maxRecDepth 100000 in
theorem l_k1 (LC : l_C p m c s b meth D cA hqS hqV B) (h : l_S D cA B C M s.heap H locs) (hJ : JJ u C M) (hu : 8 * u + 8 ≤ 800000) (hX : va_X b L xs s s.heap) (hb : b < s.heap.size ∧ b < B) (hl : lv_has ls 4 [(3, .int (w3 (i : Int))), (2, .ref (B + 410 + 0)), (1, .ref (B + 0)), (0, .ref b)]) (hi : i + 4 < L) (hL : L ≤ 2560)
    (kk : ∀ (C1 M1 : hq_M) (H1 : Heap) (locs1 : List Loc), JJ (u + 1) C1 M1 → l_S D cA B C1 M1 s.heap H1 locs1 → W p l e room_1 s m #[Value.ref b] below meth c H1 locs1 444 15984 Q (F0 m 839 ls [])) : W p l e room_1 s m #[Value.ref b] below meth c H locs 444 15984 Q (F0 m 179 ls []) := by
  refine lv_aload_n LC.1.1 LC.1.2.1 dL_law_179 rfl (lv_at hl 2 rfl) ?_
  refine l_cC (n := 0) (rest := []) LC h (c_X11_clear l (l_Zo (fun _ hq => hq.1))  C _ (o_clear hJ)) gL_law_X11_clear rfl ⟨rfl, rfl⟩ ⟨rfl, by decide, by decide, by decide +kernel⟩ ⟨Nat.le_of_ble_eq_true rfl, Nat.le_of_ble_eq_true rfl⟩ rfl hl.1 rfl (Nat.le_of_ble_eq_true rfl) dL_law_180 (fun v C1 H locs hq h => ?_)
  obtain ⟨z, rfl, rz, hw⟩ := hq
  refine lv_aload_n LC.1.1 LC.1.2.1 dL_law_183 rfl (lv_at hl 1 rfl) ?_
  refine l_cM (n := 0) (rest := [.int (w3 z)]) LC h (c_X12_clear l (l_Zo (fun _ hq => l_inM hq))  M _ hw) gL_law_X12_clear rfl ⟨rfl, rfl⟩ ⟨rfl, by decide, by decide, by decide +kernel⟩ ⟨Nat.le_of_ble_eq_true rfl, Nat.le_of_ble_eq_true rfl⟩ rfl hl.1 rfl (Nat.le_of_ble_eq_true rfl) dL_law_184 (fun v M1 H locs hq h => ?_)
  obtain ⟨z1, rfl, rz1, ez, hJ1⟩ := hq
  subst ez
  exact hq_icmp_eq (tgt := 839) LC rz rz1 dL_law_187 rfl (fun _ => kk _ _ _ _ (hJ1.mono (by omega)) h) (fun hne => absurd rfl hne)
set_option maxHeartbeats 4000000 in
set_option maxRecDepth 100000 in
theorem l_k2 (LC : l_C p m c s b meth D cA hqS hqV B) (h : l_S D cA B C M s.heap H locs) (hJ : JJ u C M) (hu : 8 * u + 8 ≤ 800000) (hX : va_X b L xs s s.heap) (hb : b < s.heap.size ∧ b < B) (hl : lv_has ls 4 [(3, .int (w3 (i : Int))), (2, .ref (B + 410 + 0)), (1, .ref (B + 0)), (0, .ref b)]) (hi : i + 4 < L) (hL : L ≤ 2560)
    (kk : ∀ (C1 M1 : hq_M) (H1 : Heap) (locs1 : List Loc), JJ (u + 1) C1 M1 → l_S D cA B C1 M1 s.heap H1 locs1 → W p l e room_1 s m #[Value.ref b] below meth c H1 locs1 444 15984 Q (F0 m 839 ls [])) : W p l e room_1 s m #[Value.ref b] below meth c H locs 444 15984 Q (F0 m 192 ls []) := by
  refine lv_aload_n LC.1.1 LC.1.2.1 dL_law_192 rfl (lv_at hl 2 rfl) ?_
  refine l_cC (n := 0) (rest := []) LC h (c_X11_tells l (l_Zo (fun _ hq => hq.1)) l_St  C _ (o_tells hJ)) gL_law_X11_tells rfl ⟨rfl, rfl⟩ ⟨rfl, by decide, by decide, by decide +kernel⟩ ⟨Nat.le_of_ble_eq_true rfl, Nat.le_of_ble_eq_true rfl⟩ rfl hl.1 rfl (Nat.le_of_ble_eq_true rfl) dL_law_193 (fun v C1 H locs hq h => ?_)
  obtain ⟨z, rfl, rz, hw⟩ := hq
  refine lv_aload_n LC.1.1 LC.1.2.1 dL_law_196 rfl (lv_at hl 1 rfl) ?_
  refine l_cM (n := 0) (rest := [.int (w3 z)]) LC h (c_X12_tells l (l_Zo (fun _ hq => l_inM hq))  M _ hw) gL_law_X12_tells rfl ⟨rfl, rfl⟩ ⟨rfl, by decide, by decide, by decide +kernel⟩ ⟨Nat.le_of_ble_eq_true rfl, Nat.le_of_ble_eq_true rfl⟩ rfl hl.1 rfl (Nat.le_of_ble_eq_true rfl) dL_law_197 (fun v M1 H locs hq h => ?_)
  obtain ⟨z1, rfl, rz1, ez, hJ1⟩ := hq
  subst ez
  exact hq_icmp_eq (tgt := 839) LC rz rz1 dL_law_200 rfl (fun _ => kk _ _ _ _ (hJ1.mono (by omega)) h) (fun hne => absurd rfl hne)
set_option maxHeartbeats 4000000 in
set_option maxRecDepth 100000 in
theorem l_k3 (LC : l_C p m c s b meth D cA hqS hqV B) (h : l_S D cA B C M s.heap H locs) (hJ : JJ u C M) (hu : 8 * u + 8 ≤ 800000) (hX : va_X b L xs s s.heap) (hb : b < s.heap.size ∧ b < B) (hl : lv_has ls 4 [(3, .int (w3 (i : Int))), (2, .ref (B + 410 + 0)), (1, .ref (B + 0)), (0, .ref b)]) (hi : i + 4 < L) (hL : L ≤ 2560)
    (kk : ∀ (C1 M1 : hq_M) (H1 : Heap) (locs1 : List Loc), JJ (u + 1) C1 M1 → l_S D cA B C1 M1 s.heap H1 locs1 → W p l e room_1 s m #[Value.ref b] below meth c H1 locs1 444 15984 Q (F0 m 839 ls [])) : W p l e room_1 s m #[Value.ref b] below meth c H locs 444 15984 Q (F0 m 205 ls []) := by
  refine lv_aload_n LC.1.1 LC.1.2.1 dL_law_205 rfl (lv_at hl 2 rfl) ?_
  refine l_arg (k := 1) LC h hX hb hl (by omega) hL dL_law_206 dL_law_207 dL_law_208 dL_law_209 dL_law_210 ?_
  refine l_arg (k := 2) LC h hX hb hl (by omega) hL dL_law_211 dL_law_212 dL_law_213 dL_law_214 dL_law_215 ?_
  refine l_arg (k := 3) LC h hX hb hl (by omega) hL dL_law_216 dL_law_217 dL_law_218 dL_law_219 dL_law_220 ?_
  refine l_arg (k := 4) LC h hX hb hl (by omega) hL dL_law_221 dL_law_222 dL_law_223 dL_law_224 dL_law_225 ?_
  refine l_cC (n := 4) (rest := []) LC h (c_X11_spells l (l_Zo (fun _ hq => hq.1)) _ (w3_rg _) _ (w3_rg _) _ (w3_rg _) _ (w3_rg _) C _ (o_spells hJ _ _ _ _)) gL_law_X11_spells rfl ⟨rfl, rfl⟩ ⟨rfl, by decide, by decide, by decide +kernel⟩ ⟨Nat.le_of_ble_eq_true rfl, Nat.le_of_ble_eq_true rfl⟩ rfl hl.1 rfl (Nat.le_of_ble_eq_true rfl) dL_law_226 (fun v C1 H locs hq h => ?_)
  obtain ⟨z, rfl, rz, eC, hw⟩ := hq
  rw [eC] at h
  refine lv_aload_n LC.1.1 LC.1.2.1 dL_law_229 rfl (lv_at hl 1 rfl) ?_
  refine l_arg (k := 1) LC h hX hb hl (by omega) hL dL_law_230 dL_law_231 dL_law_232 dL_law_233 dL_law_234 ?_
  refine l_arg (k := 2) LC h hX hb hl (by omega) hL dL_law_235 dL_law_236 dL_law_237 dL_law_238 dL_law_239 ?_
  refine l_arg (k := 3) LC h hX hb hl (by omega) hL dL_law_240 dL_law_241 dL_law_242 dL_law_243 dL_law_244 ?_
  refine l_arg (k := 4) LC h hX hb hl (by omega) hL dL_law_245 dL_law_246 dL_law_247 dL_law_248 dL_law_249 ?_
  refine l_cM (n := 4) (rest := [.int (w3 z)]) LC h (c_X12_spells l (l_Zo (fun _ hq => l_inM hq)) _ (w3_rg _) _ (w3_rg _) _ (w3_rg _) _ (w3_rg _) M _ hw) gL_law_X12_spells rfl ⟨rfl, rfl⟩ ⟨rfl, by decide, by decide, by decide +kernel⟩ ⟨Nat.le_of_ble_eq_true rfl, Nat.le_of_ble_eq_true rfl⟩ rfl hl.1 rfl (Nat.le_of_ble_eq_true rfl) dL_law_250 (fun v M1 H locs hq h => ?_)
  obtain ⟨z1, rfl, rz1, eM, ez⟩ := hq
  rw [eM] at h
  subst ez
  exact hq_icmp_eq (tgt := 839) LC rz rz1 dL_law_253 rfl (fun _ => kk _ _ _ _ (hJ.mono (by omega)) h) (fun hne => absurd rfl hne)
set_option maxHeartbeats 4000000 in
set_option maxRecDepth 100000 in
theorem l_k4 (LC : l_C p m c s b meth D cA hqS hqV B) (h : l_S D cA B C M s.heap H locs) (hJ : JJ u C M) (hu : 8 * u + 8 ≤ 800000) (hX : va_X b L xs s s.heap) (hb : b < s.heap.size ∧ b < B) (hl : lv_has ls 4 [(3, .int (w3 (i : Int))), (2, .ref (B + 410 + 0)), (1, .ref (B + 0)), (0, .ref b)]) (hi : i + 4 < L) (hL : L ≤ 2560)
    (kk : ∀ (C1 M1 : hq_M) (H1 : Heap) (locs1 : List Loc), JJ (u + 1) C1 M1 → l_S D cA B C1 M1 s.heap H1 locs1 → W p l e room_1 s m #[Value.ref b] below meth c H1 locs1 444 15984 Q (F0 m 839 ls [])) : W p l e room_1 s m #[Value.ref b] below meth c H locs 444 15984 Q (F0 m 258 ls []) := by
  refine lv_aload_n LC.1.1 LC.1.2.1 dL_law_258 rfl (lv_at hl 2 rfl) ?_
  refine l_arg (k := 1) LC h hX hb hl (by omega) hL dL_law_259 dL_law_260 dL_law_261 dL_law_262 dL_law_263 ?_
  refine l_cC (n := 1) (rest := []) LC h (c_X11_capacity l (l_Zo (fun _ hq => hq.1)) _ (w3_rg _) C _ (o_capacity hJ (by omega) _)) gL_law_X11_capacity rfl ⟨rfl, rfl⟩ ⟨rfl, by decide, by decide, by decide +kernel⟩ ⟨Nat.le_of_ble_eq_true rfl, Nat.le_of_ble_eq_true rfl⟩ rfl hl.1 rfl (Nat.le_of_ble_eq_true rfl) dL_law_264 (fun v C1 H locs hq h => ?_)
  obtain ⟨z, rfl, rz, hw⟩ := hq
  refine lv_aload_n LC.1.1 LC.1.2.1 dL_law_267 rfl (lv_at hl 1 rfl) ?_
  refine l_arg (k := 1) LC h hX hb hl (by omega) hL dL_law_268 dL_law_269 dL_law_270 dL_law_271 dL_law_272 ?_
  refine l_cM (n := 1) (rest := [.int (w3 z)]) LC h (c_X12_capacity l (l_Zo (fun _ hq => l_inM hq)) _ (w3_rg _) M _ hw) gL_law_X12_capacity rfl ⟨rfl, rfl⟩ ⟨rfl, by decide, by decide, by decide +kernel⟩ ⟨Nat.le_of_ble_eq_true rfl, Nat.le_of_ble_eq_true rfl⟩ rfl hl.1 rfl (Nat.le_of_ble_eq_true rfl) dL_law_273 (fun v M1 H locs hq h => ?_)
  obtain ⟨z1, rfl, rz1, ez, hJ1⟩ := hq
  subst ez
  exact hq_icmp_eq (tgt := 839) LC rz rz1 dL_law_276 rfl (fun _ => kk _ _ _ _ (hJ1.mono (by omega)) h) (fun hne => absurd rfl hne)
set_option maxHeartbeats 4000000 in
set_option maxRecDepth 100000 in
theorem l_k5 (LC : l_C p m c s b meth D cA hqS hqV B) (h : l_S D cA B C M s.heap H locs) (hJ : JJ u C M) (hu : 8 * u + 8 ≤ 800000) (hX : va_X b L xs s s.heap) (hb : b < s.heap.size ∧ b < B) (hl : lv_has ls 4 [(3, .int (w3 (i : Int))), (2, .ref (B + 410 + 0)), (1, .ref (B + 0)), (0, .ref b)]) (hi : i + 4 < L) (hL : L ≤ 2560)
    (kk : ∀ (C1 M1 : hq_M) (H1 : Heap) (locs1 : List Loc), JJ (u + 1) C1 M1 → l_S D cA B C1 M1 s.heap H1 locs1 → W p l e room_1 s m #[Value.ref b] below meth c H1 locs1 444 15984 Q (F0 m 839 ls [])) : W p l e room_1 s m #[Value.ref b] below meth c H locs 444 15984 Q (F0 m 281 ls []) := by
  refine lv_aload_n LC.1.1 LC.1.2.1 dL_law_281 rfl (lv_at hl 2 rfl) ?_
  refine l_arg (k := 1) LC h hX hb hl (by omega) hL dL_law_282 dL_law_283 dL_law_284 dL_law_285 dL_law_286 ?_
  refine l_cC (n := 1) (rest := []) LC h (c_X11_inserts l (l_Zo (fun _ hq => hq.1)) _ (w3_rg _) C _ (o_inserts hJ (by omega) _)) gL_law_X11_inserts rfl ⟨rfl, rfl⟩ ⟨rfl, by decide, by decide, by decide +kernel⟩ ⟨Nat.le_of_ble_eq_true rfl, Nat.le_of_ble_eq_true rfl⟩ rfl hl.1 rfl (Nat.le_of_ble_eq_true rfl) dL_law_287 (fun v C1 H locs hq h => ?_)
  obtain ⟨z, rfl, rz, hw⟩ := hq
  refine lv_aload_n LC.1.1 LC.1.2.1 dL_law_290 rfl (lv_at hl 1 rfl) ?_
  refine l_arg (k := 1) LC h hX hb hl (by omega) hL dL_law_291 dL_law_292 dL_law_293 dL_law_294 dL_law_295 ?_
  refine l_cM (n := 1) (rest := [.int (w3 z)]) LC h (c_X12_inserts l (l_Zo (fun _ hq => l_inM hq)) _ (w3_rg _) M _ hw) gL_law_X12_inserts rfl ⟨rfl, rfl⟩ ⟨rfl, by decide, by decide, by decide +kernel⟩ ⟨Nat.le_of_ble_eq_true rfl, Nat.le_of_ble_eq_true rfl⟩ rfl hl.1 rfl (Nat.le_of_ble_eq_true rfl) dL_law_296 (fun v M1 H locs hq h => ?_)
  obtain ⟨z1, rfl, rz1, ez, hJ1⟩ := hq
  subst ez
  exact hq_icmp_eq (tgt := 839) LC rz rz1 dL_law_299 rfl (fun _ => kk _ _ _ _ (hJ1.mono (by omega)) h) (fun hne => absurd rfl hne)
set_option maxHeartbeats 4000000 in
set_option maxRecDepth 100000 in
theorem l_k6 (LC : l_C p m c s b meth D cA hqS hqV B) (h : l_S D cA B C M s.heap H locs) (hJ : JJ u C M) (hu : 8 * u + 8 ≤ 800000) (hX : va_X b L xs s s.heap) (hb : b < s.heap.size ∧ b < B) (hl : lv_has ls 4 [(3, .int (w3 (i : Int))), (2, .ref (B + 410 + 0)), (1, .ref (B + 0)), (0, .ref b)]) (hi : i + 4 < L) (hL : L ≤ 2560)
    (kk : ∀ (C1 M1 : hq_M) (H1 : Heap) (locs1 : List Loc), JJ (u + 1) C1 M1 → l_S D cA B C1 M1 s.heap H1 locs1 → W p l e room_1 s m #[Value.ref b] below meth c H1 locs1 444 15984 Q (F0 m 839 ls [])) : W p l e room_1 s m #[Value.ref b] below meth c H locs 444 15984 Q (F0 m 304 ls []) := by
  refine lv_aload_n LC.1.1 LC.1.2.1 dL_law_304 rfl (lv_at hl 2 rfl) ?_
  refine l_arg (k := 1) LC h hX hb hl (by omega) hL dL_law_305 dL_law_306 dL_law_307 dL_law_308 dL_law_309 ?_
  refine l_cC (n := 1) (rest := []) LC h (c_X11_repeats l (l_Zo (fun _ hq => hq.1)) _ (w3_rg _) C _ (o_repeats hJ (by omega) _)) gL_law_X11_repeats rfl ⟨rfl, rfl⟩ ⟨rfl, by decide, by decide, by decide +kernel⟩ ⟨Nat.le_of_ble_eq_true rfl, Nat.le_of_ble_eq_true rfl⟩ rfl hl.1 rfl (Nat.le_of_ble_eq_true rfl) dL_law_310 (fun v C1 H locs hq h => ?_)
  obtain ⟨z, rfl, rz, hw⟩ := hq
  refine lv_aload_n LC.1.1 LC.1.2.1 dL_law_313 rfl (lv_at hl 1 rfl) ?_
  refine l_arg (k := 1) LC h hX hb hl (by omega) hL dL_law_314 dL_law_315 dL_law_316 dL_law_317 dL_law_318 ?_
  refine l_cM (n := 1) (rest := [.int (w3 z)]) LC h (c_X12_repeats l (l_Zo (fun _ hq => l_inM hq)) _ (w3_rg _) M _ hw) gL_law_X12_repeats rfl ⟨rfl, rfl⟩ ⟨rfl, by decide, by decide, by decide +kernel⟩ ⟨Nat.le_of_ble_eq_true rfl, Nat.le_of_ble_eq_true rfl⟩ rfl hl.1 rfl (Nat.le_of_ble_eq_true rfl) dL_law_319 (fun v M1 H locs hq h => ?_)
  obtain ⟨z1, rfl, rz1, ez, hJ1⟩ := hq
  subst ez
  exact hq_icmp_eq (tgt := 839) LC rz rz1 dL_law_322 rfl (fun _ => kk _ _ _ _ (hJ1.mono (by omega)) h) (fun hne => absurd rfl hne)
set_option maxHeartbeats 4000000 in
set_option maxRecDepth 100000 in
theorem l_k7 (LC : l_C p m c s b meth D cA hqS hqV B) (h : l_S D cA B C M s.heap H locs) (hJ : JJ u C M) (hu : 8 * u + 8 ≤ 800000) (hX : va_X b L xs s s.heap) (hb : b < s.heap.size ∧ b < B) (hl : lv_has ls 4 [(3, .int (w3 (i : Int))), (2, .ref (B + 410 + 0)), (1, .ref (B + 0)), (0, .ref b)]) (hi : i + 4 < L) (hL : L ≤ 2560)
    (kk : ∀ (C1 M1 : hq_M) (H1 : Heap) (locs1 : List Loc), JJ (u + 1) C1 M1 → l_S D cA B C1 M1 s.heap H1 locs1 → W p l e room_1 s m #[Value.ref b] below meth c H1 locs1 444 15984 Q (F0 m 839 ls [])) : W p l e room_1 s m #[Value.ref b] below meth c H locs 444 15984 Q (F0 m 327 ls []) := by
  refine lv_aload_n LC.1.1 LC.1.2.1 dL_law_327 rfl (lv_at hl 2 rfl) ?_
  refine l_arg (k := 1) LC h hX hb hl (by omega) hL dL_law_328 dL_law_329 dL_law_330 dL_law_331 dL_law_332 ?_
  refine l_cC (n := 1) (rest := []) LC h (c_X11_puts l (l_Zo (fun _ hq => hq.1)) _ (w3_rg _) C _ (o_puts hJ _)) gL_law_X11_puts rfl ⟨rfl, rfl⟩ ⟨rfl, by decide, by decide, by decide +kernel⟩ ⟨Nat.le_of_ble_eq_true rfl, Nat.le_of_ble_eq_true rfl⟩ rfl hl.1 rfl (Nat.le_of_ble_eq_true rfl) dL_law_333 (fun v C1 H locs hq h => ?_)
  obtain ⟨z, rfl, rz, hw⟩ := hq
  refine lv_aload_n LC.1.1 LC.1.2.1 dL_law_336 rfl (lv_at hl 1 rfl) ?_
  refine l_arg (k := 1) LC h hX hb hl (by omega) hL dL_law_337 dL_law_338 dL_law_339 dL_law_340 dL_law_341 ?_
  refine l_cM (n := 1) (rest := [.int (w3 z)]) LC h (c_X12_puts l (l_Zo (fun _ hq => l_inM hq)) _ (w3_rg _) M _ hw) gL_law_X12_puts rfl ⟨rfl, rfl⟩ ⟨rfl, by decide, by decide, by decide +kernel⟩ ⟨Nat.le_of_ble_eq_true rfl, Nat.le_of_ble_eq_true rfl⟩ rfl hl.1 rfl (Nat.le_of_ble_eq_true rfl) dL_law_342 (fun v M1 H locs hq h => ?_)
  obtain ⟨z1, rfl, rz1, ez, hJ1⟩ := hq
  subst ez
  exact hq_icmp_eq (tgt := 839) LC rz rz1 dL_law_345 rfl (fun _ => kk _ _ _ _ (hJ1.mono (by omega)) h) (fun hne => absurd rfl hne)
set_option maxHeartbeats 4000000 in
set_option maxRecDepth 100000 in
theorem l_k8 (LC : l_C p m c s b meth D cA hqS hqV B) (h : l_S D cA B C M s.heap H locs) (hJ : JJ u C M) (hu : 8 * u + 8 ≤ 800000) (hX : va_X b L xs s s.heap) (hb : b < s.heap.size ∧ b < B) (hl : lv_has ls 4 [(3, .int (w3 (i : Int))), (2, .ref (B + 410 + 0)), (1, .ref (B + 0)), (0, .ref b)]) (hi : i + 4 < L) (hL : L ≤ 2560)
    (kk : ∀ (C1 M1 : hq_M) (H1 : Heap) (locs1 : List Loc), JJ (u + 1) C1 M1 → l_S D cA B C1 M1 s.heap H1 locs1 → W p l e room_1 s m #[Value.ref b] below meth c H1 locs1 444 15984 Q (F0 m 839 ls [])) : W p l e room_1 s m #[Value.ref b] below meth c H locs 444 15984 Q (F0 m 350 ls []) := by
  refine lv_aload_n LC.1.1 LC.1.2.1 dL_law_350 rfl (lv_at hl 2 rfl) ?_
  refine l_cC (n := 0) (rest := []) LC h (c_X11_takes l (l_Zo (fun _ hq => hq.1))  C _ (o_takes hJ)) gL_law_X11_takes rfl ⟨rfl, rfl⟩ ⟨rfl, by decide, by decide, by decide +kernel⟩ ⟨Nat.le_of_ble_eq_true rfl, Nat.le_of_ble_eq_true rfl⟩ rfl hl.1 rfl (Nat.le_of_ble_eq_true rfl) dL_law_351 (fun v C1 H locs hq h => ?_)
  obtain ⟨z, rfl, rz, hw⟩ := hq
  refine lv_aload_n LC.1.1 LC.1.2.1 dL_law_354 rfl (lv_at hl 1 rfl) ?_
  refine l_cM (n := 0) (rest := [.int (w3 z)]) LC h (c_X12_takes l (l_Zo (fun _ hq => l_inM hq))  M _ hw) gL_law_X12_takes rfl ⟨rfl, rfl⟩ ⟨rfl, by decide, by decide, by decide +kernel⟩ ⟨Nat.le_of_ble_eq_true rfl, Nat.le_of_ble_eq_true rfl⟩ rfl hl.1 rfl (Nat.le_of_ble_eq_true rfl) dL_law_355 (fun v M1 H locs hq h => ?_)
  obtain ⟨z1, rfl, rz1, ez, hJ1⟩ := hq
  subst ez
  exact hq_icmp_eq (tgt := 839) LC rz rz1 dL_law_358 rfl (fun _ => kk _ _ _ _ (hJ1.mono (by omega)) h) (fun hne => absurd rfl hne)
set_option maxHeartbeats 4000000 in
set_option maxRecDepth 100000 in
theorem l_k9 (LC : l_C p m c s b meth D cA hqS hqV B) (h : l_S D cA B C M s.heap H locs) (hJ : JJ u C M) (hu : 8 * u + 8 ≤ 800000) (hX : va_X b L xs s s.heap) (hb : b < s.heap.size ∧ b < B) (hl : lv_has ls 4 [(3, .int (w3 (i : Int))), (2, .ref (B + 410 + 0)), (1, .ref (B + 0)), (0, .ref b)]) (hi : i + 4 < L) (hL : L ≤ 2560)
    (kk : ∀ (C1 M1 : hq_M) (H1 : Heap) (locs1 : List Loc), JJ (u + 1) C1 M1 → l_S D cA B C1 M1 s.heap H1 locs1 → W p l e room_1 s m #[Value.ref b] below meth c H1 locs1 444 15984 Q (F0 m 839 ls [])) : W p l e room_1 s m #[Value.ref b] below meth c H locs 444 15984 Q (F0 m 363 ls []) := by
  refine lv_aload_n LC.1.1 LC.1.2.1 dL_law_363 rfl (lv_at hl 2 rfl) ?_
  refine l_arg (k := 1) LC h hX hb hl (by omega) hL dL_law_364 dL_law_365 dL_law_366 dL_law_367 dL_law_368 ?_
  refine l_cC (n := 1) (rest := []) LC h (c_X11_sends l (l_Zo (fun _ hq => hq.1)) _ (w3_rg _) C _ (o_sends hJ (by omega) _)) gL_law_X11_sends rfl ⟨rfl, rfl⟩ ⟨rfl, by decide, by decide, by decide +kernel⟩ ⟨Nat.le_of_ble_eq_true rfl, Nat.le_of_ble_eq_true rfl⟩ rfl hl.1 rfl (Nat.le_of_ble_eq_true rfl) dL_law_369 (fun v C1 H locs hq h => ?_)
  obtain ⟨z, rfl, rz, hw⟩ := hq
  refine lv_aload_n LC.1.1 LC.1.2.1 dL_law_372 rfl (lv_at hl 1 rfl) ?_
  refine l_arg (k := 1) LC h hX hb hl (by omega) hL dL_law_373 dL_law_374 dL_law_375 dL_law_376 dL_law_377 ?_
  refine l_cM (n := 1) (rest := [.int (w3 z)]) LC h (c_X12_sends l (l_Zo (fun _ hq => l_inM hq)) _ (w3_rg _) M _ hw) gL_law_X12_sends rfl ⟨rfl, rfl⟩ ⟨rfl, by decide, by decide, by decide +kernel⟩ ⟨Nat.le_of_ble_eq_true rfl, Nat.le_of_ble_eq_true rfl⟩ rfl hl.1 rfl (Nat.le_of_ble_eq_true rfl) dL_law_378 (fun v M1 H locs hq h => ?_)
  obtain ⟨z1, rfl, rz1, ez, hJ1⟩ := hq
  subst ez
  exact hq_icmp_eq (tgt := 839) LC rz rz1 dL_law_381 rfl (fun _ => kk _ _ _ _ (hJ1.mono (by omega)) h) (fun hne => absurd rfl hne)
set_option maxHeartbeats 4000000 in
set_option maxRecDepth 100000 in
theorem l_k10 (LC : l_C p m c s b meth D cA hqS hqV B) (h : l_S D cA B C M s.heap H locs) (hJ : JJ u C M) (hu : 8 * u + 8 ≤ 800000) (hX : va_X b L xs s s.heap) (hb : b < s.heap.size ∧ b < B) (hl : lv_has ls 4 [(3, .int (w3 (i : Int))), (2, .ref (B + 410 + 0)), (1, .ref (B + 0)), (0, .ref b)]) (hi : i + 4 < L) (hL : L ≤ 2560)
    (kk : ∀ (C1 M1 : hq_M) (H1 : Heap) (locs1 : List Loc), JJ (u + 1) C1 M1 → l_S D cA B C1 M1 s.heap H1 locs1 → W p l e room_1 s m #[Value.ref b] below meth c H1 locs1 444 15984 Q (F0 m 839 ls [])) : W p l e room_1 s m #[Value.ref b] below meth c H locs 444 15984 Q (F0 m 386 ls []) := by
  refine lv_aload_n LC.1.1 LC.1.2.1 dL_law_386 rfl (lv_at hl 2 rfl) ?_
  refine l_arg (k := 1) LC h hX hb hl (by omega) hL dL_law_387 dL_law_388 dL_law_389 dL_law_390 dL_law_391 ?_
  refine l_cC (n := 1) (rest := []) LC h (c_X11_cost l (l_Zo (fun _ hq => hq.1)) _ (w3_rg _) C _ (o_cost hJ (by omega) _)) gL_law_X11_cost rfl ⟨rfl, rfl⟩ ⟨rfl, by decide, by decide, by decide +kernel⟩ ⟨Nat.le_of_ble_eq_true rfl, Nat.le_of_ble_eq_true rfl⟩ rfl hl.1 rfl (Nat.le_of_ble_eq_true rfl) dL_law_392 (fun v C1 H locs hq h => ?_)
  obtain ⟨z, rfl, rz, hw⟩ := hq
  refine lv_aload_n LC.1.1 LC.1.2.1 dL_law_395 rfl (lv_at hl 1 rfl) ?_
  refine l_arg (k := 1) LC h hX hb hl (by omega) hL dL_law_396 dL_law_397 dL_law_398 dL_law_399 dL_law_400 ?_
  refine l_cM (n := 1) (rest := [.int (w3 z)]) LC h (c_X12_cost l (l_Zo (fun _ hq => l_inM hq)) _ (w3_rg _) M _ hw) gL_law_X12_cost rfl ⟨rfl, rfl⟩ ⟨rfl, by decide, by decide, by decide +kernel⟩ ⟨Nat.le_of_ble_eq_true rfl, Nat.le_of_ble_eq_true rfl⟩ rfl hl.1 rfl (Nat.le_of_ble_eq_true rfl) dL_law_401 (fun v M1 H locs hq h => ?_)
  obtain ⟨z1, rfl, rz1, ez, hJ1⟩ := hq
  subst ez
  exact hq_icmp_eq (tgt := 839) LC rz rz1 dL_law_404 rfl (fun _ => kk _ _ _ _ (hJ1.mono (by omega)) h) (fun hne => absurd rfl hne)
set_option maxHeartbeats 4000000 in
set_option maxRecDepth 100000 in
theorem l_k11 (LC : l_C p m c s b meth D cA hqS hqV B) (h : l_S D cA B C M s.heap H locs) (hJ : JJ u C M) (hu : 8 * u + 8 ≤ 800000) (hX : va_X b L xs s s.heap) (hb : b < s.heap.size ∧ b < B) (hl : lv_has ls 4 [(3, .int (w3 (i : Int))), (2, .ref (B + 410 + 0)), (1, .ref (B + 0)), (0, .ref b)]) (hi : i + 4 < L) (hL : L ≤ 2560)
    (kk : ∀ (C1 M1 : hq_M) (H1 : Heap) (locs1 : List Loc), JJ (u + 1) C1 M1 → l_S D cA B C1 M1 s.heap H1 locs1 → W p l e room_1 s m #[Value.ref b] below meth c H1 locs1 444 15984 Q (F0 m 839 ls [])) : W p l e room_1 s m #[Value.ref b] below meth c H locs 444 15984 Q (F0 m 409 ls []) := by
  refine lv_aload_n LC.1.1 LC.1.2.1 dL_law_409 rfl (lv_at hl 2 rfl) ?_
  refine l_cC (n := 0) (rest := []) LC h (c_X11_loose l (l_Zo (fun _ hq => hq.1))  C _ (o_loose hJ)) gL_law_X11_loose rfl ⟨rfl, rfl⟩ ⟨rfl, by decide, by decide, by decide +kernel⟩ ⟨Nat.le_of_ble_eq_true rfl, Nat.le_of_ble_eq_true rfl⟩ rfl hl.1 rfl (Nat.le_of_ble_eq_true rfl) dL_law_410 (fun v C1 H locs hq h => ?_)
  obtain ⟨z, rfl, rz, eC, hw⟩ := hq
  rw [eC] at h
  refine lv_aload_n LC.1.1 LC.1.2.1 dL_law_413 rfl (lv_at hl 1 rfl) ?_
  refine l_cM (n := 0) (rest := [.int (w3 z)]) LC h (c_X12_loose l (l_Zo (fun _ hq => l_inM hq))  M _ hw) gL_law_X12_loose rfl ⟨rfl, rfl⟩ ⟨rfl, by decide, by decide, by decide +kernel⟩ ⟨Nat.le_of_ble_eq_true rfl, Nat.le_of_ble_eq_true rfl⟩ rfl hl.1 rfl (Nat.le_of_ble_eq_true rfl) dL_law_414 (fun v M1 H locs hq h => ?_)
  obtain ⟨z1, rfl, rz1, eM, ez⟩ := hq
  rw [eM] at h
  subst ez
  exact hq_icmp_eq (tgt := 839) LC rz rz1 dL_law_417 rfl (fun _ => kk _ _ _ _ (hJ.mono (by omega)) h) (fun hne => absurd rfl hne)
set_option maxHeartbeats 4000000 in
set_option maxRecDepth 100000 in
theorem l_k12 (LC : l_C p m c s b meth D cA hqS hqV B) (h : l_S D cA B C M s.heap H locs) (hJ : JJ u C M) (hu : 8 * u + 8 ≤ 800000) (hX : va_X b L xs s s.heap) (hb : b < s.heap.size ∧ b < B) (hl : lv_has ls 4 [(3, .int (w3 (i : Int))), (2, .ref (B + 410 + 0)), (1, .ref (B + 0)), (0, .ref b)]) (hi : i + 4 < L) (hL : L ≤ 2560)
    (kk : ∀ (C1 M1 : hq_M) (H1 : Heap) (locs1 : List Loc), JJ (u + 1) C1 M1 → l_S D cA B C1 M1 s.heap H1 locs1 → W p l e room_1 s m #[Value.ref b] below meth c H1 locs1 444 15984 Q (F0 m 839 ls [])) : W p l e room_1 s m #[Value.ref b] below meth c H locs 444 15984 Q (F0 m 422 ls []) := by
  refine lv_aload_n LC.1.1 LC.1.2.1 dL_law_422 rfl (lv_at hl 2 rfl) ?_
  refine l_arg (k := 1) LC h hX hb hl (by omega) hL dL_law_423 dL_law_424 dL_law_425 dL_law_426 dL_law_427 ?_
  refine l_cC (n := 1) (rest := []) LC h (c_X11_feeds l (l_Zo (fun _ hq => hq.1)) _ (w3_rg _) C _ (o_feeds hJ (by omega) _)) gL_law_X11_feeds rfl ⟨rfl, rfl⟩ ⟨rfl, by decide, by decide, by decide +kernel⟩ ⟨Nat.le_of_ble_eq_true rfl, Nat.le_of_ble_eq_true rfl⟩ rfl hl.1 rfl (Nat.le_of_ble_eq_true rfl) dL_law_428 (fun v C1 H locs hq h => ?_)
  obtain ⟨z, rfl, rz, hw⟩ := hq
  refine lv_aload_n LC.1.1 LC.1.2.1 dL_law_431 rfl (lv_at hl 1 rfl) ?_
  refine l_arg (k := 1) LC h hX hb hl (by omega) hL dL_law_432 dL_law_433 dL_law_434 dL_law_435 dL_law_436 ?_
  refine l_cM (n := 1) (rest := [.int (w3 z)]) LC h (c_X12_feeds l (l_Zo (fun _ hq => l_inM hq)) _ (w3_rg _) M _ hw) gL_law_X12_feeds rfl ⟨rfl, rfl⟩ ⟨rfl, by decide, by decide, by decide +kernel⟩ ⟨Nat.le_of_ble_eq_true rfl, Nat.le_of_ble_eq_true rfl⟩ rfl hl.1 rfl (Nat.le_of_ble_eq_true rfl) dL_law_437 (fun v M1 H locs hq h => ?_)
  obtain ⟨z1, rfl, rz1, ez, hJ1⟩ := hq
  subst ez
  exact hq_icmp_eq (tgt := 839) LC rz rz1 dL_law_440 rfl (fun _ => kk _ _ _ _ (hJ1.mono (by omega)) h) (fun hne => absurd rfl hne)
set_option maxHeartbeats 4000000 in
set_option maxRecDepth 100000 in
theorem l_k13 (LC : l_C p m c s b meth D cA hqS hqV B) (h : l_S D cA B C M s.heap H locs) (hJ : JJ u C M) (hu : 8 * u + 8 ≤ 800000) (hX : va_X b L xs s s.heap) (hb : b < s.heap.size ∧ b < B) (hl : lv_has ls 4 [(3, .int (w3 (i : Int))), (2, .ref (B + 410 + 0)), (1, .ref (B + 0)), (0, .ref b)]) (hi : i + 4 < L) (hL : L ≤ 2560)
    (kk : ∀ (C1 M1 : hq_M) (H1 : Heap) (locs1 : List Loc), JJ (u + 1) C1 M1 → l_S D cA B C1 M1 s.heap H1 locs1 → W p l e room_1 s m #[Value.ref b] below meth c H1 locs1 444 15984 Q (F0 m 839 ls [])) : W p l e room_1 s m #[Value.ref b] below meth c H locs 444 15984 Q (F0 m 445 ls []) := by
  refine lv_aload_n LC.1.1 LC.1.2.1 dL_law_445 rfl (lv_at hl 2 rfl) ?_
  refine l_arg (k := 1) LC h hX hb hl (by omega) hL dL_law_446 dL_law_447 dL_law_448 dL_law_449 dL_law_450 ?_
  refine l_arg (k := 2) LC h hX hb hl (by omega) hL dL_law_451 dL_law_452 dL_law_453 dL_law_454 dL_law_455 ?_
  refine l_cC (n := 2) (rest := []) LC h (c_X11_gives l (l_Zo (fun _ hq => hq.1)) _ (w3_rg _) _ (w3_rg _) C _ (o_gives hJ _ _)) gL_law_X11_gives rfl ⟨rfl, rfl⟩ ⟨rfl, by decide, by decide, by decide +kernel⟩ ⟨Nat.le_of_ble_eq_true rfl, Nat.le_of_ble_eq_true rfl⟩ rfl hl.1 rfl (Nat.le_of_ble_eq_true rfl) dL_law_456 (fun v C1 H locs hq h => ?_)
  obtain ⟨z, rfl, rz, hw⟩ := hq
  refine lv_aload_n LC.1.1 LC.1.2.1 dL_law_459 rfl (lv_at hl 1 rfl) ?_
  refine l_arg (k := 1) LC h hX hb hl (by omega) hL dL_law_460 dL_law_461 dL_law_462 dL_law_463 dL_law_464 ?_
  refine l_arg (k := 2) LC h hX hb hl (by omega) hL dL_law_465 dL_law_466 dL_law_467 dL_law_468 dL_law_469 ?_
  refine l_cM (n := 2) (rest := [.int (w3 z)]) LC h (c_X12_gives l (l_Zo (fun _ hq => l_inM hq)) _ (w3_rg _) _ (w3_rg _) M _ hw) gL_law_X12_gives rfl ⟨rfl, rfl⟩ ⟨rfl, by decide, by decide, by decide +kernel⟩ ⟨Nat.le_of_ble_eq_true rfl, Nat.le_of_ble_eq_true rfl⟩ rfl hl.1 rfl (Nat.le_of_ble_eq_true rfl) dL_law_470 (fun v M1 H locs hq h => ?_)
  obtain ⟨z1, rfl, rz1, ez, hJ1⟩ := hq
  subst ez
  exact hq_icmp_eq (tgt := 839) LC rz rz1 dL_law_473 rfl (fun _ => kk _ _ _ _ (hJ1.mono (by omega)) h) (fun hne => absurd rfl hne)
set_option maxHeartbeats 4000000 in
set_option maxRecDepth 100000 in
theorem l_k14 (LC : l_C p m c s b meth D cA hqS hqV B) (h : l_S D cA B C M s.heap H locs) (hJ : JJ u C M) (hu : 8 * u + 8 ≤ 800000) (hX : va_X b L xs s s.heap) (hb : b < s.heap.size ∧ b < B) (hl : lv_has ls 4 [(3, .int (w3 (i : Int))), (2, .ref (B + 410 + 0)), (1, .ref (B + 0)), (0, .ref b)]) (hi : i + 4 < L) (hL : L ≤ 2560)
    (kk : ∀ (C1 M1 : hq_M) (H1 : Heap) (locs1 : List Loc), JJ (u + 1) C1 M1 → l_S D cA B C1 M1 s.heap H1 locs1 → W p l e room_1 s m #[Value.ref b] below meth c H1 locs1 444 15984 Q (F0 m 839 ls [])) : W p l e room_1 s m #[Value.ref b] below meth c H locs 444 15984 Q (F0 m 478 ls []) := by
  refine lv_aload_n LC.1.1 LC.1.2.1 dL_law_478 rfl (lv_at hl 2 rfl) ?_
  refine l_arg (k := 1) LC h hX hb hl (by omega) hL dL_law_479 dL_law_480 dL_law_481 dL_law_482 dL_law_483 ?_
  refine l_cC (n := 1) (rest := []) LC h (c_X11_quits l (l_Zo (fun _ hq => hq.1)) _ (w3_rg _) C _ (o_quits hJ _)) gL_law_X11_quits rfl ⟨rfl, rfl⟩ ⟨rfl, by decide, by decide, by decide +kernel⟩ ⟨Nat.le_of_ble_eq_true rfl, Nat.le_of_ble_eq_true rfl⟩ rfl hl.1 rfl (Nat.le_of_ble_eq_true rfl) dL_law_484 (fun v C1 H locs hq h => ?_)
  obtain ⟨z, rfl, rz, hw⟩ := hq
  refine lv_aload_n LC.1.1 LC.1.2.1 dL_law_487 rfl (lv_at hl 1 rfl) ?_
  refine l_arg (k := 1) LC h hX hb hl (by omega) hL dL_law_488 dL_law_489 dL_law_490 dL_law_491 dL_law_492 ?_
  refine l_cM (n := 1) (rest := [.int (w3 z)]) LC h (c_X12_quits l (l_Zo (fun _ hq => l_inM hq)) _ (w3_rg _) M _ hw) gL_law_X12_quits rfl ⟨rfl, rfl⟩ ⟨rfl, by decide, by decide, by decide +kernel⟩ ⟨Nat.le_of_ble_eq_true rfl, Nat.le_of_ble_eq_true rfl⟩ rfl hl.1 rfl (Nat.le_of_ble_eq_true rfl) dL_law_493 (fun v M1 H locs hq h => ?_)
  obtain ⟨z1, rfl, rz1, ez, hJ1⟩ := hq
  subst ez
  exact hq_icmp_eq (tgt := 839) LC rz rz1 dL_law_496 rfl (fun _ => kk _ _ _ _ (hJ1.mono (by omega)) h) (fun hne => absurd rfl hne)
set_option maxHeartbeats 4000000 in
set_option maxRecDepth 100000 in
theorem l_k15 (LC : l_C p m c s b meth D cA hqS hqV B) (h : l_S D cA B C M s.heap H locs) (hJ : JJ u C M) (hu : 8 * u + 8 ≤ 800000) (hX : va_X b L xs s s.heap) (hb : b < s.heap.size ∧ b < B) (hl : lv_has ls 4 [(3, .int (w3 (i : Int))), (2, .ref (B + 410 + 0)), (1, .ref (B + 0)), (0, .ref b)]) (hi : i + 4 < L) (hL : L ≤ 2560)
    (kk : ∀ (C1 M1 : hq_M) (H1 : Heap) (locs1 : List Loc), JJ (u + 1) C1 M1 → l_S D cA B C1 M1 s.heap H1 locs1 → W p l e room_1 s m #[Value.ref b] below meth c H1 locs1 444 15984 Q (F0 m 839 ls [])) : W p l e room_1 s m #[Value.ref b] below meth c H locs 444 15984 Q (F0 m 501 ls []) := by
  refine lv_aload_n LC.1.1 LC.1.2.1 dL_law_501 rfl (lv_at hl 2 rfl) ?_
  refine l_cC (n := 0) (rest := []) LC h (c_X11_grows l (l_Zo (fun _ hq => hq.1))  C _ (o_grows hJ)) gL_law_X11_grows rfl ⟨rfl, rfl⟩ ⟨rfl, by decide, by decide, by decide +kernel⟩ ⟨Nat.le_of_ble_eq_true rfl, Nat.le_of_ble_eq_true rfl⟩ rfl hl.1 rfl (Nat.le_of_ble_eq_true rfl) dL_law_502 (fun v C1 H locs hq h => ?_)
  obtain ⟨z, rfl, rz, hw⟩ := hq
  refine lv_aload_n LC.1.1 LC.1.2.1 dL_law_505 rfl (lv_at hl 1 rfl) ?_
  refine l_cM (n := 0) (rest := [.int (w3 z)]) LC h (c_X12_grows l (l_Zo (fun _ hq => l_inM hq))  M _ hw) gL_law_X12_grows rfl ⟨rfl, rfl⟩ ⟨rfl, by decide, by decide, by decide +kernel⟩ ⟨Nat.le_of_ble_eq_true rfl, Nat.le_of_ble_eq_true rfl⟩ rfl hl.1 rfl (Nat.le_of_ble_eq_true rfl) dL_law_506 (fun v M1 H locs hq h => ?_)
  obtain ⟨z1, rfl, rz1, ez, hJ1⟩ := hq
  subst ez
  exact hq_icmp_eq (tgt := 839) LC rz rz1 dL_law_509 rfl (fun _ => kk _ _ _ _ (hJ1.mono (by omega)) h) (fun hne => absurd rfl hne)
set_option maxHeartbeats 4000000 in
set_option maxRecDepth 100000 in
theorem l_k16 (LC : l_C p m c s b meth D cA hqS hqV B) (h : l_S D cA B C M s.heap H locs) (hJ : JJ u C M) (hu : 8 * u + 8 ≤ 800000) (hX : va_X b L xs s s.heap) (hb : b < s.heap.size ∧ b < B) (hl : lv_has ls 4 [(3, .int (w3 (i : Int))), (2, .ref (B + 410 + 0)), (1, .ref (B + 0)), (0, .ref b)]) (hi : i + 4 < L) (hL : L ≤ 2560)
    (kk : ∀ (C1 M1 : hq_M) (H1 : Heap) (locs1 : List Loc), JJ (u + 1) C1 M1 → l_S D cA B C1 M1 s.heap H1 locs1 → W p l e room_1 s m #[Value.ref b] below meth c H1 locs1 444 15984 Q (F0 m 839 ls [])) : W p l e room_1 s m #[Value.ref b] below meth c H locs 444 15984 Q (F0 m 514 ls []) := by
  refine lv_aload_n LC.1.1 LC.1.2.1 dL_law_514 rfl (lv_at hl 2 rfl) ?_
  refine l_arg (k := 1) LC h hX hb hl (by omega) hL dL_law_515 dL_law_516 dL_law_517 dL_law_518 dL_law_519 ?_
  refine l_cC (n := 1) (rest := []) LC h (c_X11_hears l (l_Zo (fun _ hq => hq.1)) _ (w3_rg _) C _ (o_hears hJ _)) gL_law_X11_hears rfl ⟨rfl, rfl⟩ ⟨rfl, by decide, by decide, by decide +kernel⟩ ⟨Nat.le_of_ble_eq_true rfl, Nat.le_of_ble_eq_true rfl⟩ rfl hl.1 rfl (Nat.le_of_ble_eq_true rfl) dL_law_520 (fun v C1 H locs hq h => ?_)
  obtain ⟨z, rfl, rz, hw⟩ := hq
  refine lv_aload_n LC.1.1 LC.1.2.1 dL_law_523 rfl (lv_at hl 1 rfl) ?_
  refine l_arg (k := 1) LC h hX hb hl (by omega) hL dL_law_524 dL_law_525 dL_law_526 dL_law_527 dL_law_528 ?_
  refine l_cM (n := 1) (rest := [.int (w3 z)]) LC h (c_X12_hears l (l_Zo (fun _ hq => l_inM hq)) _ (w3_rg _) M _ hw) gL_law_X12_hears rfl ⟨rfl, rfl⟩ ⟨rfl, by decide, by decide, by decide +kernel⟩ ⟨Nat.le_of_ble_eq_true rfl, Nat.le_of_ble_eq_true rfl⟩ rfl hl.1 rfl (Nat.le_of_ble_eq_true rfl) dL_law_529 (fun v M1 H locs hq h => ?_)
  obtain ⟨z1, rfl, rz1, ez, hJ1⟩ := hq
  subst ez
  exact hq_icmp_eq (tgt := 839) LC rz rz1 dL_law_532 rfl (fun _ => kk _ _ _ _ (hJ1.mono (by omega)) h) (fun hne => absurd rfl hne)
set_option maxHeartbeats 4000000 in
set_option maxRecDepth 100000 in
theorem l_k17 (LC : l_C p m c s b meth D cA hqS hqV B) (h : l_S D cA B C M s.heap H locs) (hJ : JJ u C M) (hu : 8 * u + 8 ≤ 800000) (hX : va_X b L xs s s.heap) (hb : b < s.heap.size ∧ b < B) (hl : lv_has ls 4 [(3, .int (w3 (i : Int))), (2, .ref (B + 410 + 0)), (1, .ref (B + 0)), (0, .ref b)]) (hi : i + 4 < L) (hL : L ≤ 2560)
    (kk : ∀ (C1 M1 : hq_M) (H1 : Heap) (locs1 : List Loc), JJ (u + 1) C1 M1 → l_S D cA B C1 M1 s.heap H1 locs1 → W p l e room_1 s m #[Value.ref b] below meth c H1 locs1 444 15984 Q (F0 m 839 ls [])) : W p l e room_1 s m #[Value.ref b] below meth c H locs 444 15984 Q (F0 m 537 ls []) := by
  refine lv_aload_n LC.1.1 LC.1.2.1 dL_law_537 rfl (lv_at hl 2 rfl) ?_
  refine l_arg (k := 1) LC h hX hb hl (by omega) hL dL_law_538 dL_law_539 dL_law_540 dL_law_541 dL_law_542 ?_
  refine l_arg (k := 2) LC h hX hb hl (by omega) hL dL_law_543 dL_law_544 dL_law_545 dL_law_546 dL_law_547 ?_
  refine l_cC (n := 2) (rest := []) LC h (c_X11_table l (l_Zo (fun _ hq => hq.1)) _ (w3_rg _) _ (w3_rg _) C _ (o_table hJ _ _)) gL_law_X11_table rfl ⟨rfl, rfl⟩ ⟨rfl, by decide, by decide, by decide +kernel⟩ ⟨Nat.le_of_ble_eq_true rfl, Nat.le_of_ble_eq_true rfl⟩ rfl hl.1 rfl (Nat.le_of_ble_eq_true rfl) dL_law_548 (fun v C1 H locs hq h => ?_)
  obtain ⟨z, rfl, rz, eC, hw⟩ := hq
  rw [eC] at h
  refine lv_aload_n LC.1.1 LC.1.2.1 dL_law_551 rfl (lv_at hl 1 rfl) ?_
  refine l_arg (k := 1) LC h hX hb hl (by omega) hL dL_law_552 dL_law_553 dL_law_554 dL_law_555 dL_law_556 ?_
  refine l_arg (k := 2) LC h hX hb hl (by omega) hL dL_law_557 dL_law_558 dL_law_559 dL_law_560 dL_law_561 ?_
  refine l_cM (n := 2) (rest := [.int (w3 z)]) LC h (c_X12_table l (l_Zo (fun _ hq => l_inM hq)) _ (w3_rg _) _ (w3_rg _) M _ hw) gL_law_X12_table rfl ⟨rfl, rfl⟩ ⟨rfl, by decide, by decide, by decide +kernel⟩ ⟨Nat.le_of_ble_eq_true rfl, Nat.le_of_ble_eq_true rfl⟩ rfl hl.1 rfl (Nat.le_of_ble_eq_true rfl) dL_law_562 (fun v M1 H locs hq h => ?_)
  obtain ⟨z1, rfl, rz1, eM, ez⟩ := hq
  rw [eM] at h
  subst ez
  exact hq_icmp_eq (tgt := 839) LC rz rz1 dL_law_565 rfl (fun _ => kk _ _ _ _ (hJ.mono (by omega)) h) (fun hne => absurd rfl hne)
set_option maxHeartbeats 4000000 in
set_option maxRecDepth 100000 in
theorem l_k18 (LC : l_C p m c s b meth D cA hqS hqV B) (h : l_S D cA B C M s.heap H locs) (hJ : JJ u C M) (hu : 8 * u + 8 ≤ 800000) (hX : va_X b L xs s s.heap) (hb : b < s.heap.size ∧ b < B) (hl : lv_has ls 4 [(3, .int (w3 (i : Int))), (2, .ref (B + 410 + 0)), (1, .ref (B + 0)), (0, .ref b)]) (hi : i + 4 < L) (hL : L ≤ 2560)
    (kk : ∀ (C1 M1 : hq_M) (H1 : Heap) (locs1 : List Loc), JJ (u + 1) C1 M1 → l_S D cA B C1 M1 s.heap H1 locs1 → W p l e room_1 s m #[Value.ref b] below meth c H1 locs1 444 15984 Q (F0 m 839 ls [])) : W p l e room_1 s m #[Value.ref b] below meth c H locs 444 15984 Q (F0 m 570 ls []) := by
  refine lv_aload_n LC.1.1 LC.1.2.1 dL_law_570 rfl (lv_at hl 2 rfl) ?_
  refine l_arg (k := 1) LC h hX hb hl (by omega) hL dL_law_571 dL_law_572 dL_law_573 dL_law_574 dL_law_575 ?_
  refine l_arg (k := 2) LC h hX hb hl (by omega) hL dL_law_576 dL_law_577 dL_law_578 dL_law_579 dL_law_580 ?_
  refine l_arg (k := 3) LC h hX hb hl (by omega) hL dL_law_581 dL_law_582 dL_law_583 dL_law_584 dL_law_585 ?_
  refine l_cC (n := 3) (rest := []) LC h (c_X11_entry l (l_Zo (fun _ hq => hq.1)) _ (w3_rg _) _ (w3_rg _) _ (w3_rg _) C _ (o_entry hJ _ _ _)) gL_law_X11_entry rfl ⟨rfl, rfl⟩ ⟨rfl, by decide, by decide, by decide +kernel⟩ ⟨Nat.le_of_ble_eq_true rfl, Nat.le_of_ble_eq_true rfl⟩ rfl hl.1 rfl (Nat.le_of_ble_eq_true rfl) dL_law_586 (fun v C1 H locs hq h => ?_)
  obtain ⟨z, rfl, rz, eC, hw⟩ := hq
  rw [eC] at h
  refine lv_aload_n LC.1.1 LC.1.2.1 dL_law_589 rfl (lv_at hl 1 rfl) ?_
  refine l_arg (k := 1) LC h hX hb hl (by omega) hL dL_law_590 dL_law_591 dL_law_592 dL_law_593 dL_law_594 ?_
  refine l_arg (k := 2) LC h hX hb hl (by omega) hL dL_law_595 dL_law_596 dL_law_597 dL_law_598 dL_law_599 ?_
  refine l_arg (k := 3) LC h hX hb hl (by omega) hL dL_law_600 dL_law_601 dL_law_602 dL_law_603 dL_law_604 ?_
  refine l_cM (n := 3) (rest := [.int (w3 z)]) LC h (c_X12_entry l (l_Zo (fun _ hq => l_inM hq)) _ (w3_rg _) _ (w3_rg _) _ (w3_rg _) M _ hw) gL_law_X12_entry rfl ⟨rfl, rfl⟩ ⟨rfl, by decide, by decide, by decide +kernel⟩ ⟨Nat.le_of_ble_eq_true rfl, Nat.le_of_ble_eq_true rfl⟩ rfl hl.1 rfl (Nat.le_of_ble_eq_true rfl) dL_law_605 (fun v M1 H locs hq h => ?_)
  obtain ⟨z1, rfl, rz1, eM, ez⟩ := hq
  rw [eM] at h
  subst ez
  exact hq_icmp_eq (tgt := 839) LC rz rz1 dL_law_608 rfl (fun _ => kk _ _ _ _ (hJ.mono (by omega)) h) (fun hne => absurd rfl hne)
set_option maxHeartbeats 4000000 in
set_option maxRecDepth 100000 in
theorem l_k19 (LC : l_C p m c s b meth D cA hqS hqV B) (h : l_S D cA B C M s.heap H locs) (hJ : JJ u C M) (hu : 8 * u + 8 ≤ 800000) (hX : va_X b L xs s s.heap) (hb : b < s.heap.size ∧ b < B) (hl : lv_has ls 4 [(3, .int (w3 (i : Int))), (2, .ref (B + 410 + 0)), (1, .ref (B + 0)), (0, .ref b)]) (hi : i + 4 < L) (hL : L ≤ 2560)
    (kk : ∀ (C1 M1 : hq_M) (H1 : Heap) (locs1 : List Loc), JJ (u + 1) C1 M1 → l_S D cA B C1 M1 s.heap H1 locs1 → W p l e room_1 s m #[Value.ref b] below meth c H1 locs1 444 15984 Q (F0 m 839 ls [])) : W p l e room_1 s m #[Value.ref b] below meth c H locs 444 15984 Q (F0 m 613 ls []) := by
  refine lv_aload_n LC.1.1 LC.1.2.1 dL_law_613 rfl (lv_at hl 2 rfl) ?_
  refine l_arg (k := 1) LC h hX hb hl (by omega) hL dL_law_614 dL_law_615 dL_law_616 dL_law_617 dL_law_618 ?_
  refine l_cC (n := 1) (rest := []) LC h (c_X11_holds l (l_Zo (fun _ hq => hq.1)) _ (w3_rg _) C _ (o_holds hJ _)) gL_law_X11_holds rfl ⟨rfl, rfl⟩ ⟨rfl, by decide, by decide, by decide +kernel⟩ ⟨Nat.le_of_ble_eq_true rfl, Nat.le_of_ble_eq_true rfl⟩ rfl hl.1 rfl (Nat.le_of_ble_eq_true rfl) dL_law_619 (fun v C1 H locs hq h => ?_)
  obtain ⟨z, rfl, rz, eC, hw⟩ := hq
  rw [eC] at h
  refine lv_aload_n LC.1.1 LC.1.2.1 dL_law_622 rfl (lv_at hl 1 rfl) ?_
  refine l_arg (k := 1) LC h hX hb hl (by omega) hL dL_law_623 dL_law_624 dL_law_625 dL_law_626 dL_law_627 ?_
  refine l_cM (n := 1) (rest := [.long (w6 z)]) LC h (c_X12_holds l (l_Zo (fun _ hq => l_inM hq)) _ (w3_rg _) M _ hw) gL_law_X12_holds rfl ⟨rfl, rfl⟩ ⟨rfl, by decide, by decide, by decide +kernel⟩ ⟨Nat.le_of_ble_eq_true rfl, Nat.le_of_ble_eq_true rfl⟩ rfl hl.1 rfl (Nat.le_of_ble_eq_true rfl) dL_law_628 (fun v M1 H locs hq h => ?_)
  obtain ⟨z1, rfl, rz1, eM, ez⟩ := hq
  rw [eM] at h
  subst ez
  exact hq_lcmp_eq (tgt := 839) LC rz rz1 dL_law_631 dL_law_632 rfl (fun _ => kk _ _ _ _ (hJ.mono (by omega)) h) (fun hne => absurd rfl hne)
set_option maxHeartbeats 4000000 in
set_option maxRecDepth 100000 in
theorem l_k20 (LC : l_C p m c s b meth D cA hqS hqV B) (h : l_S D cA B C M s.heap H locs) (hJ : JJ u C M) (hu : 8 * u + 8 ≤ 800000) (hX : va_X b L xs s s.heap) (hb : b < s.heap.size ∧ b < B) (hl : lv_has ls 4 [(3, .int (w3 (i : Int))), (2, .ref (B + 410 + 0)), (1, .ref (B + 0)), (0, .ref b)]) (hi : i + 4 < L) (hL : L ≤ 2560)
    (kk : ∀ (C1 M1 : hq_M) (H1 : Heap) (locs1 : List Loc), JJ (u + 1) C1 M1 → l_S D cA B C1 M1 s.heap H1 locs1 → W p l e room_1 s m #[Value.ref b] below meth c H1 locs1 444 15984 Q (F0 m 839 ls [])) : W p l e room_1 s m #[Value.ref b] below meth c H locs 444 15984 Q (F0 m 637 ls []) := by
  refine lv_aload_n LC.1.1 LC.1.2.1 dL_law_637 rfl (lv_at hl 2 rfl) ?_
  refine l_arg (k := 1) LC h hX hb hl (by omega) hL dL_law_638 dL_law_639 dL_law_640 dL_law_641 dL_law_642 ?_
  refine l_arg (k := 2) LC h hX hb hl (by omega) hL dL_law_643 dL_law_644 dL_law_645 dL_law_646 dL_law_647 ?_
  refine l_cC (n := 2) (rest := []) LC h (c_X11_letter l (l_Zo (fun _ hq => hq.1)) _ (w3_rg _) _ (w3_rg _) C _ (o_letter hJ _ _)) gL_law_X11_letter rfl ⟨rfl, rfl⟩ ⟨rfl, by decide, by decide, by decide +kernel⟩ ⟨Nat.le_of_ble_eq_true rfl, Nat.le_of_ble_eq_true rfl⟩ rfl hl.1 rfl (Nat.le_of_ble_eq_true rfl) dL_law_648 (fun v C1 H locs hq h => ?_)
  obtain ⟨z, rfl, rz, eC, hw⟩ := hq
  rw [eC] at h
  refine lv_aload_n LC.1.1 LC.1.2.1 dL_law_651 rfl (lv_at hl 1 rfl) ?_
  refine l_arg (k := 1) LC h hX hb hl (by omega) hL dL_law_652 dL_law_653 dL_law_654 dL_law_655 dL_law_656 ?_
  refine l_arg (k := 2) LC h hX hb hl (by omega) hL dL_law_657 dL_law_658 dL_law_659 dL_law_660 dL_law_661 ?_
  refine l_cM (n := 2) (rest := [.int (w3 z)]) LC h (c_X12_letter l (l_Zo (fun _ hq => l_inM hq)) _ (w3_rg _) _ (w3_rg _) M _ hw) gL_law_X12_letter rfl ⟨rfl, rfl⟩ ⟨rfl, by decide, by decide, by decide +kernel⟩ ⟨Nat.le_of_ble_eq_true rfl, Nat.le_of_ble_eq_true rfl⟩ rfl hl.1 rfl (Nat.le_of_ble_eq_true rfl) dL_law_662 (fun v M1 H locs hq h => ?_)
  obtain ⟨z1, rfl, rz1, eM, ez⟩ := hq
  rw [eM] at h
  subst ez
  exact hq_icmp_eq (tgt := 839) LC rz rz1 dL_law_665 rfl (fun _ => kk _ _ _ _ (hJ.mono (by omega)) h) (fun hne => absurd rfl hne)
set_option maxHeartbeats 4000000 in
set_option maxRecDepth 100000 in
theorem l_k21 (LC : l_C p m c s b meth D cA hqS hqV B) (h : l_S D cA B C M s.heap H locs) (hJ : JJ u C M) (hu : 8 * u + 8 ≤ 800000) (hX : va_X b L xs s s.heap) (hb : b < s.heap.size ∧ b < B) (hl : lv_has ls 4 [(3, .int (w3 (i : Int))), (2, .ref (B + 410 + 0)), (1, .ref (B + 0)), (0, .ref b)]) (hi : i + 4 < L) (hL : L ≤ 2560)
    (kk : ∀ (C1 M1 : hq_M) (H1 : Heap) (locs1 : List Loc), JJ (u + 1) C1 M1 → l_S D cA B C1 M1 s.heap H1 locs1 → W p l e room_1 s m #[Value.ref b] below meth c H1 locs1 444 15984 Q (F0 m 839 ls [])) : W p l e room_1 s m #[Value.ref b] below meth c H locs 444 15984 Q (F0 m 670 ls []) := by
  refine lv_aload_n LC.1.1 LC.1.2.1 dL_law_670 rfl (lv_at hl 2 rfl) ?_
  refine l_arg (k := 1) LC h hX hb hl (by omega) hL dL_law_671 dL_law_672 dL_law_673 dL_law_674 dL_law_675 ?_
  refine l_arg (k := 2) LC h hX hb hl (by omega) hL dL_law_676 dL_law_677 dL_law_678 dL_law_679 dL_law_680 ?_
  refine l_cC (n := 2) (rest := []) LC h (c_X11_got l (l_Zo (fun _ hq => hq.1)) _ (w3_rg _) _ (w3_rg _) C _ (o_got hJ _ _)) gL_law_X11_got rfl ⟨rfl, rfl⟩ ⟨rfl, by decide, by decide, by decide +kernel⟩ ⟨Nat.le_of_ble_eq_true rfl, Nat.le_of_ble_eq_true rfl⟩ rfl hl.1 rfl (Nat.le_of_ble_eq_true rfl) dL_law_681 (fun v C1 H locs hq h => ?_)
  obtain ⟨z, rfl, rz, eC, hw⟩ := hq
  rw [eC] at h
  refine lv_aload_n LC.1.1 LC.1.2.1 dL_law_684 rfl (lv_at hl 1 rfl) ?_
  refine l_arg (k := 1) LC h hX hb hl (by omega) hL dL_law_685 dL_law_686 dL_law_687 dL_law_688 dL_law_689 ?_
  refine l_arg (k := 2) LC h hX hb hl (by omega) hL dL_law_690 dL_law_691 dL_law_692 dL_law_693 dL_law_694 ?_
  refine l_cM (n := 2) (rest := [.int (w3 z)]) LC h (c_X12_got l (l_Zo (fun _ hq => l_inM hq)) _ (w3_rg _) _ (w3_rg _) M _ hw) gL_law_X12_got rfl ⟨rfl, rfl⟩ ⟨rfl, by decide, by decide, by decide +kernel⟩ ⟨Nat.le_of_ble_eq_true rfl, Nat.le_of_ble_eq_true rfl⟩ rfl hl.1 rfl (Nat.le_of_ble_eq_true rfl) dL_law_695 (fun v M1 H locs hq h => ?_)
  obtain ⟨z1, rfl, rz1, eM, ez⟩ := hq
  rw [eM] at h
  subst ez
  exact hq_icmp_eq (tgt := 839) LC rz rz1 dL_law_698 rfl (fun _ => kk _ _ _ _ (hJ.mono (by omega)) h) (fun hne => absurd rfl hne)
set_option maxHeartbeats 4000000 in
set_option maxRecDepth 100000 in
theorem l_k22 (LC : l_C p m c s b meth D cA hqS hqV B) (h : l_S D cA B C M s.heap H locs) (hJ : JJ u C M) (hu : 8 * u + 8 ≤ 800000) (hX : va_X b L xs s s.heap) (hb : b < s.heap.size ∧ b < B) (hl : lv_has ls 4 [(3, .int (w3 (i : Int))), (2, .ref (B + 410 + 0)), (1, .ref (B + 0)), (0, .ref b)]) (hi : i + 4 < L) (hL : L ≤ 2560)
    (kk : ∀ (C1 M1 : hq_M) (H1 : Heap) (locs1 : List Loc), JJ (u + 1) C1 M1 → l_S D cA B C1 M1 s.heap H1 locs1 → W p l e room_1 s m #[Value.ref b] below meth c H1 locs1 444 15984 Q (F0 m 839 ls [])) : W p l e room_1 s m #[Value.ref b] below meth c H locs 444 15984 Q (F0 m 703 ls []) := by
  refine lv_aload_n LC.1.1 LC.1.2.1 dL_law_703 rfl (lv_at hl 2 rfl) ?_
  refine l_arg (k := 1) LC h hX hb hl (by omega) hL dL_law_704 dL_law_705 dL_law_706 dL_law_707 dL_law_708 ?_
  refine l_cC (n := 1) (rest := []) LC h (c_X11_waits l (l_Zo (fun _ hq => hq.1)) _ (w3_rg _) C _ (o_waits hJ _ (w3_rg _))) gL_law_X11_waits rfl ⟨rfl, rfl⟩ ⟨rfl, by decide, by decide, by decide +kernel⟩ ⟨Nat.le_of_ble_eq_true rfl, Nat.le_of_ble_eq_true rfl⟩ rfl hl.1 rfl (Nat.le_of_ble_eq_true rfl) dL_law_709 (fun v C1 H locs hq h => ?_)
  obtain ⟨z, rfl, rz, eC, hw⟩ := hq
  rw [eC] at h
  refine lv_aload_n LC.1.1 LC.1.2.1 dL_law_712 rfl (lv_at hl 1 rfl) ?_
  refine l_arg (k := 1) LC h hX hb hl (by omega) hL dL_law_713 dL_law_714 dL_law_715 dL_law_716 dL_law_717 ?_
  refine l_cM (n := 1) (rest := [.int (w3 z)]) LC h (c_X12_waits l (l_Zo (fun _ hq => l_inM hq)) _ (w3_rg _) M _ hw) gL_law_X12_waits rfl ⟨rfl, rfl⟩ ⟨rfl, by decide, by decide, by decide +kernel⟩ ⟨Nat.le_of_ble_eq_true rfl, Nat.le_of_ble_eq_true rfl⟩ rfl hl.1 rfl (Nat.le_of_ble_eq_true rfl) dL_law_718 (fun v M1 H locs hq h => ?_)
  obtain ⟨z1, rfl, rz1, eM, ez⟩ := hq
  rw [eM] at h
  subst ez
  exact hq_icmp_eq (tgt := 839) LC rz rz1 dL_law_721 rfl (fun _ => kk _ _ _ _ (hJ.mono (by omega)) h) (fun hne => absurd rfl hne)
set_option maxHeartbeats 4000000 in
set_option maxRecDepth 100000 in
theorem l_k23 (LC : l_C p m c s b meth D cA hqS hqV B) (h : l_S D cA B C M s.heap H locs) (hJ : JJ u C M) (hu : 8 * u + 8 ≤ 800000) (hX : va_X b L xs s s.heap) (hb : b < s.heap.size ∧ b < B) (hl : lv_has ls 4 [(3, .int (w3 (i : Int))), (2, .ref (B + 410 + 0)), (1, .ref (B + 0)), (0, .ref b)]) (hi : i + 4 < L) (hL : L ≤ 2560)
    (kk : ∀ (C1 M1 : hq_M) (H1 : Heap) (locs1 : List Loc), JJ (u + 1) C1 M1 → l_S D cA B C1 M1 s.heap H1 locs1 → W p l e room_1 s m #[Value.ref b] below meth c H1 locs1 444 15984 Q (F0 m 839 ls [])) : W p l e room_1 s m #[Value.ref b] below meth c H locs 444 15984 Q (F0 m 726 ls []) := by
  refine lv_aload_n LC.1.1 LC.1.2.1 dL_law_726 rfl (lv_at hl 2 rfl) ?_
  refine l_arg (k := 1) LC h hX hb hl (by omega) hL dL_law_727 dL_law_728 dL_law_729 dL_law_730 dL_law_731 ?_
  refine l_arg (k := 2) LC h hX hb hl (by omega) hL dL_law_732 dL_law_733 dL_law_734 dL_law_735 dL_law_736 ?_
  refine l_cC (n := 2) (rest := []) LC h (c_X11_octet l (l_Zo (fun _ hq => hq.1)) _ (w3_rg _) _ (w3_rg _) C _ (o_octet hJ _ _)) gL_law_X11_octet rfl ⟨rfl, rfl⟩ ⟨rfl, by decide, by decide, by decide +kernel⟩ ⟨Nat.le_of_ble_eq_true rfl, Nat.le_of_ble_eq_true rfl⟩ rfl hl.1 rfl (Nat.le_of_ble_eq_true rfl) dL_law_737 (fun v C1 H locs hq h => ?_)
  obtain ⟨z, rfl, rz, eC, hw⟩ := hq
  rw [eC] at h
  refine lv_aload_n LC.1.1 LC.1.2.1 dL_law_740 rfl (lv_at hl 1 rfl) ?_
  refine l_arg (k := 1) LC h hX hb hl (by omega) hL dL_law_741 dL_law_742 dL_law_743 dL_law_744 dL_law_745 ?_
  refine l_arg (k := 2) LC h hX hb hl (by omega) hL dL_law_746 dL_law_747 dL_law_748 dL_law_749 dL_law_750 ?_
  refine l_cM (n := 2) (rest := [.int (w3 z)]) LC h (c_X12_octet l (l_Zo (fun _ hq => l_inM hq)) _ (w3_rg _) _ (w3_rg _) M _ hw) gL_law_X12_octet rfl ⟨rfl, rfl⟩ ⟨rfl, by decide, by decide, by decide +kernel⟩ ⟨Nat.le_of_ble_eq_true rfl, Nat.le_of_ble_eq_true rfl⟩ rfl hl.1 rfl (Nat.le_of_ble_eq_true rfl) dL_law_751 (fun v M1 H locs hq h => ?_)
  obtain ⟨z1, rfl, rz1, eM, ez⟩ := hq
  rw [eM] at h
  subst ez
  exact hq_icmp_eq (tgt := 839) LC rz rz1 dL_law_754 rfl (fun _ => kk _ _ _ _ (hJ.mono (by omega)) h) (fun hne => absurd rfl hne)
set_option maxHeartbeats 4000000 in
set_option maxRecDepth 100000 in
theorem l_k24 (LC : l_C p m c s b meth D cA hqS hqV B) (h : l_S D cA B C M s.heap H locs) (hJ : JJ u C M) (hu : 8 * u + 8 ≤ 800000) (hX : va_X b L xs s s.heap) (hb : b < s.heap.size ∧ b < B) (hl : lv_has ls 4 [(3, .int (w3 (i : Int))), (2, .ref (B + 410 + 0)), (1, .ref (B + 0)), (0, .ref b)]) (hi : i + 4 < L) (hL : L ≤ 2560)
    (kk : ∀ (C1 M1 : hq_M) (H1 : Heap) (locs1 : List Loc), JJ (u + 1) C1 M1 → l_S D cA B C1 M1 s.heap H1 locs1 → W p l e room_1 s m #[Value.ref b] below meth c H1 locs1 444 15984 Q (F0 m 839 ls [])) : W p l e room_1 s m #[Value.ref b] below meth c H locs 444 15984 Q (F0 m 759 ls []) := by
  refine lv_aload_n LC.1.1 LC.1.2.1 dL_law_759 rfl (lv_at hl 2 rfl) ?_
  refine l_arg (k := 1) LC h hX hb hl (by omega) hL dL_law_760 dL_law_761 dL_law_762 dL_law_763 dL_law_764 ?_
  refine l_arg (k := 2) LC h hX hb hl (by omega) hL dL_law_765 dL_law_766 dL_law_767 dL_law_768 dL_law_769 ?_
  refine l_cC (n := 2) (rest := []) LC h (c_X11_coded l (l_Zo (fun _ hq => hq.1)) _ (w3_rg _) _ (w3_rg _) C _ (o_coded hJ _ _ (w3_rg _))) gL_law_X11_coded rfl ⟨rfl, rfl⟩ ⟨rfl, by decide, by decide, by decide +kernel⟩ ⟨Nat.le_of_ble_eq_true rfl, Nat.le_of_ble_eq_true rfl⟩ rfl hl.1 rfl (Nat.le_of_ble_eq_true rfl) dL_law_770 (fun v C1 H locs hq h => ?_)
  obtain ⟨z, rfl, rz, hw⟩ := hq
  refine lv_aload_n LC.1.1 LC.1.2.1 dL_law_773 rfl (lv_at hl 1 rfl) ?_
  refine l_arg (k := 1) LC h hX hb hl (by omega) hL dL_law_774 dL_law_775 dL_law_776 dL_law_777 dL_law_778 ?_
  refine l_arg (k := 2) LC h hX hb hl (by omega) hL dL_law_779 dL_law_780 dL_law_781 dL_law_782 dL_law_783 ?_
  refine l_cM (n := 2) (rest := [.long (w6 z)]) LC h (c_X12_coded l (l_Zo (fun _ hq => l_inM hq)) _ (w3_rg _) _ (w3_rg _) M _ hw) gL_law_X12_coded rfl ⟨rfl, rfl⟩ ⟨rfl, by decide, by decide, by decide +kernel⟩ ⟨Nat.le_of_ble_eq_true rfl, Nat.le_of_ble_eq_true rfl⟩ rfl hl.1 rfl (Nat.le_of_ble_eq_true rfl) dL_law_784 (fun v M1 H locs hq h => ?_)
  obtain ⟨z1, rfl, rz1, ez, hJ1⟩ := hq
  subst ez
  exact hq_lcmp_eq (tgt := 839) LC rz rz1 dL_law_787 dL_law_788 rfl (fun _ => kk _ _ _ _ (hJ1.mono (by omega)) h) (fun hne => absurd rfl hne)
set_option maxHeartbeats 4000000 in
set_option maxRecDepth 100000 in
theorem l_k25 (LC : l_C p m c s b meth D cA hqS hqV B) (h : l_S D cA B C M s.heap H locs) (hJ : JJ u C M) (hu : 8 * u + 8 ≤ 800000) (hX : va_X b L xs s s.heap) (hb : b < s.heap.size ∧ b < B) (hl : lv_has ls 4 [(3, .int (w3 (i : Int))), (2, .ref (B + 410 + 0)), (1, .ref (B + 0)), (0, .ref b)]) (hi : i + 4 < L) (hL : L ≤ 2560)
    (kk : ∀ (C1 M1 : hq_M) (H1 : Heap) (locs1 : List Loc), JJ (u + 1) C1 M1 → l_S D cA B C1 M1 s.heap H1 locs1 → W p l e room_1 s m #[Value.ref b] below meth c H1 locs1 444 15984 Q (F0 m 839 ls [])) : W p l e room_1 s m #[Value.ref b] below meth c H locs 444 15984 Q (F0 m 793 ls []) := by
  refine lv_aload_n LC.1.1 LC.1.2.1 dL_law_793 rfl (lv_at hl 2 rfl) ?_
  refine l_arg (k := 1) LC h hX hb hl (by omega) hL dL_law_794 dL_law_795 dL_law_796 dL_law_797 dL_law_798 ?_
  refine l_cC (n := 1) (rest := []) LC h (c_X11_number l (l_Zo (fun _ hq => hq.1)) _ (w3_rg _) C _ (o_number hJ _)) gL_law_X11_number rfl ⟨rfl, rfl⟩ ⟨rfl, by decide, by decide, by decide +kernel⟩ ⟨Nat.le_of_ble_eq_true rfl, Nat.le_of_ble_eq_true rfl⟩ rfl hl.1 rfl (Nat.le_of_ble_eq_true rfl) dL_law_799 (fun v C1 H locs hq h => ?_)
  obtain ⟨z, rfl, rz, eC, hw⟩ := hq
  rw [eC] at h
  refine lv_aload_n LC.1.1 LC.1.2.1 dL_law_802 rfl (lv_at hl 1 rfl) ?_
  refine l_arg (k := 1) LC h hX hb hl (by omega) hL dL_law_803 dL_law_804 dL_law_805 dL_law_806 dL_law_807 ?_
  refine l_cM (n := 1) (rest := [.int (w3 z)]) LC h (c_X12_number l (l_Zo (fun _ hq => l_inM hq)) _ (w3_rg _) M _ hw) gL_law_X12_number rfl ⟨rfl, rfl⟩ ⟨rfl, by decide, by decide, by decide +kernel⟩ ⟨Nat.le_of_ble_eq_true rfl, Nat.le_of_ble_eq_true rfl⟩ rfl hl.1 rfl (Nat.le_of_ble_eq_true rfl) dL_law_808 (fun v M1 H locs hq h => ?_)
  obtain ⟨z1, rfl, rz1, eM, ez⟩ := hq
  rw [eM] at h
  subst ez
  exact hq_icmp_eq (tgt := 839) LC rz rz1 dL_law_811 rfl (fun _ => kk _ _ _ _ (hJ.mono (by omega)) h) (fun hne => absurd rfl hne)
set_option maxHeartbeats 4000000 in
set_option maxRecDepth 100000 in
theorem l_k26 (LC : l_C p m c s b meth D cA hqS hqV B) (h : l_S D cA B C M s.heap H locs) (hJ : JJ u C M) (hu : 8 * u + 8 ≤ 800000) (hX : va_X b L xs s s.heap) (hb : b < s.heap.size ∧ b < B) (hl : lv_has ls 4 [(3, .int (w3 (i : Int))), (2, .ref (B + 410 + 0)), (1, .ref (B + 0)), (0, .ref b)]) (hi : i + 4 < L) (hL : L ≤ 2560)
    (kk : ∀ (C1 M1 : hq_M) (H1 : Heap) (locs1 : List Loc), JJ (u + 1) C1 M1 → l_S D cA B C1 M1 s.heap H1 locs1 → W p l e room_1 s m #[Value.ref b] below meth c H1 locs1 444 15984 Q (F0 m 839 ls [])) : W p l e room_1 s m #[Value.ref b] below meth c H locs 444 15984 Q (F0 m 816 ls []) := by
  refine lv_aload_n LC.1.1 LC.1.2.1 dL_law_816 rfl (lv_at hl 2 rfl) ?_
  refine l_arg (k := 1) LC h hX hb hl (by omega) hL dL_law_817 dL_law_818 dL_law_819 dL_law_820 dL_law_821 ?_
  refine l_cC (n := 1) (rest := []) LC h (c_X11_count l (l_Zo (fun _ hq => hq.1)) _ (w3_rg _) C _ (o_count hJ _)) gL_law_X11_count rfl ⟨rfl, rfl⟩ ⟨rfl, by decide, by decide, by decide +kernel⟩ ⟨Nat.le_of_ble_eq_true rfl, Nat.le_of_ble_eq_true rfl⟩ rfl hl.1 rfl (Nat.le_of_ble_eq_true rfl) dL_law_822 (fun v C1 H locs hq h => ?_)
  obtain ⟨z, rfl, rz, eC, hw⟩ := hq
  rw [eC] at h
  refine lv_aload_n LC.1.1 LC.1.2.1 dL_law_825 rfl (lv_at hl 1 rfl) ?_
  refine l_arg (k := 1) LC h hX hb hl (by omega) hL dL_law_826 dL_law_827 dL_law_828 dL_law_829 dL_law_830 ?_
  refine l_cM (n := 1) (rest := [.int (w3 z)]) LC h (c_X12_count l (l_Zo (fun _ hq => l_inM hq)) _ (w3_rg _) M _ hw) gL_law_X12_count rfl ⟨rfl, rfl⟩ ⟨rfl, by decide, by decide, by decide +kernel⟩ ⟨Nat.le_of_ble_eq_true rfl, Nat.le_of_ble_eq_true rfl⟩ rfl hl.1 rfl (Nat.le_of_ble_eq_true rfl) dL_law_831 (fun v M1 H locs hq h => ?_)
  obtain ⟨z1, rfl, rz1, eM, ez⟩ := hq
  rw [eM] at h
  subst ez
  exact hq_icmp_eq (tgt := 839) LC rz rz1 dL_law_834 rfl (fun _ => kk _ _ _ _ (hJ.mono (by omega)) h) (fun hne => absurd rfl hne)
end LAWK
