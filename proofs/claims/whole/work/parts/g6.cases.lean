/-! THE LAW: its cases (by wip/whole/gen/lawgen2.py) -/
theorem dec_nan {x : UInt64} (hn : vf_n64 x) : FP.Core.decode FP.Core.b64 x.toNat ≠ .nan := by
  unfold vf_n64 at hn
  rw [UInt64.le_iff_toNat_le, UInt64.toNat_and] at hn
  have hn : x.toNat &&& 9223372036854775807 ≤ 9218868437227405312 := hn
  have e : x.toNat &&& 9223372036854775807 = x.toNat % 9223372036854775808 := Nat.and_two_pow_sub_one_eq_mod x.toNat 63
  rw [e] at hn
  unfold FP.Core.decode FP.Core.fieldE FP.Core.fieldT
  rw [b64t, b64e, b64q]
  by_cases c1 : x.toNat / 4503599627370496 % 2048 = 2048 - 1
  · rw [if_pos c1, if_pos (by omega)]
    exact fun h => by cases h
  · rw [if_neg c1]
    by_cases c2 : x.toNat / 4503599627370496 % 2048 = 0
    · rw [if_pos c2]
      exact fun h => by cases h
    · rw [if_neg c2]
      exact fun h => by cases h
theorem icmp_same (a : Int) : compare a a = .eq := by simp [compare, compareOfLessAndEq]
theorem dcmp_same {x y : UInt64} (h : x = y) (hn : vf_n64 y) : Op.cmpValue (FP.dcmp x y) CmpOp.l = 0 := by
  subst h
  have e : FP.dcmp x x = some .eq := by
    show FP.Core.order (FP.Core.decode FP.Core.b64 x.toNat) (FP.Core.decode FP.Core.b64 x.toNat) = some .eq
    have hd := dec_nan hn
    generalize FP.Core.decode FP.Core.b64 x.toNat = d at hd ⊢
    cases d with
    | nan => exact absurd rfl hd
    | inf s => show some (compare _ _) = _; rw [icmp_same]
    | fin s c q => show some (compare _ _) = _; rw [icmp_same]
  rw [e]
  rfl
set_option maxRecDepth 20000 in
set_option maxHeartbeats 4000000 in
theorem case_0 {G : Gt} {p : Program} {l : Launch} {e : Env} {R : Room} {s : State} {m : MethodId} {args : Array Value} {below : List Frame} {meth : Method} {c : Code} {H : Heap} {locs : List Loc} {cells slots : Nat} {Q : State → Prop} {b L cN : Nat} {xs : Nat → Int32} {i : Int32} {ls : Array Slot} {σ : St} (X : Cx G p R s m args c cells slots cL_law 10 RL 60) (hc1 : cells + 1 ≤ R.cells) (hc2 : slots + 6 ≤ R.slots) (hW : GW G σ s H locs) (hfl : l.stackTraces = false) (hX : va_X b L xs s s.heap) (hbl : b < s.heap.size) (hbA : ¬ gA G b) (hl : lv_has ls 10 (LV G b i)) (hin : ∀ k : Nat, k < 6 → vp_in (i + nI k) L) (hc : cN < 512) (I : Inv cN σ) (kk : ∀ (H1 : Heap) (locs1 : List Loc) (ls1 : Array Slot) (σ1 : St), GW G σ1 s H1 locs1 → Inv (cN + 1) σ1 → lv_has ls1 10 (LV G b i) → W p l e R s m args below meth c H1 locs1 (cells + 1) (slots + 6) Q (F0 m 1925 ls1 [])) : W p l e R s m args below meth c H locs cells slots Q (F0 m 184 ls []) := by
  have hx := X.1.1
  have hb := X.1.2.1
  have X1 : Cx G p R s m args c (cells + 1) (slots + 6) cL_law 10 RL 60 := ⟨X.1, X.2.1, X.2.2.1, X.2.2.2.1, hc1, hc2⟩
  obtain ⟨r, σ1, e0, g⟩ := op_append I (aX xs i (nI 1)) (aX xs i (nI 2)) (aX xs i (nI 3)) (aX xs i (nI 4)) (aX xs i (nI 5))
  obtain ⟨r2, σ3, e1, eb, I3, _⟩ := g _ (Un.refl _ _)
  subst eb
  refine lv_aload_n hx hb dL_law_184 rfl (lv_at hl 4 rfl) ?_
  refine law_arg (kv := nI 1) X hW hX hbl hbA (lv_at hl 5 rfl) (lv_at hl 0 rfl) rfl (hin 1 (by decide)) dL_law_185 dL_law_186 dL_law_188 dL_law_189 dL_law_190 ?_
  refine law_arg (kv := nI 2) X hW hX hbl hbA (lv_at hl 5 rfl) (lv_at hl 0 rfl) rfl (hin 2 (by decide)) dL_law_191 dL_law_192 dL_law_194 dL_law_195 dL_law_196 ?_
  refine law_arg (kv := nI 3) X hW hX hbl hbA (lv_at hl 5 rfl) (lv_at hl 0 rfl) rfl (hin 3 (by decide)) dL_law_197 dL_law_198 dL_law_200 dL_law_201 dL_law_202 ?_
  refine law_arg (kv := nI 4) X hW hX hbl hbA (lv_at hl 5 rfl) (lv_at hl 0 rfl) rfl (hin 4 (by decide)) dL_law_203 dL_law_204 dL_law_206 dL_law_207 dL_law_208 ?_
  refine law_arg (kv := nI 5) X hW hX hbl hbA (lv_at hl 5 rfl) (lv_at hl 0 rfl) rfl (hin 5 (by decide)) dL_law_209 dL_law_210 dL_law_212 dL_law_213 dL_law_214 ?_
  refine call_V1 X hW (kC_X10 k0_9) mt_2_89 mt_2_90 mt_2_91 mvD_append (c_X10_append k0_9 e0) (by decide) rfl rfl (Nat.zero_le _) hl.1 dL_law_215 ?_
  clear hW; intro H locs hW
  refine lv_aload_n hx hb dL_law_218 rfl (lv_at hl 3 rfl) ?_
  refine law_arg (kv := nI 1) X hW hX hbl hbA (lv_at hl 5 rfl) (lv_at hl 0 rfl) rfl (hin 1 (by decide)) dL_law_219 dL_law_220 dL_law_222 dL_law_223 dL_law_224 ?_
  refine law_arg (kv := nI 2) X hW hX hbl hbA (lv_at hl 5 rfl) (lv_at hl 0 rfl) rfl (hin 2 (by decide)) dL_law_225 dL_law_226 dL_law_228 dL_law_229 dL_law_230 ?_
  refine law_arg (kv := nI 3) X hW hX hbl hbA (lv_at hl 5 rfl) (lv_at hl 0 rfl) rfl (hin 3 (by decide)) dL_law_231 dL_law_232 dL_law_234 dL_law_235 dL_law_236 ?_
  refine law_arg (kv := nI 4) X hW hX hbl hbA (lv_at hl 5 rfl) (lv_at hl 0 rfl) rfl (hin 4 (by decide)) dL_law_237 dL_law_238 dL_law_240 dL_law_241 dL_law_242 ?_
  refine law_arg (kv := nI 5) X hW hX hbl hbA (lv_at hl 5 rfl) (lv_at hl 0 rfl) rfl (hin 5 (by decide)) dL_law_243 dL_law_244 dL_law_246 dL_law_247 dL_law_248 ?_
  refine call_V1 X hW (kC_X11 k609_10) mt_6_93 mt_6_94 mt_6_95 mvM_append (c_X11_append k609_10 e1) (by decide) rfl rfl (Nat.le_of_ble_eq_true rfl) hl.1 dL_law_249 ?_
  clear hW; intro H locs hW
  exact lv_icmp_eq (tgt := 1925) hx hb dL_law_252 (by decide) (fun _ => W.widen (Nat.le_succ _) (Nat.le_add_right _ _) (kk H locs ls _ hW I3 hl)) (fun q => absurd rfl q)
set_option maxRecDepth 20000 in
set_option maxHeartbeats 4000000 in
theorem case_1 {G : Gt} {p : Program} {l : Launch} {e : Env} {R : Room} {s : State} {m : MethodId} {args : Array Value} {below : List Frame} {meth : Method} {c : Code} {H : Heap} {locs : List Loc} {cells slots : Nat} {Q : State → Prop} {b L cN : Nat} {xs : Nat → Int32} {i : Int32} {ls : Array Slot} {σ : St} (X : Cx G p R s m args c cells slots cL_law 10 RL 60) (hc1 : cells + 1 ≤ R.cells) (hc2 : slots + 6 ≤ R.slots) (hW : GW G σ s H locs) (hfl : l.stackTraces = false) (hX : va_X b L xs s s.heap) (hbl : b < s.heap.size) (hbA : ¬ gA G b) (hl : lv_has ls 10 (LV G b i)) (hin : ∀ k : Nat, k < 6 → vp_in (i + nI k) L) (hc : cN < 512) (I : Inv cN σ) (kk : ∀ (H1 : Heap) (locs1 : List Loc) (ls1 : Array Slot) (σ1 : St), GW G σ1 s H1 locs1 → Inv (cN + 1) σ1 → lv_has ls1 10 (LV G b i) → W p l e R s m args below meth c H1 locs1 (cells + 1) (slots + 6) Q (F0 m 1925 ls1 [])) : W p l e R s m args below meth c H locs cells slots Q (F0 m 257 ls []) := by
  have hx := X.1.1
  have hb := X.1.2.1
  have X1 : Cx G p R s m args c (cells + 1) (slots + 6) cL_law 10 RL 60 := ⟨X.1, X.2.1, X.2.2.1, X.2.2.2.1, hc1, hc2⟩
  obtain ⟨k0, σ2, σ3, r, hM, hf, hk, hv, I3⟩ := s_load hc I (aX xs i (nI 1))
  refine lv_aload_n hx hb dL_law_257 rfl (lv_at hl 4 rfl) ?_
  refine law_arg (kv := nI 1) X hW hX hbl hbA (lv_at hl 5 rfl) (lv_at hl 0 rfl) rfl (hin 1 (by decide)) dL_law_258 dL_law_259 dL_law_261 dL_law_262 dL_law_263 ?_
  refine lv_aload_n hx hb dL_law_264 rfl (lv_at hl 2 rfl) ?_
  refine call_SL X hW mt_3_157 mt_3_158 mvL_load (hM G l) hfl (by decide) rfl rfl (Nat.zero_le _) hl.1 dL_law_265 hc1 hc2 ?_
  clear hW; intro H locs hW
  refine lv_istore (lv' := (6, .int k0) :: LV G b i) hx hb dL_law_268 hl (by decide) rfl (fun ls hl => ?_)
  refine lv_aload_n hx hb dL_law_270 rfl (lv_at hl 4 rfl) ?_
  refine law_arg (kv := nI 1) X1 hW hX hbl hbA (lv_at hl 6 rfl) (lv_at hl 1 rfl) rfl (hin 1 (by decide)) dL_law_271 dL_law_272 dL_law_274 dL_law_275 dL_law_276 ?_
  refine call_V1 X1 hW (kC_X11 k609_10) mt_6_105 mt_6_106 mt_6_107 mvM_load (c_X11_load k609_10 hf) (by decide) rfl rfl (Nat.zero_le _) hl.1 dL_law_277 ?_
  clear hW; intro H locs hW
  exact tail_I X1 (by decide) hW hl dL_law_280 dL_law_282 dL_law_283 dL_law_286 dL_law_288 dL_law_293 dL_law_295 dL_law_298 dL_law_299 dL_law_300 dL_law_301 dL_law_303 dL_law_304 dL_law_305 dL_law_310 (by decide) hk hv fun H1 locs1 ls1 w1 w2 => kk H1 locs1 ls1 _ w1 I3 w2
set_option maxRecDepth 20000 in
set_option maxHeartbeats 4000000 in
theorem case_2 {G : Gt} {p : Program} {l : Launch} {e : Env} {R : Room} {s : State} {m : MethodId} {args : Array Value} {below : List Frame} {meth : Method} {c : Code} {H : Heap} {locs : List Loc} {cells slots : Nat} {Q : State → Prop} {b L cN : Nat} {xs : Nat → Int32} {i : Int32} {ls : Array Slot} {σ : St} (X : Cx G p R s m args c cells slots cL_law 10 RL 60) (hc1 : cells + 1 ≤ R.cells) (hc2 : slots + 6 ≤ R.slots) (hW : GW G σ s H locs) (hfl : l.stackTraces = false) (hX : va_X b L xs s s.heap) (hbl : b < s.heap.size) (hbA : ¬ gA G b) (hl : lv_has ls 10 (LV G b i)) (hin : ∀ k : Nat, k < 6 → vp_in (i + nI k) L) (hc : cN < 512) (I : Inv cN σ) (kk : ∀ (H1 : Heap) (locs1 : List Loc) (ls1 : Array Slot) (σ1 : St), GW G σ1 s H1 locs1 → Inv (cN + 1) σ1 → lv_has ls1 10 (LV G b i) → W p l e R s m args below meth c H1 locs1 (cells + 1) (slots + 6) Q (F0 m 1925 ls1 [])) : W p l e R s m args below meth c H locs cells slots Q (F0 m 313 ls []) := by
  have hx := X.1.1
  have hb := X.1.2.1
  have X1 : Cx G p R s m args c (cells + 1) (slots + 6) cL_law 10 RL 60 := ⟨X.1, X.2.1, X.2.2.1, X.2.2.2.1, hc1, hc2⟩
  obtain ⟨r, e0, g⟩ := op_errorOffset I
  obtain ⟨r2, σ3, e1, eb, I3, _⟩ := g _ (Un.refl _ _)
  subst eb
  refine lv_aload_n hx hb dL_law_313 rfl (lv_at hl 4 rfl) ?_
  refine call_V1 X hW (kC_X10 k0_9) mt_2_100 mt_2_101 mt_2_102 mvD_errorOffset (c_X10_errorOffset k0_9 e0) (by decide) rfl rfl (Nat.zero_le _) hl.1 dL_law_314 ?_
  clear hW; intro H locs hW
  refine lv_aload_n hx hb dL_law_317 rfl (lv_at hl 3 rfl) ?_
  refine call_V1 X hW (kC_X11 k609_10) mt_6_101 mt_6_102 mt_6_103 mvM_errorOffset (c_X11_errorOffset k609_10 e1) (by decide) rfl rfl (Nat.le_of_ble_eq_true rfl) hl.1 dL_law_318 ?_
  clear hW; intro H locs hW
  exact lv_icmp_eq (tgt := 1925) hx hb dL_law_321 (by decide) (fun _ => W.widen (Nat.le_succ _) (Nat.le_add_right _ _) (kk H locs ls _ hW I3 hl)) (fun q => absurd rfl q)
set_option maxRecDepth 20000 in
set_option maxHeartbeats 4000000 in
theorem case_3 {G : Gt} {p : Program} {l : Launch} {e : Env} {R : Room} {s : State} {m : MethodId} {args : Array Value} {below : List Frame} {meth : Method} {c : Code} {H : Heap} {locs : List Loc} {cells slots : Nat} {Q : State → Prop} {b L cN : Nat} {xs : Nat → Int32} {i : Int32} {ls : Array Slot} {σ : St} (X : Cx G p R s m args c cells slots cL_law 10 RL 60) (hc1 : cells + 1 ≤ R.cells) (hc2 : slots + 6 ≤ R.slots) (hW : GW G σ s H locs) (hfl : l.stackTraces = false) (hX : va_X b L xs s s.heap) (hbl : b < s.heap.size) (hbA : ¬ gA G b) (hl : lv_has ls 10 (LV G b i)) (hin : ∀ k : Nat, k < 6 → vp_in (i + nI k) L) (hc : cN < 512) (I : Inv cN σ) (kk : ∀ (H1 : Heap) (locs1 : List Loc) (ls1 : Array Slot) (σ1 : St), GW G σ1 s H1 locs1 → Inv (cN + 1) σ1 → lv_has ls1 10 (LV G b i) → W p l e R s m args below meth c H1 locs1 (cells + 1) (slots + 6) Q (F0 m 1925 ls1 [])) : W p l e R s m args below meth c H locs cells slots Q (F0 m 326 ls []) := by
  have hx := X.1.1
  have hb := X.1.2.1
  have X1 : Cx G p R s m args c (cells + 1) (slots + 6) cL_law 10 RL 60 := ⟨X.1, X.2.1, X.2.2.1, X.2.2.2.1, hc1, hc2⟩
  obtain ⟨k0, σ2, σ3, r, hM, hf, hk, hv, I3⟩ := s_state hc I (aX xs i (nI 1))
  refine lv_aload_n hx hb dL_law_326 rfl (lv_at hl 4 rfl) ?_
  refine law_arg (kv := nI 1) X hW hX hbl hbA (lv_at hl 5 rfl) (lv_at hl 0 rfl) rfl (hin 1 (by decide)) dL_law_327 dL_law_328 dL_law_330 dL_law_331 dL_law_332 ?_
  refine lv_aload_n hx hb dL_law_333 rfl (lv_at hl 2 rfl) ?_
  refine call_SL X hW mt_4_239 mt_5_0 mvL_state (hM G l) hfl (by decide) rfl rfl (Nat.zero_le _) hl.1 dL_law_334 hc1 hc2 ?_
  clear hW; intro H locs hW
  refine lv_istore (lv' := (6, .int k0) :: LV G b i) hx hb dL_law_337 hl (by decide) rfl (fun ls hl => ?_)
  refine lv_aload_n hx hb dL_law_339 rfl (lv_at hl 4 rfl) ?_
  refine law_arg (kv := nI 1) X1 hW hX hbl hbA (lv_at hl 6 rfl) (lv_at hl 1 rfl) rfl (hin 1 (by decide)) dL_law_340 dL_law_341 dL_law_343 dL_law_344 dL_law_345 ?_
  refine call_V1 X1 hW (kC_X11 k609_10) mt_7_26 mt_7_27 mt_7_28 mvM_state (c_X11_state k609_10 hf) (by decide) rfl rfl (Nat.zero_le _) hl.1 dL_law_346 ?_
  clear hW; intro H locs hW
  exact tail_I X1 (by decide) hW hl dL_law_349 dL_law_351 dL_law_352 dL_law_355 dL_law_357 dL_law_362 dL_law_364 dL_law_367 dL_law_368 dL_law_369 dL_law_370 dL_law_372 dL_law_373 dL_law_374 dL_law_379 (by decide) hk hv fun H1 locs1 ls1 w1 w2 => kk H1 locs1 ls1 _ w1 I3 w2
set_option maxRecDepth 20000 in
set_option maxHeartbeats 4000000 in
theorem case_4 {G : Gt} {p : Program} {l : Launch} {e : Env} {R : Room} {s : State} {m : MethodId} {args : Array Value} {below : List Frame} {meth : Method} {c : Code} {H : Heap} {locs : List Loc} {cells slots : Nat} {Q : State → Prop} {b L cN : Nat} {xs : Nat → Int32} {i : Int32} {ls : Array Slot} {σ : St} (X : Cx G p R s m args c cells slots cL_law 10 RL 60) (hc1 : cells + 1 ≤ R.cells) (hc2 : slots + 6 ≤ R.slots) (hW : GW G σ s H locs) (hfl : l.stackTraces = false) (hX : va_X b L xs s s.heap) (hbl : b < s.heap.size) (hbA : ¬ gA G b) (hl : lv_has ls 10 (LV G b i)) (hin : ∀ k : Nat, k < 6 → vp_in (i + nI k) L) (hc : cN < 512) (I : Inv cN σ) (kk : ∀ (H1 : Heap) (locs1 : List Loc) (ls1 : Array Slot) (σ1 : St), GW G σ1 s H1 locs1 → Inv (cN + 1) σ1 → lv_has ls1 10 (LV G b i) → W p l e R s m args below meth c H1 locs1 (cells + 1) (slots + 6) Q (F0 m 1925 ls1 [])) : W p l e R s m args below meth c H locs cells slots Q (F0 m 382 ls []) := by
  have hx := X.1.1
  have hb := X.1.2.1
  have X1 : Cx G p R s m args c (cells + 1) (slots + 6) cL_law 10 RL 60 := ⟨X.1, X.2.1, X.2.2.1, X.2.2.2.1, hc1, hc2⟩
  obtain ⟨k0, σ2, σ3, r, hM, hf, hk, hv, I3⟩ := s_stock hc I (aX xs i (nI 1))
  refine lv_aload_n hx hb dL_law_382 rfl (lv_at hl 4 rfl) ?_
  refine law_arg (kv := nI 1) X hW hX hbl hbA (lv_at hl 5 rfl) (lv_at hl 0 rfl) rfl (hin 1 (by decide)) dL_law_383 dL_law_384 dL_law_386 dL_law_387 dL_law_388 ?_
  refine lv_aload_n hx hb dL_law_389 rfl (lv_at hl 2 rfl) ?_
  refine call_SL X hW mt_5_3 mt_5_4 mvL_stock (hM G l) hfl (by decide) rfl rfl (Nat.zero_le _) hl.1 dL_law_390 hc1 hc2 ?_
  clear hW; intro H locs hW
  refine lv_istore (lv' := (6, .int k0) :: LV G b i) hx hb dL_law_393 hl (by decide) rfl (fun ls hl => ?_)
  refine lv_aload_n hx hb dL_law_395 rfl (lv_at hl 4 rfl) ?_
  refine law_arg (kv := nI 1) X1 hW hX hbl hbA (lv_at hl 6 rfl) (lv_at hl 1 rfl) rfl (hin 1 (by decide)) dL_law_396 dL_law_397 dL_law_399 dL_law_400 dL_law_401 ?_
  refine call_V1 X1 hW (kC_X11 k609_10) mt_7_100 mt_7_101 mt_7_102 mvM_stock (c_X11_stock k609_10 hf) (by decide) rfl rfl (Nat.zero_le _) hl.1 dL_law_402 ?_
  clear hW; intro H locs hW
  exact tail_I X1 (by decide) hW hl dL_law_405 dL_law_407 dL_law_408 dL_law_411 dL_law_413 dL_law_418 dL_law_420 dL_law_423 dL_law_424 dL_law_425 dL_law_426 dL_law_428 dL_law_429 dL_law_430 dL_law_435 (by decide) hk hv fun H1 locs1 ls1 w1 w2 => kk H1 locs1 ls1 _ w1 I3 w2
set_option maxRecDepth 20000 in
set_option maxHeartbeats 4000000 in
theorem case_5 {G : Gt} {p : Program} {l : Launch} {e : Env} {R : Room} {s : State} {m : MethodId} {args : Array Value} {below : List Frame} {meth : Method} {c : Code} {H : Heap} {locs : List Loc} {cells slots : Nat} {Q : State → Prop} {b L cN : Nat} {xs : Nat → Int32} {i : Int32} {ls : Array Slot} {σ : St} (X : Cx G p R s m args c cells slots cL_law 10 RL 60) (hc1 : cells + 1 ≤ R.cells) (hc2 : slots + 6 ≤ R.slots) (hW : GW G σ s H locs) (hfl : l.stackTraces = false) (hX : va_X b L xs s s.heap) (hbl : b < s.heap.size) (hbA : ¬ gA G b) (hl : lv_has ls 10 (LV G b i)) (hin : ∀ k : Nat, k < 6 → vp_in (i + nI k) L) (hc : cN < 512) (I : Inv cN σ) (kk : ∀ (H1 : Heap) (locs1 : List Loc) (ls1 : Array Slot) (σ1 : St), GW G σ1 s H1 locs1 → Inv (cN + 1) σ1 → lv_has ls1 10 (LV G b i) → W p l e R s m args below meth c H1 locs1 (cells + 1) (slots + 6) Q (F0 m 1925 ls1 [])) : W p l e R s m args below meth c H locs cells slots Q (F0 m 438 ls []) := by
  have hx := X.1.1
  have hb := X.1.2.1
  have X1 : Cx G p R s m args c (cells + 1) (slots + 6) cL_law 10 RL 60 := ⟨X.1, X.2.1, X.2.2.1, X.2.2.2.1, hc1, hc2⟩
  obtain ⟨k0, σ2, σ3, r, hM, hf, hk, hv, I3⟩ := s_quest hc I (aX xs i (nI 1)) (aX xs i (nI 2))
  refine lv_aload_n hx hb dL_law_438 rfl (lv_at hl 4 rfl) ?_
  refine law_arg (kv := nI 1) X hW hX hbl hbA (lv_at hl 5 rfl) (lv_at hl 0 rfl) rfl (hin 1 (by decide)) dL_law_439 dL_law_440 dL_law_442 dL_law_443 dL_law_444 ?_
  refine law_arg (kv := nI 2) X hW hX hbl hbA (lv_at hl 5 rfl) (lv_at hl 0 rfl) rfl (hin 2 (by decide)) dL_law_445 dL_law_446 dL_law_448 dL_law_449 dL_law_450 ?_
  refine lv_aload_n hx hb dL_law_451 rfl (lv_at hl 2 rfl) ?_
  refine call_SL X hW mt_5_14 mt_5_15 mvL_quest (hM G l) hfl (by decide) rfl rfl (Nat.zero_le _) hl.1 dL_law_452 hc1 hc2 ?_
  clear hW; intro H locs hW
  refine lv_istore (lv' := (6, .int k0) :: LV G b i) hx hb dL_law_455 hl (by decide) rfl (fun ls hl => ?_)
  refine lv_aload_n hx hb dL_law_457 rfl (lv_at hl 4 rfl) ?_
  refine law_arg (kv := nI 1) X1 hW hX hbl hbA (lv_at hl 6 rfl) (lv_at hl 1 rfl) rfl (hin 1 (by decide)) dL_law_458 dL_law_459 dL_law_461 dL_law_462 dL_law_463 ?_
  refine law_arg (kv := nI 2) X1 hW hX hbl hbA (lv_at hl 6 rfl) (lv_at hl 1 rfl) rfl (hin 2 (by decide)) dL_law_464 dL_law_465 dL_law_467 dL_law_468 dL_law_469 ?_
  refine call_V1 X1 hW (kC_X11 k609_10) mt_7_108 mt_7_109 mt_7_110 mvM_quest (c_X11_quest k609_10 hf) (by decide) rfl rfl (Nat.zero_le _) hl.1 dL_law_470 ?_
  clear hW; intro H locs hW
  exact tail_I X1 (by decide) hW hl dL_law_473 dL_law_475 dL_law_476 dL_law_479 dL_law_481 dL_law_486 dL_law_488 dL_law_491 dL_law_492 dL_law_493 dL_law_494 dL_law_496 dL_law_497 dL_law_498 dL_law_503 (by decide) hk hv fun H1 locs1 ls1 w1 w2 => kk H1 locs1 ls1 _ w1 I3 w2
set_option maxRecDepth 20000 in
set_option maxHeartbeats 4000000 in
theorem case_6 {G : Gt} {p : Program} {l : Launch} {e : Env} {R : Room} {s : State} {m : MethodId} {args : Array Value} {below : List Frame} {meth : Method} {c : Code} {H : Heap} {locs : List Loc} {cells slots : Nat} {Q : State → Prop} {b L cN : Nat} {xs : Nat → Int32} {i : Int32} {ls : Array Slot} {σ : St} (X : Cx G p R s m args c cells slots cL_law 10 RL 60) (hc1 : cells + 1 ≤ R.cells) (hc2 : slots + 6 ≤ R.slots) (hW : GW G σ s H locs) (hfl : l.stackTraces = false) (hX : va_X b L xs s s.heap) (hbl : b < s.heap.size) (hbA : ¬ gA G b) (hl : lv_has ls 10 (LV G b i)) (hin : ∀ k : Nat, k < 6 → vp_in (i + nI k) L) (hc : cN < 512) (I : Inv cN σ) (kk : ∀ (H1 : Heap) (locs1 : List Loc) (ls1 : Array Slot) (σ1 : St), GW G σ1 s H1 locs1 → Inv (cN + 1) σ1 → lv_has ls1 10 (LV G b i) → W p l e R s m args below meth c H1 locs1 (cells + 1) (slots + 6) Q (F0 m 1925 ls1 [])) : W p l e R s m args below meth c H locs cells slots Q (F0 m 506 ls []) := by
  have hx := X.1.1
  have hb := X.1.2.1
  have X1 : Cx G p R s m args c (cells + 1) (slots + 6) cL_law 10 RL 60 := ⟨X.1, X.2.1, X.2.2.1, X.2.2.2.1, hc1, hc2⟩
  obtain ⟨k0, σ2, σ3, r, hM, hf, hk, hv, I3⟩ := s_step hc I (aX xs i (nI 1)) (aX xs i (nI 2)) (aX xs i (nI 3))
  refine lv_aload_n hx hb dL_law_506 rfl (lv_at hl 4 rfl) ?_
  refine law_arg (kv := nI 1) X hW hX hbl hbA (lv_at hl 5 rfl) (lv_at hl 0 rfl) rfl (hin 1 (by decide)) dL_law_507 dL_law_508 dL_law_510 dL_law_511 dL_law_512 ?_
  refine law_arg (kv := nI 2) X hW hX hbl hbA (lv_at hl 5 rfl) (lv_at hl 0 rfl) rfl (hin 2 (by decide)) dL_law_513 dL_law_514 dL_law_516 dL_law_517 dL_law_518 ?_
  refine law_arg (kv := nI 3) X hW hX hbl hbA (lv_at hl 5 rfl) (lv_at hl 0 rfl) rfl (hin 3 (by decide)) dL_law_519 dL_law_520 dL_law_522 dL_law_523 dL_law_524 ?_
  refine lv_aload_n hx hb dL_law_525 rfl (lv_at hl 2 rfl) ?_
  refine call_SL X hW mt_5_18 mt_5_19 mvL_step (hM G l) hfl (by decide) rfl rfl (Nat.zero_le _) hl.1 dL_law_526 hc1 hc2 ?_
  clear hW; intro H locs hW
  refine lv_istore (lv' := (6, .int k0) :: LV G b i) hx hb dL_law_529 hl (by decide) rfl (fun ls hl => ?_)
  refine lv_aload_n hx hb dL_law_531 rfl (lv_at hl 4 rfl) ?_
  refine law_arg (kv := nI 1) X1 hW hX hbl hbA (lv_at hl 6 rfl) (lv_at hl 1 rfl) rfl (hin 1 (by decide)) dL_law_532 dL_law_533 dL_law_535 dL_law_536 dL_law_537 ?_
  refine law_arg (kv := nI 2) X1 hW hX hbl hbA (lv_at hl 6 rfl) (lv_at hl 1 rfl) rfl (hin 2 (by decide)) dL_law_538 dL_law_539 dL_law_541 dL_law_542 dL_law_543 ?_
  refine law_arg (kv := nI 3) X1 hW hX hbl hbA (lv_at hl 6 rfl) (lv_at hl 1 rfl) rfl (hin 3 (by decide)) dL_law_544 dL_law_545 dL_law_547 dL_law_548 dL_law_549 ?_
  refine call_V1 X1 hW (kC_X11 k609_10) mt_7_128 mt_7_129 mt_7_130 mvM_step (c_X11_step k609_10 hf) (by decide) rfl rfl (Nat.zero_le _) hl.1 dL_law_550 ?_
  clear hW; intro H locs hW
  exact tail_I X1 (by decide) hW hl dL_law_553 dL_law_555 dL_law_556 dL_law_559 dL_law_561 dL_law_566 dL_law_568 dL_law_571 dL_law_572 dL_law_573 dL_law_574 dL_law_576 dL_law_577 dL_law_578 dL_law_583 (by decide) hk hv fun H1 locs1 ls1 w1 w2 => kk H1 locs1 ls1 _ w1 I3 w2
set_option maxRecDepth 20000 in
set_option maxHeartbeats 4000000 in
theorem case_7 {G : Gt} {p : Program} {l : Launch} {e : Env} {R : Room} {s : State} {m : MethodId} {args : Array Value} {below : List Frame} {meth : Method} {c : Code} {H : Heap} {locs : List Loc} {cells slots : Nat} {Q : State → Prop} {b L cN : Nat} {xs : Nat → Int32} {i : Int32} {ls : Array Slot} {σ : St} (X : Cx G p R s m args c cells slots cL_law 10 RL 60) (hc1 : cells + 1 ≤ R.cells) (hc2 : slots + 6 ≤ R.slots) (hW : GW G σ s H locs) (hfl : l.stackTraces = false) (hX : va_X b L xs s s.heap) (hbl : b < s.heap.size) (hbA : ¬ gA G b) (hl : lv_has ls 10 (LV G b i)) (hin : ∀ k : Nat, k < 6 → vp_in (i + nI k) L) (hc : cN < 512) (I : Inv cN σ) (kk : ∀ (H1 : Heap) (locs1 : List Loc) (ls1 : Array Slot) (σ1 : St), GW G σ1 s H1 locs1 → Inv (cN + 1) σ1 → lv_has ls1 10 (LV G b i) → W p l e R s m args below meth c H1 locs1 (cells + 1) (slots + 6) Q (F0 m 1925 ls1 [])) : W p l e R s m args below meth c H locs cells slots Q (F0 m 586 ls []) := by
  have hx := X.1.1
  have hb := X.1.2.1
  have X1 : Cx G p R s m args c (cells + 1) (slots + 6) cL_law 10 RL 60 := ⟨X.1, X.2.1, X.2.2.1, X.2.2.2.1, hc1, hc2⟩
  obtain ⟨k0, σ2, σ3, r, hM, hf, hk, hv, I3⟩ := s_amount hc I (aX xs i (nI 1)) (aX xs i (nI 2)) (aX xs i (nI 3)) (aX xs i (nI 4))
  refine lv_aload_n hx hb dL_law_586 rfl (lv_at hl 4 rfl) ?_
  refine law_arg (kv := nI 1) X hW hX hbl hbA (lv_at hl 5 rfl) (lv_at hl 0 rfl) rfl (hin 1 (by decide)) dL_law_587 dL_law_588 dL_law_590 dL_law_591 dL_law_592 ?_
  refine law_arg (kv := nI 2) X hW hX hbl hbA (lv_at hl 5 rfl) (lv_at hl 0 rfl) rfl (hin 2 (by decide)) dL_law_593 dL_law_594 dL_law_596 dL_law_597 dL_law_598 ?_
  refine law_arg (kv := nI 3) X hW hX hbl hbA (lv_at hl 5 rfl) (lv_at hl 0 rfl) rfl (hin 3 (by decide)) dL_law_599 dL_law_600 dL_law_602 dL_law_603 dL_law_604 ?_
  refine law_arg (kv := nI 4) X hW hX hbl hbA (lv_at hl 5 rfl) (lv_at hl 0 rfl) rfl (hin 4 (by decide)) dL_law_605 dL_law_606 dL_law_608 dL_law_609 dL_law_610 ?_
  refine lv_aload_n hx hb dL_law_611 rfl (lv_at hl 2 rfl) ?_
  refine call_SL X hW mt_5_22 mt_5_23 mvL_amount (hM G l) hfl (by decide) rfl rfl (Nat.zero_le _) hl.1 dL_law_612 hc1 hc2 ?_
  clear hW; intro H locs hW
  refine lv_istore (lv' := (6, .int k0) :: LV G b i) hx hb dL_law_615 hl (by decide) rfl (fun ls hl => ?_)
  refine lv_aload_n hx hb dL_law_617 rfl (lv_at hl 4 rfl) ?_
  refine law_arg (kv := nI 1) X1 hW hX hbl hbA (lv_at hl 6 rfl) (lv_at hl 1 rfl) rfl (hin 1 (by decide)) dL_law_618 dL_law_619 dL_law_621 dL_law_622 dL_law_623 ?_
  refine law_arg (kv := nI 2) X1 hW hX hbl hbA (lv_at hl 6 rfl) (lv_at hl 1 rfl) rfl (hin 2 (by decide)) dL_law_624 dL_law_625 dL_law_627 dL_law_628 dL_law_629 ?_
  refine law_arg (kv := nI 3) X1 hW hX hbl hbA (lv_at hl 6 rfl) (lv_at hl 1 rfl) rfl (hin 3 (by decide)) dL_law_630 dL_law_631 dL_law_633 dL_law_634 dL_law_635 ?_
  refine law_arg (kv := nI 4) X1 hW hX hbl hbA (lv_at hl 6 rfl) (lv_at hl 1 rfl) rfl (hin 4 (by decide)) dL_law_636 dL_law_637 dL_law_639 dL_law_640 dL_law_641 ?_
  refine call_V1 X1 hW (kC_X11 k609_10) mt_7_140 mt_7_141 mt_7_142 mvM_amount (c_X11_amount k609_10 hf) (by decide) rfl rfl (Nat.zero_le _) hl.1 dL_law_642 ?_
  clear hW; intro H locs hW
  exact tail_I X1 (by decide) hW hl dL_law_645 dL_law_647 dL_law_648 dL_law_651 dL_law_653 dL_law_658 dL_law_660 dL_law_663 dL_law_664 dL_law_665 dL_law_666 dL_law_668 dL_law_669 dL_law_670 dL_law_675 (by decide) hk hv fun H1 locs1 ls1 w1 w2 => kk H1 locs1 ls1 _ w1 I3 w2
set_option maxRecDepth 20000 in
set_option maxHeartbeats 4000000 in
theorem case_8 {G : Gt} {p : Program} {l : Launch} {e : Env} {R : Room} {s : State} {m : MethodId} {args : Array Value} {below : List Frame} {meth : Method} {c : Code} {H : Heap} {locs : List Loc} {cells slots : Nat} {Q : State → Prop} {b L cN : Nat} {xs : Nat → Int32} {i : Int32} {ls : Array Slot} {σ : St} (X : Cx G p R s m args c cells slots cL_law 10 RL 60) (hc1 : cells + 1 ≤ R.cells) (hc2 : slots + 6 ≤ R.slots) (hW : GW G σ s H locs) (hfl : l.stackTraces = false) (hX : va_X b L xs s s.heap) (hbl : b < s.heap.size) (hbA : ¬ gA G b) (hl : lv_has ls 10 (LV G b i)) (hin : ∀ k : Nat, k < 6 → vp_in (i + nI k) L) (hc : cN < 512) (I : Inv cN σ) (kk : ∀ (H1 : Heap) (locs1 : List Loc) (ls1 : Array Slot) (σ1 : St), GW G σ1 s H1 locs1 → Inv (cN + 1) σ1 → lv_has ls1 10 (LV G b i) → W p l e R s m args below meth c H1 locs1 (cells + 1) (slots + 6) Q (F0 m 1925 ls1 [])) : W p l e R s m args below meth c H locs cells slots Q (F0 m 678 ls []) := by
  have hx := X.1.1
  have hb := X.1.2.1
  have X1 : Cx G p R s m args c (cells + 1) (slots + 6) cL_law 10 RL 60 := ⟨X.1, X.2.1, X.2.2.1, X.2.2.2.1, hc1, hc2⟩
  obtain ⟨k0, σ2, σ3, r, hM, hf, hk, hv, I3⟩ := s_why hc I (aX xs i (nI 1)) (aX xs i (nI 2))
  refine lv_aload_n hx hb dL_law_678 rfl (lv_at hl 4 rfl) ?_
  refine law_arg (kv := nI 1) X hW hX hbl hbA (lv_at hl 5 rfl) (lv_at hl 0 rfl) rfl (hin 1 (by decide)) dL_law_679 dL_law_680 dL_law_682 dL_law_683 dL_law_684 ?_
  refine law_arg (kv := nI 2) X hW hX hbl hbA (lv_at hl 5 rfl) (lv_at hl 0 rfl) rfl (hin 2 (by decide)) dL_law_685 dL_law_686 dL_law_688 dL_law_689 dL_law_690 ?_
  refine lv_aload_n hx hb dL_law_691 rfl (lv_at hl 2 rfl) ?_
  refine call_SL X hW mt_5_29 mt_5_30 mvL_why (hM G l) hfl (by decide) rfl rfl (Nat.zero_le _) hl.1 dL_law_692 hc1 hc2 ?_
  clear hW; intro H locs hW
  refine lv_istore (lv' := (6, .int k0) :: LV G b i) hx hb dL_law_695 hl (by decide) rfl (fun ls hl => ?_)
  refine lv_aload_n hx hb dL_law_697 rfl (lv_at hl 4 rfl) ?_
  refine law_arg (kv := nI 1) X1 hW hX hbl hbA (lv_at hl 6 rfl) (lv_at hl 1 rfl) rfl (hin 1 (by decide)) dL_law_698 dL_law_699 dL_law_701 dL_law_702 dL_law_703 ?_
  refine law_arg (kv := nI 2) X1 hW hX hbl hbA (lv_at hl 6 rfl) (lv_at hl 1 rfl) rfl (hin 2 (by decide)) dL_law_704 dL_law_705 dL_law_707 dL_law_708 dL_law_709 ?_
  refine call_V1 X1 hW (kC_X11 k609_10) mt_7_144 mt_7_145 mt_7_146 mvM_why (c_X11_why k609_10 hf) (by decide) rfl rfl (Nat.zero_le _) hl.1 dL_law_710 ?_
  clear hW; intro H locs hW
  exact tail_I X1 (by decide) hW hl dL_law_713 dL_law_715 dL_law_716 dL_law_719 dL_law_721 dL_law_726 dL_law_728 dL_law_731 dL_law_732 dL_law_733 dL_law_734 dL_law_736 dL_law_737 dL_law_738 dL_law_743 (by decide) hk hv fun H1 locs1 ls1 w1 w2 => kk H1 locs1 ls1 _ w1 I3 w2
set_option maxRecDepth 20000 in
set_option maxHeartbeats 4000000 in
theorem case_9 {G : Gt} {p : Program} {l : Launch} {e : Env} {R : Room} {s : State} {m : MethodId} {args : Array Value} {below : List Frame} {meth : Method} {c : Code} {H : Heap} {locs : List Loc} {cells slots : Nat} {Q : State → Prop} {b L cN : Nat} {xs : Nat → Int32} {i : Int32} {ls : Array Slot} {σ : St} (X : Cx G p R s m args c cells slots cL_law 10 RL 60) (hc1 : cells + 1 ≤ R.cells) (hc2 : slots + 6 ≤ R.slots) (hW : GW G σ s H locs) (hfl : l.stackTraces = false) (hX : va_X b L xs s s.heap) (hbl : b < s.heap.size) (hbA : ¬ gA G b) (hl : lv_has ls 10 (LV G b i)) (hin : ∀ k : Nat, k < 6 → vp_in (i + nI k) L) (hc : cN < 512) (I : Inv cN σ) (kk : ∀ (H1 : Heap) (locs1 : List Loc) (ls1 : Array Slot) (σ1 : St), GW G σ1 s H1 locs1 → Inv (cN + 1) σ1 → lv_has ls1 10 (LV G b i) → W p l e R s m args below meth c H1 locs1 (cells + 1) (slots + 6) Q (F0 m 1925 ls1 [])) : W p l e R s m args below meth c H locs cells slots Q (F0 m 746 ls []) := by
  have hx := X.1.1
  have hb := X.1.2.1
  have X1 : Cx G p R s m args c (cells + 1) (slots + 6) cL_law 10 RL 60 := ⟨X.1, X.2.1, X.2.2.1, X.2.2.2.1, hc1, hc2⟩
  obtain ⟨k0, σ2, σ3, r, hM, hf, hk, hv, I3⟩ := s_holds hc I (aX xs i (nI 1)) (aX xs i (nI 2))
  refine lv_aload_n hx hb dL_law_746 rfl (lv_at hl 4 rfl) ?_
  refine law_arg (kv := nI 1) X hW hX hbl hbA (lv_at hl 5 rfl) (lv_at hl 0 rfl) rfl (hin 1 (by decide)) dL_law_747 dL_law_748 dL_law_750 dL_law_751 dL_law_752 ?_
  refine law_arg (kv := nI 2) X hW hX hbl hbA (lv_at hl 5 rfl) (lv_at hl 0 rfl) rfl (hin 2 (by decide)) dL_law_753 dL_law_754 dL_law_756 dL_law_757 dL_law_758 ?_
  refine lv_aload_n hx hb dL_law_759 rfl (lv_at hl 2 rfl) ?_
  refine call_SL X hW mt_5_37 mt_5_38 mvL_holds (hM G l) hfl (by decide) rfl rfl (Nat.zero_le _) hl.1 dL_law_760 hc1 hc2 ?_
  clear hW; intro H locs hW
  refine lv_istore (lv' := (6, .int k0) :: LV G b i) hx hb dL_law_763 hl (by decide) rfl (fun ls hl => ?_)
  refine lv_aload_n hx hb dL_law_765 rfl (lv_at hl 4 rfl) ?_
  refine law_arg (kv := nI 1) X1 hW hX hbl hbA (lv_at hl 6 rfl) (lv_at hl 1 rfl) rfl (hin 1 (by decide)) dL_law_766 dL_law_767 dL_law_769 dL_law_770 dL_law_771 ?_
  refine law_arg (kv := nI 2) X1 hW hX hbl hbA (lv_at hl 6 rfl) (lv_at hl 1 rfl) rfl (hin 2 (by decide)) dL_law_772 dL_law_773 dL_law_775 dL_law_776 dL_law_777 ?_
  refine call_V1 X1 hW (kC_X11 k609_10) mt_7_148 mt_7_149 mt_7_150 mvM_holds (c_X11_holds k609_10 hf) (by decide) rfl rfl (Nat.zero_le _) hl.1 dL_law_778 ?_
  clear hW; intro H locs hW
  exact tail_Z X1 (by decide) hW hl dL_law_781 dL_law_783 dL_law_784 dL_law_787 dL_law_789 dL_law_794 dL_law_796 dL_law_799 dL_law_800 dL_law_801 dL_law_802 dL_law_804 dL_law_807 dL_law_808 dL_law_811 dL_law_812 dL_law_813 dL_law_818 (by decide) hk hv fun H1 locs1 ls1 w1 w2 => kk H1 locs1 ls1 _ w1 I3 w2
set_option maxRecDepth 20000 in
set_option maxHeartbeats 4000000 in
theorem case_10 {G : Gt} {p : Program} {l : Launch} {e : Env} {R : Room} {s : State} {m : MethodId} {args : Array Value} {below : List Frame} {meth : Method} {c : Code} {H : Heap} {locs : List Loc} {cells slots : Nat} {Q : State → Prop} {b L cN : Nat} {xs : Nat → Int32} {i : Int32} {ls : Array Slot} {σ : St} (X : Cx G p R s m args c cells slots cL_law 10 RL 60) (hc1 : cells + 1 ≤ R.cells) (hc2 : slots + 6 ≤ R.slots) (hW : GW G σ s H locs) (hfl : l.stackTraces = false) (hX : va_X b L xs s s.heap) (hbl : b < s.heap.size) (hbA : ¬ gA G b) (hl : lv_has ls 10 (LV G b i)) (hin : ∀ k : Nat, k < 6 → vp_in (i + nI k) L) (hc : cN < 512) (I : Inv cN σ) (kk : ∀ (H1 : Heap) (locs1 : List Loc) (ls1 : Array Slot) (σ1 : St), GW G σ1 s H1 locs1 → Inv (cN + 1) σ1 → lv_has ls1 10 (LV G b i) → W p l e R s m args below meth c H1 locs1 (cells + 1) (slots + 6) Q (F0 m 1925 ls1 [])) : W p l e R s m args below meth c H locs cells slots Q (F0 m 821 ls []) := by
  have hx := X.1.1
  have hb := X.1.2.1
  have X1 : Cx G p R s m args c (cells + 1) (slots + 6) cL_law 10 RL 60 := ⟨X.1, X.2.1, X.2.2.1, X.2.2.2.1, hc1, hc2⟩
  obtain ⟨k0, σ2, σ3, r, hM, hf, hk, hv, I3⟩ := s_possible hc I (aX xs i (nI 1))
  refine lv_aload_n hx hb dL_law_821 rfl (lv_at hl 4 rfl) ?_
  refine law_arg (kv := nI 1) X hW hX hbl hbA (lv_at hl 5 rfl) (lv_at hl 0 rfl) rfl (hin 1 (by decide)) dL_law_822 dL_law_823 dL_law_825 dL_law_826 dL_law_827 ?_
  refine lv_aload_n hx hb dL_law_828 rfl (lv_at hl 2 rfl) ?_
  refine call_SL X hW mt_5_45 mt_5_46 mvL_possible (hM G l) hfl (by decide) rfl rfl (Nat.zero_le _) hl.1 dL_law_829 hc1 hc2 ?_
  clear hW; intro H locs hW
  refine lv_istore (lv' := (6, .int k0) :: LV G b i) hx hb dL_law_832 hl (by decide) rfl (fun ls hl => ?_)
  refine lv_aload_n hx hb dL_law_834 rfl (lv_at hl 4 rfl) ?_
  refine law_arg (kv := nI 1) X1 hW hX hbl hbA (lv_at hl 6 rfl) (lv_at hl 1 rfl) rfl (hin 1 (by decide)) dL_law_835 dL_law_836 dL_law_838 dL_law_839 dL_law_840 ?_
  refine call_V1 X1 hW (kC_X11 k609_10) mt_7_152 mt_7_153 mt_7_154 mvM_possible (c_X11_possible k609_10 hf) (by decide) rfl rfl (Nat.zero_le _) hl.1 dL_law_841 ?_
  clear hW; intro H locs hW
  exact tail_Z X1 (by decide) hW hl dL_law_844 dL_law_846 dL_law_847 dL_law_850 dL_law_852 dL_law_857 dL_law_859 dL_law_862 dL_law_863 dL_law_864 dL_law_865 dL_law_867 dL_law_870 dL_law_871 dL_law_874 dL_law_875 dL_law_876 dL_law_881 (by decide) hk hv fun H1 locs1 ls1 w1 w2 => kk H1 locs1 ls1 _ w1 I3 w2
set_option maxRecDepth 20000 in
set_option maxHeartbeats 4000000 in
theorem case_11 {G : Gt} {p : Program} {l : Launch} {e : Env} {R : Room} {s : State} {m : MethodId} {args : Array Value} {below : List Frame} {meth : Method} {c : Code} {H : Heap} {locs : List Loc} {cells slots : Nat} {Q : State → Prop} {b L cN : Nat} {xs : Nat → Int32} {i : Int32} {ls : Array Slot} {σ : St} (X : Cx G p R s m args c cells slots cL_law 10 RL 60) (hc1 : cells + 1 ≤ R.cells) (hc2 : slots + 6 ≤ R.slots) (hW : GW G σ s H locs) (hfl : l.stackTraces = false) (hX : va_X b L xs s s.heap) (hbl : b < s.heap.size) (hbA : ¬ gA G b) (hl : lv_has ls 10 (LV G b i)) (hin : ∀ k : Nat, k < 6 → vp_in (i + nI k) L) (hc : cN < 512) (I : Inv cN σ) (kk : ∀ (H1 : Heap) (locs1 : List Loc) (ls1 : Array Slot) (σ1 : St), GW G σ1 s H1 locs1 → Inv (cN + 1) σ1 → lv_has ls1 10 (LV G b i) → W p l e R s m args below meth c H1 locs1 (cells + 1) (slots + 6) Q (F0 m 1925 ls1 [])) : W p l e R s m args below meth c H locs cells slots Q (F0 m 884 ls []) := by
  have hx := X.1.1
  have hb := X.1.2.1
  have X1 : Cx G p R s m args c (cells + 1) (slots + 6) cL_law 10 RL 60 := ⟨X.1, X.2.1, X.2.2.1, X.2.2.2.1, hc1, hc2⟩
  obtain ⟨k0, σ2, σ3, r, hM, hf, hk, hv, I3⟩ := s_planLength hc I (aX xs i (nI 1))
  refine lv_aload_n hx hb dL_law_884 rfl (lv_at hl 4 rfl) ?_
  refine law_arg (kv := nI 1) X hW hX hbl hbA (lv_at hl 5 rfl) (lv_at hl 0 rfl) rfl (hin 1 (by decide)) dL_law_885 dL_law_886 dL_law_888 dL_law_889 dL_law_890 ?_
  refine lv_aload_n hx hb dL_law_891 rfl (lv_at hl 2 rfl) ?_
  refine call_SL X hW mt_5_52 mt_5_53 mvL_planLength (hM G l) hfl (by decide) rfl rfl (Nat.zero_le _) hl.1 dL_law_892 hc1 hc2 ?_
  clear hW; intro H locs hW
  refine lv_istore (lv' := (6, .int k0) :: LV G b i) hx hb dL_law_895 hl (by decide) rfl (fun ls hl => ?_)
  refine lv_aload_n hx hb dL_law_897 rfl (lv_at hl 4 rfl) ?_
  refine law_arg (kv := nI 1) X1 hW hX hbl hbA (lv_at hl 6 rfl) (lv_at hl 1 rfl) rfl (hin 1 (by decide)) dL_law_898 dL_law_899 dL_law_901 dL_law_902 dL_law_903 ?_
  refine call_V1 X1 hW (kC_X11 k609_10) mt_7_156 mt_7_157 mt_7_158 mvM_planLength (c_X11_planLength k609_10 hf) (by decide) rfl rfl (Nat.zero_le _) hl.1 dL_law_904 ?_
  clear hW; intro H locs hW
  exact tail_I X1 (by decide) hW hl dL_law_907 dL_law_909 dL_law_910 dL_law_913 dL_law_915 dL_law_920 dL_law_922 dL_law_925 dL_law_926 dL_law_927 dL_law_928 dL_law_930 dL_law_931 dL_law_932 dL_law_937 (by decide) hk hv fun H1 locs1 ls1 w1 w2 => kk H1 locs1 ls1 _ w1 I3 w2
set_option maxRecDepth 20000 in
set_option maxHeartbeats 4000000 in
theorem case_12 {G : Gt} {p : Program} {l : Launch} {e : Env} {R : Room} {s : State} {m : MethodId} {args : Array Value} {below : List Frame} {meth : Method} {c : Code} {H : Heap} {locs : List Loc} {cells slots : Nat} {Q : State → Prop} {b L cN : Nat} {xs : Nat → Int32} {i : Int32} {ls : Array Slot} {σ : St} (X : Cx G p R s m args c cells slots cL_law 10 RL 60) (hc1 : cells + 1 ≤ R.cells) (hc2 : slots + 6 ≤ R.slots) (hW : GW G σ s H locs) (hfl : l.stackTraces = false) (hX : va_X b L xs s s.heap) (hbl : b < s.heap.size) (hbA : ¬ gA G b) (hl : lv_has ls 10 (LV G b i)) (hin : ∀ k : Nat, k < 6 → vp_in (i + nI k) L) (hc : cN < 512) (I : Inv cN σ) (kk : ∀ (H1 : Heap) (locs1 : List Loc) (ls1 : Array Slot) (σ1 : St), GW G σ1 s H1 locs1 → Inv (cN + 1) σ1 → lv_has ls1 10 (LV G b i) → W p l e R s m args below meth c H1 locs1 (cells + 1) (slots + 6) Q (F0 m 1925 ls1 [])) : W p l e R s m args below meth c H locs cells slots Q (F0 m 940 ls []) := by
  have hx := X.1.1
  have hb := X.1.2.1
  have X1 : Cx G p R s m args c (cells + 1) (slots + 6) cL_law 10 RL 60 := ⟨X.1, X.2.1, X.2.2.1, X.2.2.2.1, hc1, hc2⟩
  obtain ⟨k0, σ2, σ3, r, hM, hf, hk, hv, I3⟩ := s_planStep hc I (aX xs i (nI 1)) (aX xs i (nI 2))
  refine lv_aload_n hx hb dL_law_940 rfl (lv_at hl 4 rfl) ?_
  refine law_arg (kv := nI 1) X hW hX hbl hbA (lv_at hl 5 rfl) (lv_at hl 0 rfl) rfl (hin 1 (by decide)) dL_law_941 dL_law_942 dL_law_944 dL_law_945 dL_law_946 ?_
  refine law_arg (kv := nI 2) X hW hX hbl hbA (lv_at hl 5 rfl) (lv_at hl 0 rfl) rfl (hin 2 (by decide)) dL_law_947 dL_law_948 dL_law_950 dL_law_951 dL_law_952 ?_
  refine lv_aload_n hx hb dL_law_953 rfl (lv_at hl 2 rfl) ?_
  refine call_SL X hW mt_5_59 mt_5_60 mvL_planStep (hM G l) hfl (by decide) rfl rfl (Nat.zero_le _) hl.1 dL_law_954 hc1 hc2 ?_
  clear hW; intro H locs hW
  refine lv_istore (lv' := (6, .int k0) :: LV G b i) hx hb dL_law_957 hl (by decide) rfl (fun ls hl => ?_)
  refine lv_aload_n hx hb dL_law_959 rfl (lv_at hl 4 rfl) ?_
  refine law_arg (kv := nI 1) X1 hW hX hbl hbA (lv_at hl 6 rfl) (lv_at hl 1 rfl) rfl (hin 1 (by decide)) dL_law_960 dL_law_961 dL_law_963 dL_law_964 dL_law_965 ?_
  refine law_arg (kv := nI 2) X1 hW hX hbl hbA (lv_at hl 6 rfl) (lv_at hl 1 rfl) rfl (hin 2 (by decide)) dL_law_966 dL_law_967 dL_law_969 dL_law_970 dL_law_971 ?_
  refine call_V1 X1 hW (kC_X11 k609_10) mt_7_160 mt_7_161 mt_7_162 mvM_planStep (c_X11_planStep k609_10 hf) (by decide) rfl rfl (Nat.zero_le _) hl.1 dL_law_972 ?_
  clear hW; intro H locs hW
  exact tail_I X1 (by decide) hW hl dL_law_975 dL_law_977 dL_law_978 dL_law_981 dL_law_983 dL_law_988 dL_law_990 dL_law_993 dL_law_994 dL_law_995 dL_law_996 dL_law_998 dL_law_999 dL_law_1000 dL_law_1005 (by decide) hk hv fun H1 locs1 ls1 w1 w2 => kk H1 locs1 ls1 _ w1 I3 w2
set_option maxRecDepth 20000 in
set_option maxHeartbeats 4000000 in
theorem case_13 {G : Gt} {p : Program} {l : Launch} {e : Env} {R : Room} {s : State} {m : MethodId} {args : Array Value} {below : List Frame} {meth : Method} {c : Code} {H : Heap} {locs : List Loc} {cells slots : Nat} {Q : State → Prop} {b L cN : Nat} {xs : Nat → Int32} {i : Int32} {ls : Array Slot} {σ : St} (X : Cx G p R s m args c cells slots cL_law 10 RL 60) (hc1 : cells + 1 ≤ R.cells) (hc2 : slots + 6 ≤ R.slots) (hW : GW G σ s H locs) (hfl : l.stackTraces = false) (hX : va_X b L xs s s.heap) (hbl : b < s.heap.size) (hbA : ¬ gA G b) (hl : lv_has ls 10 (LV G b i)) (hin : ∀ k : Nat, k < 6 → vp_in (i + nI k) L) (hc : cN < 512) (I : Inv cN σ) (kk : ∀ (H1 : Heap) (locs1 : List Loc) (ls1 : Array Slot) (σ1 : St), GW G σ1 s H1 locs1 → Inv (cN + 1) σ1 → lv_has ls1 10 (LV G b i) → W p l e R s m args below meth c H1 locs1 (cells + 1) (slots + 6) Q (F0 m 1925 ls1 [])) : W p l e R s m args below meth c H locs cells slots Q (F0 m 1008 ls []) := by
  have hx := X.1.1
  have hb := X.1.2.1
  have X1 : Cx G p R s m args c (cells + 1) (slots + 6) cL_law 10 RL 60 := ⟨X.1, X.2.1, X.2.2.1, X.2.2.2.1, hc1, hc2⟩
  obtain ⟨k0, σ2, σ3, r, hM, hf, hk, hv, I3⟩ := s_safest hc I (aX xs i (nI 1))
  refine lv_aload_n hx hb dL_law_1008 rfl (lv_at hl 4 rfl) ?_
  refine law_arg (kv := nI 1) X hW hX hbl hbA (lv_at hl 5 rfl) (lv_at hl 0 rfl) rfl (hin 1 (by decide)) dL_law_1009 dL_law_1010 dL_law_1012 dL_law_1013 dL_law_1014 ?_
  refine lv_aload_n hx hb dL_law_1015 rfl (lv_at hl 2 rfl) ?_
  refine call_SL X hW mt_5_83 mt_5_84 mvL_safest (hM G l) hfl (by decide) rfl rfl (Nat.zero_le _) hl.1 dL_law_1016 hc1 hc2 ?_
  clear hW; intro H locs hW
  refine lv_istore (lv' := (6, .int k0) :: LV G b i) hx hb dL_law_1019 hl (by decide) rfl (fun ls hl => ?_)
  refine lv_aload_n hx hb dL_law_1021 rfl (lv_at hl 4 rfl) ?_
  refine law_arg (kv := nI 1) X1 hW hX hbl hbA (lv_at hl 6 rfl) (lv_at hl 1 rfl) rfl (hin 1 (by decide)) dL_law_1022 dL_law_1023 dL_law_1025 dL_law_1026 dL_law_1027 ?_
  refine call_V1 X1 hW (kC_X11 k609_10) mt_7_172 mt_7_173 mt_7_174 mvM_safest (c_X11_safest k609_10 hf) (by decide) rfl rfl (Nat.zero_le _) hl.1 dL_law_1028 ?_
  clear hW; intro H locs hW
  exact tail_I X1 (by decide) hW hl dL_law_1031 dL_law_1033 dL_law_1034 dL_law_1037 dL_law_1039 dL_law_1044 dL_law_1046 dL_law_1049 dL_law_1050 dL_law_1051 dL_law_1052 dL_law_1054 dL_law_1055 dL_law_1056 dL_law_1061 (by decide) hk hv fun H1 locs1 ls1 w1 w2 => kk H1 locs1 ls1 _ w1 I3 w2
set_option maxRecDepth 20000 in
set_option maxHeartbeats 4000000 in
theorem case_14 {G : Gt} {p : Program} {l : Launch} {e : Env} {R : Room} {s : State} {m : MethodId} {args : Array Value} {below : List Frame} {meth : Method} {c : Code} {H : Heap} {locs : List Loc} {cells slots : Nat} {Q : State → Prop} {b L cN : Nat} {xs : Nat → Int32} {i : Int32} {ls : Array Slot} {σ : St} (X : Cx G p R s m args c cells slots cL_law 10 RL 60) (hc1 : cells + 1 ≤ R.cells) (hc2 : slots + 6 ≤ R.slots) (hW : GW G σ s H locs) (hfl : l.stackTraces = false) (hX : va_X b L xs s s.heap) (hbl : b < s.heap.size) (hbA : ¬ gA G b) (hl : lv_has ls 10 (LV G b i)) (hin : ∀ k : Nat, k < 6 → vp_in (i + nI k) L) (hc : cN < 512) (I : Inv cN σ) (kk : ∀ (H1 : Heap) (locs1 : List Loc) (ls1 : Array Slot) (σ1 : St), GW G σ1 s H1 locs1 → Inv (cN + 1) σ1 → lv_has ls1 10 (LV G b i) → W p l e R s m args below meth c H1 locs1 (cells + 1) (slots + 6) Q (F0 m 1925 ls1 [])) : W p l e R s m args below meth c H locs cells slots Q (F0 m 1064 ls []) := by
  have hx := X.1.1
  have hb := X.1.2.1
  have X1 : Cx G p R s m args c (cells + 1) (slots + 6) cL_law 10 RL 60 := ⟨X.1, X.2.1, X.2.2.1, X.2.2.2.1, hc1, hc2⟩
  obtain ⟨k0, σ2, σ3, r, hM, hf, hk, hv, I3⟩ := s_endings hc I (aX xs i (nI 1))
  refine lv_aload_n hx hb dL_law_1064 rfl (lv_at hl 4 rfl) ?_
  refine law_arg (kv := nI 1) X hW hX hbl hbA (lv_at hl 5 rfl) (lv_at hl 0 rfl) rfl (hin 1 (by decide)) dL_law_1065 dL_law_1066 dL_law_1068 dL_law_1069 dL_law_1070 ?_
  refine lv_aload_n hx hb dL_law_1071 rfl (lv_at hl 2 rfl) ?_
  refine call_SL X hW mt_5_94 mt_5_95 mvL_endings (hM G l) hfl (by decide) rfl rfl (Nat.zero_le _) hl.1 dL_law_1072 hc1 hc2 ?_
  clear hW; intro H locs hW
  refine lv_istore (lv' := (6, .int k0) :: LV G b i) hx hb dL_law_1075 hl (by decide) rfl (fun ls hl => ?_)
  refine lv_aload_n hx hb dL_law_1077 rfl (lv_at hl 4 rfl) ?_
  refine law_arg (kv := nI 1) X1 hW hX hbl hbA (lv_at hl 6 rfl) (lv_at hl 1 rfl) rfl (hin 1 (by decide)) dL_law_1078 dL_law_1079 dL_law_1081 dL_law_1082 dL_law_1083 ?_
  refine call_V1 X1 hW (kC_X11 k609_10) mt_7_176 mt_7_177 mt_7_178 mvM_endings (c_X11_endings k609_10 hf) (by decide) rfl rfl (Nat.zero_le _) hl.1 dL_law_1084 ?_
  clear hW; intro H locs hW
  exact tail_I X1 (by decide) hW hl dL_law_1087 dL_law_1089 dL_law_1090 dL_law_1093 dL_law_1095 dL_law_1100 dL_law_1102 dL_law_1105 dL_law_1106 dL_law_1107 dL_law_1108 dL_law_1110 dL_law_1111 dL_law_1112 dL_law_1117 (by decide) hk hv fun H1 locs1 ls1 w1 w2 => kk H1 locs1 ls1 _ w1 I3 w2
set_option maxRecDepth 20000 in
set_option maxHeartbeats 4000000 in
theorem case_15 {G : Gt} {p : Program} {l : Launch} {e : Env} {R : Room} {s : State} {m : MethodId} {args : Array Value} {below : List Frame} {meth : Method} {c : Code} {H : Heap} {locs : List Loc} {cells slots : Nat} {Q : State → Prop} {b L cN : Nat} {xs : Nat → Int32} {i : Int32} {ls : Array Slot} {σ : St} (X : Cx G p R s m args c cells slots cL_law 10 RL 60) (hc1 : cells + 1 ≤ R.cells) (hc2 : slots + 6 ≤ R.slots) (hW : GW G σ s H locs) (hfl : l.stackTraces = false) (hX : va_X b L xs s s.heap) (hbl : b < s.heap.size) (hbA : ¬ gA G b) (hl : lv_has ls 10 (LV G b i)) (hin : ∀ k : Nat, k < 6 → vp_in (i + nI k) L) (hc : cN < 512) (I : Inv cN σ) (kk : ∀ (H1 : Heap) (locs1 : List Loc) (ls1 : Array Slot) (σ1 : St), GW G σ1 s H1 locs1 → Inv (cN + 1) σ1 → lv_has ls1 10 (LV G b i) → W p l e R s m args below meth c H1 locs1 (cells + 1) (slots + 6) Q (F0 m 1925 ls1 [])) : W p l e R s m args below meth c H locs cells slots Q (F0 m 1120 ls []) := by
  have hx := X.1.1
  have hb := X.1.2.1
  have X1 : Cx G p R s m args c (cells + 1) (slots + 6) cL_law 10 RL 60 := ⟨X.1, X.2.1, X.2.2.1, X.2.2.2.1, hc1, hc2⟩
  obtain ⟨k0, σ2, σ3, r, hM, hf, hk, hv, I3⟩ := s_lacking hc I (aX xs i (nI 1)) (aX xs i (nI 2))
  refine lv_aload_n hx hb dL_law_1120 rfl (lv_at hl 4 rfl) ?_
  refine law_arg (kv := nI 1) X hW hX hbl hbA (lv_at hl 5 rfl) (lv_at hl 0 rfl) rfl (hin 1 (by decide)) dL_law_1121 dL_law_1122 dL_law_1124 dL_law_1125 dL_law_1126 ?_
  refine law_arg (kv := nI 2) X hW hX hbl hbA (lv_at hl 5 rfl) (lv_at hl 0 rfl) rfl (hin 2 (by decide)) dL_law_1127 dL_law_1128 dL_law_1130 dL_law_1131 dL_law_1132 ?_
  refine lv_aload_n hx hb dL_law_1133 rfl (lv_at hl 2 rfl) ?_
  refine call_SL X hW mt_5_111 mt_5_112 mvL_lacking (hM G l) hfl (by decide) rfl rfl (Nat.zero_le _) hl.1 dL_law_1134 hc1 hc2 ?_
  clear hW; intro H locs hW
  refine lv_istore (lv' := (6, .int k0) :: LV G b i) hx hb dL_law_1137 hl (by decide) rfl (fun ls hl => ?_)
  refine lv_aload_n hx hb dL_law_1139 rfl (lv_at hl 4 rfl) ?_
  refine law_arg (kv := nI 1) X1 hW hX hbl hbA (lv_at hl 6 rfl) (lv_at hl 1 rfl) rfl (hin 1 (by decide)) dL_law_1140 dL_law_1141 dL_law_1143 dL_law_1144 dL_law_1145 ?_
  refine law_arg (kv := nI 2) X1 hW hX hbl hbA (lv_at hl 6 rfl) (lv_at hl 1 rfl) rfl (hin 2 (by decide)) dL_law_1146 dL_law_1147 dL_law_1149 dL_law_1150 dL_law_1151 ?_
  refine call_V1 X1 hW (kC_X11 k609_10) mt_7_180 mt_7_181 mt_7_182 mvM_lacking (c_X11_lacking k609_10 hf) (by decide) rfl rfl (Nat.zero_le _) hl.1 dL_law_1152 ?_
  clear hW; intro H locs hW
  exact tail_I X1 (by decide) hW hl dL_law_1155 dL_law_1157 dL_law_1158 dL_law_1161 dL_law_1163 dL_law_1168 dL_law_1170 dL_law_1173 dL_law_1174 dL_law_1175 dL_law_1176 dL_law_1178 dL_law_1179 dL_law_1180 dL_law_1185 (by decide) hk hv fun H1 locs1 ls1 w1 w2 => kk H1 locs1 ls1 _ w1 I3 w2
set_option maxRecDepth 20000 in
set_option maxHeartbeats 4000000 in
theorem case_16 {G : Gt} {p : Program} {l : Launch} {e : Env} {R : Room} {s : State} {m : MethodId} {args : Array Value} {below : List Frame} {meth : Method} {c : Code} {H : Heap} {locs : List Loc} {cells slots : Nat} {Q : State → Prop} {b L cN : Nat} {xs : Nat → Int32} {i : Int32} {ls : Array Slot} {σ : St} (X : Cx G p R s m args c cells slots cL_law 10 RL 60) (hc1 : cells + 1 ≤ R.cells) (hc2 : slots + 6 ≤ R.slots) (hW : GW G σ s H locs) (hfl : l.stackTraces = false) (hX : va_X b L xs s s.heap) (hbl : b < s.heap.size) (hbA : ¬ gA G b) (hl : lv_has ls 10 (LV G b i)) (hin : ∀ k : Nat, k < 6 → vp_in (i + nI k) L) (hc : cN < 512) (I : Inv cN σ) (kk : ∀ (H1 : Heap) (locs1 : List Loc) (ls1 : Array Slot) (σ1 : St), GW G σ1 s H1 locs1 → Inv (cN + 1) σ1 → lv_has ls1 10 (LV G b i) → W p l e R s m args below meth c H1 locs1 (cells + 1) (slots + 6) Q (F0 m 1925 ls1 [])) : W p l e R s m args below meth c H locs cells slots Q (F0 m 1188 ls []) := by
  have hx := X.1.1
  have hb := X.1.2.1
  have X1 : Cx G p R s m args c (cells + 1) (slots + 6) cL_law 10 RL 60 := ⟨X.1, X.2.1, X.2.2.1, X.2.2.2.1, hc1, hc2⟩
  obtain ⟨r, σ1, e0, g⟩ := op_campaign hc I
  obtain ⟨r2, σ3, e1, eb, I3, _⟩ := g _ (Un.refl _ _)
  subst eb
  refine lv_aload_n hx hb dL_law_1188 rfl (lv_at hl 4 rfl) ?_
  refine call_V1 X hW (kC_X10 k0_9) mt_2_104 mt_2_105 mt_2_106 mvD_campaign (c_X10_campaign k0_9 e0) (by decide) rfl rfl (Nat.zero_le _) hl.1 dL_law_1189 ?_
  clear hW; intro H locs hW
  refine lv_aload_n hx hb dL_law_1192 rfl (lv_at hl 3 rfl) ?_
  refine call_V1 X hW (kC_X11 k609_10) mt_7_184 mt_7_185 mt_7_186 mvM_campaign (c_X11_campaign k609_10 e1) (by decide) rfl rfl (Nat.le_of_ble_eq_true rfl) hl.1 dL_law_1193 ?_
  clear hW; intro H locs hW
  exact lv_icmp_eq (tgt := 1925) hx hb dL_law_1196 (by decide) (fun _ => W.widen (Nat.le_succ _) (Nat.le_add_right _ _) (kk H locs ls _ hW I3 hl)) (fun q => absurd rfl q)
set_option maxRecDepth 20000 in
set_option maxHeartbeats 4000000 in
theorem case_17 {G : Gt} {p : Program} {l : Launch} {e : Env} {R : Room} {s : State} {m : MethodId} {args : Array Value} {below : List Frame} {meth : Method} {c : Code} {H : Heap} {locs : List Loc} {cells slots : Nat} {Q : State → Prop} {b L cN : Nat} {xs : Nat → Int32} {i : Int32} {ls : Array Slot} {σ : St} (X : Cx G p R s m args c cells slots cL_law 10 RL 60) (hc1 : cells + 1 ≤ R.cells) (hc2 : slots + 6 ≤ R.slots) (hW : GW G σ s H locs) (hfl : l.stackTraces = false) (hX : va_X b L xs s s.heap) (hbl : b < s.heap.size) (hbA : ¬ gA G b) (hl : lv_has ls 10 (LV G b i)) (hin : ∀ k : Nat, k < 6 → vp_in (i + nI k) L) (hc : cN < 512) (I : Inv cN σ) (kk : ∀ (H1 : Heap) (locs1 : List Loc) (ls1 : Array Slot) (σ1 : St), GW G σ1 s H1 locs1 → Inv (cN + 1) σ1 → lv_has ls1 10 (LV G b i) → W p l e R s m args below meth c H1 locs1 (cells + 1) (slots + 6) Q (F0 m 1925 ls1 [])) : W p l e R s m args below meth c H locs cells slots Q (F0 m 1201 ls []) := by
  have hx := X.1.1
  have hb := X.1.2.1
  have X1 : Cx G p R s m args c (cells + 1) (slots + 6) cL_law 10 RL 60 := ⟨X.1, X.2.1, X.2.2.1, X.2.2.2.1, hc1, hc2⟩
  obtain ⟨k0, σ2, σ3, r, hM, hf, hk, hv, I3⟩ := s_worth hc I (aX xs i (nI 1))
  refine lv_aload_n hx hb dL_law_1201 rfl (lv_at hl 4 rfl) ?_
  refine law_arg (kv := nI 1) X hW hX hbl hbA (lv_at hl 5 rfl) (lv_at hl 0 rfl) rfl (hin 1 (by decide)) dL_law_1202 dL_law_1203 dL_law_1205 dL_law_1206 dL_law_1207 ?_
  refine lv_aload_n hx hb dL_law_1208 rfl (lv_at hl 2 rfl) ?_
  refine call_SL X hW mt_5_122 mt_5_123 mvL_worth (hM G l) hfl (by decide) rfl rfl (Nat.zero_le _) hl.1 dL_law_1209 hc1 hc2 ?_
  clear hW; intro H locs hW
  refine lv_istore (lv' := (6, .int k0) :: LV G b i) hx hb dL_law_1212 hl (by decide) rfl (fun ls hl => ?_)
  refine lv_aload_n hx hb dL_law_1214 rfl (lv_at hl 4 rfl) ?_
  refine law_arg (kv := nI 1) X1 hW hX hbl hbA (lv_at hl 6 rfl) (lv_at hl 1 rfl) rfl (hin 1 (by decide)) dL_law_1215 dL_law_1216 dL_law_1218 dL_law_1219 dL_law_1220 ?_
  refine call_V1 X1 hW (kC_X11 k609_10) mt_7_192 mt_7_193 mt_7_194 mvM_worth (c_X11_worth k609_10 hf) (by decide) rfl rfl (Nat.zero_le _) hl.1 dL_law_1221 ?_
  clear hW; intro H locs hW
  exact tail_I X1 (by decide) hW hl dL_law_1224 dL_law_1226 dL_law_1227 dL_law_1230 dL_law_1232 dL_law_1237 dL_law_1239 dL_law_1242 dL_law_1243 dL_law_1244 dL_law_1245 dL_law_1247 dL_law_1248 dL_law_1249 dL_law_1254 (by decide) hk hv fun H1 locs1 ls1 w1 w2 => kk H1 locs1 ls1 _ w1 I3 w2
set_option maxRecDepth 20000 in
set_option maxHeartbeats 4000000 in
theorem case_18 {G : Gt} {p : Program} {l : Launch} {e : Env} {R : Room} {s : State} {m : MethodId} {args : Array Value} {below : List Frame} {meth : Method} {c : Code} {H : Heap} {locs : List Loc} {cells slots : Nat} {Q : State → Prop} {b L cN : Nat} {xs : Nat → Int32} {i : Int32} {ls : Array Slot} {σ : St} (X : Cx G p R s m args c cells slots cL_law 10 RL 60) (hc1 : cells + 1 ≤ R.cells) (hc2 : slots + 6 ≤ R.slots) (hW : GW G σ s H locs) (hfl : l.stackTraces = false) (hX : va_X b L xs s s.heap) (hbl : b < s.heap.size) (hbA : ¬ gA G b) (hl : lv_has ls 10 (LV G b i)) (hin : ∀ k : Nat, k < 6 → vp_in (i + nI k) L) (hc : cN < 512) (I : Inv cN σ) (kk : ∀ (H1 : Heap) (locs1 : List Loc) (ls1 : Array Slot) (σ1 : St), GW G σ1 s H1 locs1 → Inv (cN + 1) σ1 → lv_has ls1 10 (LV G b i) → W p l e R s m args below meth c H1 locs1 (cells + 1) (slots + 6) Q (F0 m 1925 ls1 [])) : W p l e R s m args below meth c H locs cells slots Q (F0 m 1257 ls []) := by
  have hx := X.1.1
  have hb := X.1.2.1
  have X1 : Cx G p R s m args c (cells + 1) (slots + 6) cL_law 10 RL 60 := ⟨X.1, X.2.1, X.2.2.1, X.2.2.2.1, hc1, hc2⟩
  obtain ⟨r, σ1, e0, g⟩ := op_best hc I
  obtain ⟨r2, σ3, e1, eb, I3, _⟩ := g _ (Un.refl _ _)
  subst eb
  refine lv_aload_n hx hb dL_law_1257 rfl (lv_at hl 4 rfl) ?_
  refine call_V1 X hW (kC_X10 k0_9) mt_2_193 mt_2_194 mt_2_195 mvD_best (c_X10_best k0_9 e0) (by decide) rfl rfl (Nat.zero_le _) hl.1 dL_law_1258 ?_
  clear hW; intro H locs hW
  refine lv_aload_n hx hb dL_law_1261 rfl (lv_at hl 3 rfl) ?_
  refine call_V1 X hW (kC_X11 k609_10) mt_7_211 mt_7_212 mt_7_213 mvM_best (c_X11_best k609_10 e1) (by decide) rfl rfl (Nat.le_of_ble_eq_true rfl) hl.1 dL_law_1262 ?_
  clear hW; intro H locs hW
  exact lv_icmp_eq (tgt := 1925) hx hb dL_law_1265 (by decide) (fun _ => W.widen (Nat.le_succ _) (Nat.le_add_right _ _) (kk H locs ls _ hW I3 hl)) (fun q => absurd rfl q)
set_option maxRecDepth 20000 in
set_option maxHeartbeats 4000000 in
theorem case_19 {G : Gt} {p : Program} {l : Launch} {e : Env} {R : Room} {s : State} {m : MethodId} {args : Array Value} {below : List Frame} {meth : Method} {c : Code} {H : Heap} {locs : List Loc} {cells slots : Nat} {Q : State → Prop} {b L cN : Nat} {xs : Nat → Int32} {i : Int32} {ls : Array Slot} {σ : St} (X : Cx G p R s m args c cells slots cL_law 10 RL 60) (hc1 : cells + 1 ≤ R.cells) (hc2 : slots + 6 ≤ R.slots) (hW : GW G σ s H locs) (hfl : l.stackTraces = false) (hX : va_X b L xs s s.heap) (hbl : b < s.heap.size) (hbA : ¬ gA G b) (hl : lv_has ls 10 (LV G b i)) (hin : ∀ k : Nat, k < 6 → vp_in (i + nI k) L) (hc : cN < 512) (I : Inv cN σ) (kk : ∀ (H1 : Heap) (locs1 : List Loc) (ls1 : Array Slot) (σ1 : St), GW G σ1 s H1 locs1 → Inv (cN + 1) σ1 → lv_has ls1 10 (LV G b i) → W p l e R s m args below meth c H1 locs1 (cells + 1) (slots + 6) Q (F0 m 1925 ls1 [])) : W p l e R s m args below meth c H locs cells slots Q (F0 m 1270 ls []) := by
  have hx := X.1.1
  have hb := X.1.2.1
  have X1 : Cx G p R s m args c (cells + 1) (slots + 6) cL_law 10 RL 60 := ⟨X.1, X.2.1, X.2.2.1, X.2.2.2.1, hc1, hc2⟩
  obtain ⟨k0, σ2, σ3, r, hM, hf, hk, hv, I3⟩ := s_chance hc I (aX xs i (nI 1))
  refine lv_aload_n hx hb dL_law_1270 rfl (lv_at hl 4 rfl) ?_
  refine law_arg (kv := nI 1) X hW hX hbl hbA (lv_at hl 5 rfl) (lv_at hl 0 rfl) rfl (hin 1 (by decide)) dL_law_1271 dL_law_1272 dL_law_1274 dL_law_1275 dL_law_1276 ?_
  refine lv_aload hx hb dL_law_1277 (lv_at hl 1 rfl) ?_
  refine call_SL X hW mt_5_129 mt_5_130 mvL_chance (hM G l) hfl (by decide) rfl rfl (Nat.zero_le _) hl.1 dL_law_1279 hc1 hc2 ?_
  clear hW; intro H locs hW
  refine lv_istore (lv' := (6, .int k0) :: LV G b i) hx hb dL_law_1282 hl (by decide) rfl (fun ls hl => ?_)
  refine lv_aload_n hx hb dL_law_1284 rfl (lv_at hl 4 rfl) ?_
  refine law_arg (kv := nI 1) X1 hW hX hbl hbA (lv_at hl 6 rfl) (lv_at hl 1 rfl) rfl (hin 1 (by decide)) dL_law_1285 dL_law_1286 dL_law_1288 dL_law_1289 dL_law_1290 ?_
  refine call_V1 X1 hW (kC_X11 k609_10) mt_7_215 mt_7_216 mt_7_217 mvM_chance (c_X11_chance k609_10 hf) (by decide) rfl rfl (Nat.zero_le _) hl.1 dL_law_1291 ?_
  clear hW; intro H locs hW
  refine lv_dstore (lv' := (7, .double r) :: (6, .int k0) :: LV G b i) hx hb dL_law_1294 hl (by decide) rfl (fun ls hl => ?_)
  refine lv_aload_n hx hb dL_law_1296 rfl (lv_at hl 5 rfl) ?_
  refine law_thrown X1 (by decide) hW hl.1 dL_law_1297 (Nat.zero_le _) ?_
  clear hW; intro H locs hW
  refine lv_iload hx hb dL_law_1300 (lv_at hl 1 rfl) ?_
  refine lv_icmp_eq (tgt := 1307) hx hb dL_law_1302 (by decide) (fun _ => ?_) (fun q => absurd hk q)
  refine lv_iload hx hb dL_law_1307 (lv_at hl 1 rfl) ?_
  have hend : W p l e R s m args below meth c H locs (cells + 1) (slots + 6) Q (F0 m 1344 ls []) := lv_goto (tgt := 1925) hx hb dL_law_1344 (by decide) (kk H locs ls _ hW I3 (lv_sub hl [2, 3, 4, 5, 6, 7] rfl))
  refine lv_if_ne (tgt := 1344) hx hb dL_law_1309 (by decide) (fun _ => hend) (fun hz => ?_)
  have hv0 := hv (hz)
  refine lv_aload hx hb dL_law_1312 (lv_at hl 3 rfl) ?_
  refine lv_iconst (v := 0) hx hb dL_law_1314 (by decide) ?_
  refine r_dald X1 hW k621 in621 dL_law_1315 ?_
  refine lv_dload hx hb dL_law_1316 (lv_at hl 0 rfl) ?_
  refine lv_dcmp hx hb dL_law_1318 ?_
  refine lv_if_eq (tgt := 1344) hx hb dL_law_1319 (by decide) (fun _ => hend) (fun q => ?_)
  exact absurd (dcmp_same hv0.1 hv0.2) q
set_option maxRecDepth 20000 in
set_option maxHeartbeats 4000000 in
theorem case_20 {G : Gt} {p : Program} {l : Launch} {e : Env} {R : Room} {s : State} {m : MethodId} {args : Array Value} {below : List Frame} {meth : Method} {c : Code} {H : Heap} {locs : List Loc} {cells slots : Nat} {Q : State → Prop} {b L cN : Nat} {xs : Nat → Int32} {i : Int32} {ls : Array Slot} {σ : St} (X : Cx G p R s m args c cells slots cL_law 10 RL 60) (hc1 : cells + 1 ≤ R.cells) (hc2 : slots + 6 ≤ R.slots) (hW : GW G σ s H locs) (hfl : l.stackTraces = false) (hX : va_X b L xs s s.heap) (hbl : b < s.heap.size) (hbA : ¬ gA G b) (hl : lv_has ls 10 (LV G b i)) (hin : ∀ k : Nat, k < 6 → vp_in (i + nI k) L) (hc : cN < 512) (I : Inv cN σ) (kk : ∀ (H1 : Heap) (locs1 : List Loc) (ls1 : Array Slot) (σ1 : St), GW G σ1 s H1 locs1 → Inv (cN + 1) σ1 → lv_has ls1 10 (LV G b i) → W p l e R s m args below meth c H1 locs1 (cells + 1) (slots + 6) Q (F0 m 1925 ls1 [])) : W p l e R s m args below meth c H locs cells slots Q (F0 m 1347 ls []) := by
  have hx := X.1.1
  have hb := X.1.2.1
  have X1 : Cx G p R s m args c (cells + 1) (slots + 6) cL_law 10 RL 60 := ⟨X.1, X.2.1, X.2.2.1, X.2.2.2.1, hc1, hc2⟩
  obtain ⟨r, σ1, e0, hn, g⟩ := op_progress2 hc I
  obtain ⟨r2, σ3, e1, eb, I3, _⟩ := g _ (Un.refl _ _)
  subst eb
  refine lv_aload_n hx hb dL_law_1347 rfl (lv_at hl 4 rfl) ?_
  refine call_V1 X hW (kC_X10 k0_9) mt_3_14 mt_3_15 mt_3_16 mvD_progress (c_X10_progress k0_9 e0) (by decide) rfl rfl (Nat.zero_le _) hl.1 dL_law_1348 ?_
  clear hW; intro H locs hW
  refine lv_f2d hx hb dL_law_1351 hn ?_
  refine lv_dstore (lv' := (6, .double (FP.f2d r2)) :: LV G b i) hx hb dL_law_1352 hl (by decide) rfl (fun ls hl => ?_)
  refine lv_aload_n hx hb dL_law_1354 rfl (lv_at hl 4 rfl) ?_
  refine call_V1 X hW (kC_X11 k609_10) mt_7_220 mt_7_221 mt_7_222 mvM_progress (c_X11_progress k609_10 e1) (by decide) rfl rfl (Nat.zero_le _) hl.1 dL_law_1355 ?_
  clear hW; intro H locs hW
  refine lv_f2d hx hb dL_law_1358 hn ?_
  refine lv_dstore (lv' := (8, .double (FP.f2d r2)) :: (6, .double (FP.f2d r2)) :: LV G b i) hx hb dL_law_1359 hl (by decide) rfl (fun ls hl => ?_)
  refine lv_dload hx hb dL_law_1361 (lv_at hl 1 rfl) ?_
  refine lv_dload hx hb dL_law_1363 (lv_at hl 0 rfl) ?_
  refine lv_dcmp hx hb dL_law_1365 ?_
  refine lv_if_eq (tgt := 1387) hx hb dL_law_1366 (by decide) (fun _ => ?_) (fun q => absurd (dcmp_same rfl hn) q)
  refine lv_goto (tgt := 1925) hx hb dL_law_1387 (by decide) ?_
  exact W.widen (Nat.le_succ _) (Nat.le_add_right _ _) (kk H locs ls _ hW I3 (lv_sub hl [2, 3, 4, 5, 6, 7] rfl))
set_option maxRecDepth 20000 in
set_option maxHeartbeats 4000000 in
theorem case_21 {G : Gt} {p : Program} {l : Launch} {e : Env} {R : Room} {s : State} {m : MethodId} {args : Array Value} {below : List Frame} {meth : Method} {c : Code} {H : Heap} {locs : List Loc} {cells slots : Nat} {Q : State → Prop} {b L cN : Nat} {xs : Nat → Int32} {i : Int32} {ls : Array Slot} {σ : St} (X : Cx G p R s m args c cells slots cL_law 10 RL 60) (hc1 : cells + 1 ≤ R.cells) (hc2 : slots + 6 ≤ R.slots) (hW : GW G σ s H locs) (hfl : l.stackTraces = false) (hX : va_X b L xs s s.heap) (hbl : b < s.heap.size) (hbA : ¬ gA G b) (hl : lv_has ls 10 (LV G b i)) (hin : ∀ k : Nat, k < 6 → vp_in (i + nI k) L) (hc : cN < 512) (I : Inv cN σ) (kk : ∀ (H1 : Heap) (locs1 : List Loc) (ls1 : Array Slot) (σ1 : St), GW G σ1 s H1 locs1 → Inv (cN + 1) σ1 → lv_has ls1 10 (LV G b i) → W p l e R s m args below meth c H1 locs1 (cells + 1) (slots + 6) Q (F0 m 1925 ls1 [])) : W p l e R s m args below meth c H locs cells slots Q (F0 m 1390 ls []) := by
  have hx := X.1.1
  have hb := X.1.2.1
  have X1 : Cx G p R s m args c (cells + 1) (slots + 6) cL_law 10 RL 60 := ⟨X.1, X.2.1, X.2.2.1, X.2.2.2.1, hc1, hc2⟩
  obtain ⟨k0, σ2, σ3, r, hM, hf, hk, hv, I3⟩ := s_tell hc I (aX xs i (nI 1)) (aX xs i (nI 2))
  refine lv_aload_n hx hb dL_law_1390 rfl (lv_at hl 4 rfl) ?_
  refine law_arg (kv := nI 1) X hW hX hbl hbA (lv_at hl 5 rfl) (lv_at hl 0 rfl) rfl (hin 1 (by decide)) dL_law_1391 dL_law_1392 dL_law_1394 dL_law_1395 dL_law_1396 ?_
  refine law_arg (kv := nI 2) X hW hX hbl hbA (lv_at hl 5 rfl) (lv_at hl 0 rfl) rfl (hin 2 (by decide)) dL_law_1397 dL_law_1398 dL_law_1400 dL_law_1401 dL_law_1402 ?_
  refine lv_aload_n hx hb dL_law_1403 rfl (lv_at hl 2 rfl) ?_
  refine call_SL X hW mt_5_137 mt_5_138 mvL_tell (hM G l) hfl (by decide) rfl rfl (Nat.zero_le _) hl.1 dL_law_1404 hc1 hc2 ?_
  clear hW; intro H locs hW
  refine lv_istore (lv' := (6, .int k0) :: LV G b i) hx hb dL_law_1407 hl (by decide) rfl (fun ls hl => ?_)
  refine lv_aload_n hx hb dL_law_1409 rfl (lv_at hl 4 rfl) ?_
  refine law_arg (kv := nI 1) X1 hW hX hbl hbA (lv_at hl 6 rfl) (lv_at hl 1 rfl) rfl (hin 1 (by decide)) dL_law_1410 dL_law_1411 dL_law_1413 dL_law_1414 dL_law_1415 ?_
  refine law_arg (kv := nI 2) X1 hW hX hbl hbA (lv_at hl 6 rfl) (lv_at hl 1 rfl) rfl (hin 2 (by decide)) dL_law_1416 dL_law_1417 dL_law_1419 dL_law_1420 dL_law_1421 ?_
  refine call_V1 X1 hW (kC_X11 k609_10) mt_7_224 mt_7_225 mt_7_226 mvM_tell (c_X11_tell k609_10 hf) (by decide) rfl rfl (Nat.zero_le _) hl.1 dL_law_1422 ?_
  clear hW; intro H locs hW
  exact tail_I X1 (by decide) hW hl dL_law_1425 dL_law_1427 dL_law_1428 dL_law_1431 dL_law_1433 dL_law_1438 dL_law_1440 dL_law_1443 dL_law_1444 dL_law_1445 dL_law_1446 dL_law_1448 dL_law_1449 dL_law_1450 dL_law_1455 (by decide) hk hv fun H1 locs1 ls1 w1 w2 => kk H1 locs1 ls1 _ w1 I3 w2
set_option maxRecDepth 20000 in
set_option maxHeartbeats 4000000 in
theorem case_22 {G : Gt} {p : Program} {l : Launch} {e : Env} {R : Room} {s : State} {m : MethodId} {args : Array Value} {below : List Frame} {meth : Method} {c : Code} {H : Heap} {locs : List Loc} {cells slots : Nat} {Q : State → Prop} {b L cN : Nat} {xs : Nat → Int32} {i : Int32} {ls : Array Slot} {σ : St} (X : Cx G p R s m args c cells slots cL_law 10 RL 60) (hc1 : cells + 1 ≤ R.cells) (hc2 : slots + 6 ≤ R.slots) (hW : GW G σ s H locs) (hfl : l.stackTraces = false) (hX : va_X b L xs s s.heap) (hbl : b < s.heap.size) (hbA : ¬ gA G b) (hl : lv_has ls 10 (LV G b i)) (hin : ∀ k : Nat, k < 6 → vp_in (i + nI k) L) (hc : cN < 512) (I : Inv cN σ) (kk : ∀ (H1 : Heap) (locs1 : List Loc) (ls1 : Array Slot) (σ1 : St), GW G σ1 s H1 locs1 → Inv (cN + 1) σ1 → lv_has ls1 10 (LV G b i) → W p l e R s m args below meth c H1 locs1 (cells + 1) (slots + 6) Q (F0 m 1925 ls1 [])) : W p l e R s m args below meth c H locs cells slots Q (F0 m 1458 ls []) := by
  have hx := X.1.1
  have hb := X.1.2.1
  have X1 : Cx G p R s m args c (cells + 1) (slots + 6) cL_law 10 RL 60 := ⟨X.1, X.2.1, X.2.2.1, X.2.2.2.1, hc1, hc2⟩
  obtain ⟨k0, σ2, σ3, r, hM, hf, hk, hv, I3⟩ := s_attempt hc I (aX xs i (nI 1)) (aX xs i (nI 2))
  refine lv_aload_n hx hb dL_law_1458 rfl (lv_at hl 4 rfl) ?_
  refine law_arg (kv := nI 1) X hW hX hbl hbA (lv_at hl 5 rfl) (lv_at hl 0 rfl) rfl (hin 1 (by decide)) dL_law_1459 dL_law_1460 dL_law_1462 dL_law_1463 dL_law_1464 ?_
  refine law_arg (kv := nI 2) X hW hX hbl hbA (lv_at hl 5 rfl) (lv_at hl 0 rfl) rfl (hin 2 (by decide)) dL_law_1465 dL_law_1466 dL_law_1468 dL_law_1469 dL_law_1470 ?_
  refine lv_aload_n hx hb dL_law_1471 rfl (lv_at hl 2 rfl) ?_
  refine call_SL X hW mt_5_164 mt_5_165 mvL_attempt (hM G l) hfl (by decide) rfl rfl (Nat.zero_le _) hl.1 dL_law_1472 hc1 hc2 ?_
  clear hW; intro H locs hW
  refine lv_istore (lv' := (6, .int k0) :: LV G b i) hx hb dL_law_1475 hl (by decide) rfl (fun ls hl => ?_)
  refine lv_aload_n hx hb dL_law_1477 rfl (lv_at hl 4 rfl) ?_
  refine law_arg (kv := nI 1) X1 hW hX hbl hbA (lv_at hl 6 rfl) (lv_at hl 1 rfl) rfl (hin 1 (by decide)) dL_law_1478 dL_law_1479 dL_law_1481 dL_law_1482 dL_law_1483 ?_
  refine law_arg (kv := nI 2) X1 hW hX hbl hbA (lv_at hl 6 rfl) (lv_at hl 1 rfl) rfl (hin 2 (by decide)) dL_law_1484 dL_law_1485 dL_law_1487 dL_law_1488 dL_law_1489 ?_
  refine call_V1 X1 hW (kC_X11 k609_10) mt_7_228 mt_7_229 mt_7_230 mvM_attempt (c_X11_attempt k609_10 hf) (by decide) rfl rfl (Nat.zero_le _) hl.1 dL_law_1490 ?_
  clear hW; intro H locs hW
  exact tail_I X1 (by decide) hW hl dL_law_1493 dL_law_1495 dL_law_1496 dL_law_1499 dL_law_1501 dL_law_1506 dL_law_1508 dL_law_1511 dL_law_1512 dL_law_1513 dL_law_1514 dL_law_1516 dL_law_1517 dL_law_1518 dL_law_1523 (by decide) hk hv fun H1 locs1 ls1 w1 w2 => kk H1 locs1 ls1 _ w1 I3 w2
set_option maxRecDepth 20000 in
set_option maxHeartbeats 4000000 in
theorem case_23 {G : Gt} {p : Program} {l : Launch} {e : Env} {R : Room} {s : State} {m : MethodId} {args : Array Value} {below : List Frame} {meth : Method} {c : Code} {H : Heap} {locs : List Loc} {cells slots : Nat} {Q : State → Prop} {b L cN : Nat} {xs : Nat → Int32} {i : Int32} {ls : Array Slot} {σ : St} (X : Cx G p R s m args c cells slots cL_law 10 RL 60) (hc1 : cells + 1 ≤ R.cells) (hc2 : slots + 6 ≤ R.slots) (hW : GW G σ s H locs) (hfl : l.stackTraces = false) (hX : va_X b L xs s s.heap) (hbl : b < s.heap.size) (hbA : ¬ gA G b) (hl : lv_has ls 10 (LV G b i)) (hin : ∀ k : Nat, k < 6 → vp_in (i + nI k) L) (hc : cN < 512) (I : Inv cN σ) (kk : ∀ (H1 : Heap) (locs1 : List Loc) (ls1 : Array Slot) (σ1 : St), GW G σ1 s H1 locs1 → Inv (cN + 1) σ1 → lv_has ls1 10 (LV G b i) → W p l e R s m args below meth c H1 locs1 (cells + 1) (slots + 6) Q (F0 m 1925 ls1 [])) : W p l e R s m args below meth c H locs cells slots Q (F0 m 1526 ls []) := by
  have hx := X.1.1
  have hb := X.1.2.1
  have X1 : Cx G p R s m args c (cells + 1) (slots + 6) cL_law 10 RL 60 := ⟨X.1, X.2.1, X.2.2.1, X.2.2.2.1, hc1, hc2⟩
  obtain ⟨k0, σ2, σ3, r, hM, hf, hk, hv, I3⟩ := s_play hc I (aX xs i (nI 1))
  refine lv_aload_n hx hb dL_law_1526 rfl (lv_at hl 4 rfl) ?_
  refine law_arg (kv := nI 1) X hW hX hbl hbA (lv_at hl 5 rfl) (lv_at hl 0 rfl) rfl (hin 1 (by decide)) dL_law_1527 dL_law_1528 dL_law_1530 dL_law_1531 dL_law_1532 ?_
  refine lv_aload_n hx hb dL_law_1533 rfl (lv_at hl 2 rfl) ?_
  refine call_SL X hW mt_5_191 mt_5_192 mvL_play (hM G l) hfl (by decide) rfl rfl (Nat.zero_le _) hl.1 dL_law_1534 hc1 hc2 ?_
  clear hW; intro H locs hW
  refine lv_istore (lv' := (6, .int k0) :: LV G b i) hx hb dL_law_1537 hl (by decide) rfl (fun ls hl => ?_)
  refine lv_aload_n hx hb dL_law_1539 rfl (lv_at hl 4 rfl) ?_
  refine law_arg (kv := nI 1) X1 hW hX hbl hbA (lv_at hl 6 rfl) (lv_at hl 1 rfl) rfl (hin 1 (by decide)) dL_law_1540 dL_law_1541 dL_law_1543 dL_law_1544 dL_law_1545 ?_
  refine call_V1 X1 hW (kC_X11 k609_10) mt_8_17 mt_8_18 mt_8_19 mvM_play (c_X11_play k609_10 hf) (by decide) rfl rfl (Nat.zero_le _) hl.1 dL_law_1546 ?_
  clear hW; intro H locs hW
  exact tail_I X1 (by decide) hW hl dL_law_1549 dL_law_1551 dL_law_1552 dL_law_1555 dL_law_1557 dL_law_1562 dL_law_1564 dL_law_1567 dL_law_1568 dL_law_1569 dL_law_1570 dL_law_1572 dL_law_1573 dL_law_1574 dL_law_1579 (by decide) hk hv fun H1 locs1 ls1 w1 w2 => kk H1 locs1 ls1 _ w1 I3 w2
set_option maxRecDepth 20000 in
set_option maxHeartbeats 4000000 in
theorem case_24 {G : Gt} {p : Program} {l : Launch} {e : Env} {R : Room} {s : State} {m : MethodId} {args : Array Value} {below : List Frame} {meth : Method} {c : Code} {H : Heap} {locs : List Loc} {cells slots : Nat} {Q : State → Prop} {b L cN : Nat} {xs : Nat → Int32} {i : Int32} {ls : Array Slot} {σ : St} (X : Cx G p R s m args c cells slots cL_law 10 RL 60) (hc1 : cells + 1 ≤ R.cells) (hc2 : slots + 6 ≤ R.slots) (hW : GW G σ s H locs) (hfl : l.stackTraces = false) (hX : va_X b L xs s s.heap) (hbl : b < s.heap.size) (hbA : ¬ gA G b) (hl : lv_has ls 10 (LV G b i)) (hin : ∀ k : Nat, k < 6 → vp_in (i + nI k) L) (hc : cN < 512) (I : Inv cN σ) (kk : ∀ (H1 : Heap) (locs1 : List Loc) (ls1 : Array Slot) (σ1 : St), GW G σ1 s H1 locs1 → Inv (cN + 1) σ1 → lv_has ls1 10 (LV G b i) → W p l e R s m args below meth c H1 locs1 (cells + 1) (slots + 6) Q (F0 m 1925 ls1 [])) : W p l e R s m args below meth c H locs cells slots Q (F0 m 1582 ls []) := by
  have hx := X.1.1
  have hb := X.1.2.1
  have X1 : Cx G p R s m args c (cells + 1) (slots + 6) cL_law 10 RL 60 := ⟨X.1, X.2.1, X.2.2.1, X.2.2.2.1, hc1, hc2⟩
  obtain ⟨k0, σ2, σ3, r, hM, hf, hk, hv, I3⟩ := s_add hc I (aX xs i (nI 1)) (aX xs i (nI 2))
  refine lv_aload_n hx hb dL_law_1582 rfl (lv_at hl 4 rfl) ?_
  refine law_arg (kv := nI 1) X hW hX hbl hbA (lv_at hl 5 rfl) (lv_at hl 0 rfl) rfl (hin 1 (by decide)) dL_law_1583 dL_law_1584 dL_law_1586 dL_law_1587 dL_law_1588 ?_
  refine law_arg (kv := nI 2) X hW hX hbl hbA (lv_at hl 5 rfl) (lv_at hl 0 rfl) rfl (hin 2 (by decide)) dL_law_1589 dL_law_1590 dL_law_1592 dL_law_1593 dL_law_1594 ?_
  refine lv_aload_n hx hb dL_law_1595 rfl (lv_at hl 2 rfl) ?_
  refine call_SL X hW mt_5_199 mt_5_200 mvL_add (hM G l) hfl (by decide) rfl rfl (Nat.zero_le _) hl.1 dL_law_1596 hc1 hc2 ?_
  clear hW; intro H locs hW
  refine lv_istore (lv' := (6, .int k0) :: LV G b i) hx hb dL_law_1599 hl (by decide) rfl (fun ls hl => ?_)
  refine lv_aload_n hx hb dL_law_1601 rfl (lv_at hl 4 rfl) ?_
  refine law_arg (kv := nI 1) X1 hW hX hbl hbA (lv_at hl 6 rfl) (lv_at hl 1 rfl) rfl (hin 1 (by decide)) dL_law_1602 dL_law_1603 dL_law_1605 dL_law_1606 dL_law_1607 ?_
  refine law_arg (kv := nI 2) X1 hW hX hbl hbA (lv_at hl 6 rfl) (lv_at hl 1 rfl) rfl (hin 2 (by decide)) dL_law_1608 dL_law_1609 dL_law_1611 dL_law_1612 dL_law_1613 ?_
  refine call_V1 X1 hW (kC_X11 k609_10) mt_8_21 mt_8_22 mt_8_23 mvM_add (c_X11_add k609_10 hf) (by decide) rfl rfl (Nat.zero_le _) hl.1 dL_law_1614 ?_
  clear hW; intro H locs hW
  exact tail_I X1 (by decide) hW hl dL_law_1617 dL_law_1619 dL_law_1620 dL_law_1623 dL_law_1625 dL_law_1630 dL_law_1632 dL_law_1635 dL_law_1636 dL_law_1637 dL_law_1638 dL_law_1640 dL_law_1641 dL_law_1642 dL_law_1647 (by decide) hk hv fun H1 locs1 ls1 w1 w2 => kk H1 locs1 ls1 _ w1 I3 w2
set_option maxRecDepth 20000 in
set_option maxHeartbeats 4000000 in
theorem case_25 {G : Gt} {p : Program} {l : Launch} {e : Env} {R : Room} {s : State} {m : MethodId} {args : Array Value} {below : List Frame} {meth : Method} {c : Code} {H : Heap} {locs : List Loc} {cells slots : Nat} {Q : State → Prop} {b L cN : Nat} {xs : Nat → Int32} {i : Int32} {ls : Array Slot} {σ : St} (X : Cx G p R s m args c cells slots cL_law 10 RL 60) (hc1 : cells + 1 ≤ R.cells) (hc2 : slots + 6 ≤ R.slots) (hW : GW G σ s H locs) (hfl : l.stackTraces = false) (hX : va_X b L xs s s.heap) (hbl : b < s.heap.size) (hbA : ¬ gA G b) (hl : lv_has ls 10 (LV G b i)) (hin : ∀ k : Nat, k < 6 → vp_in (i + nI k) L) (hc : cN < 512) (I : Inv cN σ) (kk : ∀ (H1 : Heap) (locs1 : List Loc) (ls1 : Array Slot) (σ1 : St), GW G σ1 s H1 locs1 → Inv (cN + 1) σ1 → lv_has ls1 10 (LV G b i) → W p l e R s m args below meth c H1 locs1 (cells + 1) (slots + 6) Q (F0 m 1925 ls1 [])) : W p l e R s m args below meth c H locs cells slots Q (F0 m 1650 ls []) := by
  have hx := X.1.1
  have hb := X.1.2.1
  have X1 : Cx G p R s m args c (cells + 1) (slots + 6) cL_law 10 RL 60 := ⟨X.1, X.2.1, X.2.2.1, X.2.2.2.1, hc1, hc2⟩
  obtain ⟨k0, σ2, σ3, r, hM, hf, hk, hv, I3⟩ := s_spend hc I (aX xs i (nI 1)) (aX xs i (nI 2))
  refine lv_aload_n hx hb dL_law_1650 rfl (lv_at hl 4 rfl) ?_
  refine law_arg (kv := nI 1) X hW hX hbl hbA (lv_at hl 5 rfl) (lv_at hl 0 rfl) rfl (hin 1 (by decide)) dL_law_1651 dL_law_1652 dL_law_1654 dL_law_1655 dL_law_1656 ?_
  refine law_arg (kv := nI 2) X hW hX hbl hbA (lv_at hl 5 rfl) (lv_at hl 0 rfl) rfl (hin 2 (by decide)) dL_law_1657 dL_law_1658 dL_law_1660 dL_law_1661 dL_law_1662 ?_
  refine lv_aload_n hx hb dL_law_1663 rfl (lv_at hl 2 rfl) ?_
  refine call_SL X hW mt_5_210 mt_5_211 mvL_spend (hM G l) hfl (by decide) rfl rfl (Nat.zero_le _) hl.1 dL_law_1664 hc1 hc2 ?_
  clear hW; intro H locs hW
  refine lv_istore (lv' := (6, .int k0) :: LV G b i) hx hb dL_law_1667 hl (by decide) rfl (fun ls hl => ?_)
  refine lv_aload_n hx hb dL_law_1669 rfl (lv_at hl 4 rfl) ?_
  refine law_arg (kv := nI 1) X1 hW hX hbl hbA (lv_at hl 6 rfl) (lv_at hl 1 rfl) rfl (hin 1 (by decide)) dL_law_1670 dL_law_1671 dL_law_1673 dL_law_1674 dL_law_1675 ?_
  refine law_arg (kv := nI 2) X1 hW hX hbl hbA (lv_at hl 6 rfl) (lv_at hl 1 rfl) rfl (hin 2 (by decide)) dL_law_1676 dL_law_1677 dL_law_1679 dL_law_1680 dL_law_1681 ?_
  refine call_V1 X1 hW (kC_X11 k609_10) mt_8_25 mt_8_26 mt_8_27 mvM_spend (c_X11_spend k609_10 hf) (by decide) rfl rfl (Nat.zero_le _) hl.1 dL_law_1682 ?_
  clear hW; intro H locs hW
  exact tail_I X1 (by decide) hW hl dL_law_1685 dL_law_1687 dL_law_1688 dL_law_1691 dL_law_1693 dL_law_1698 dL_law_1700 dL_law_1703 dL_law_1704 dL_law_1705 dL_law_1706 dL_law_1708 dL_law_1709 dL_law_1710 dL_law_1715 (by decide) hk hv fun H1 locs1 ls1 w1 w2 => kk H1 locs1 ls1 _ w1 I3 w2
set_option maxRecDepth 20000 in
set_option maxHeartbeats 4000000 in
theorem case_26 {G : Gt} {p : Program} {l : Launch} {e : Env} {R : Room} {s : State} {m : MethodId} {args : Array Value} {below : List Frame} {meth : Method} {c : Code} {H : Heap} {locs : List Loc} {cells slots : Nat} {Q : State → Prop} {b L cN : Nat} {xs : Nat → Int32} {i : Int32} {ls : Array Slot} {σ : St} (X : Cx G p R s m args c cells slots cL_law 10 RL 60) (hc1 : cells + 1 ≤ R.cells) (hc2 : slots + 6 ≤ R.slots) (hW : GW G σ s H locs) (hfl : l.stackTraces = false) (hX : va_X b L xs s s.heap) (hbl : b < s.heap.size) (hbA : ¬ gA G b) (hl : lv_has ls 10 (LV G b i)) (hin : ∀ k : Nat, k < 6 → vp_in (i + nI k) L) (hc : cN < 512) (I : Inv cN σ) (kk : ∀ (H1 : Heap) (locs1 : List Loc) (ls1 : Array Slot) (σ1 : St), GW G σ1 s H1 locs1 → Inv (cN + 1) σ1 → lv_has ls1 10 (LV G b i) → W p l e R s m args below meth c H1 locs1 (cells + 1) (slots + 6) Q (F0 m 1925 ls1 [])) : W p l e R s m args below meth c H locs cells slots Q (F0 m 1718 ls []) := by
  have hx := X.1.1
  have hb := X.1.2.1
  have X1 : Cx G p R s m args c (cells + 1) (slots + 6) cL_law 10 RL 60 := ⟨X.1, X.2.1, X.2.2.1, X.2.2.2.1, hc1, hc2⟩
  obtain ⟨k0, σ2, σ3, r, hM, hf, hk, hv, I3⟩ := s_mend hc I (aX xs i (nI 1)) (aX xs i (nI 2))
  refine lv_aload_n hx hb dL_law_1718 rfl (lv_at hl 4 rfl) ?_
  refine law_arg (kv := nI 1) X hW hX hbl hbA (lv_at hl 5 rfl) (lv_at hl 0 rfl) rfl (hin 1 (by decide)) dL_law_1719 dL_law_1720 dL_law_1722 dL_law_1723 dL_law_1724 ?_
  refine law_arg (kv := nI 2) X hW hX hbl hbA (lv_at hl 5 rfl) (lv_at hl 0 rfl) rfl (hin 2 (by decide)) dL_law_1725 dL_law_1726 dL_law_1728 dL_law_1729 dL_law_1730 ?_
  refine lv_aload_n hx hb dL_law_1731 rfl (lv_at hl 2 rfl) ?_
  refine call_SL X hW mt_5_217 mt_5_218 mvL_mend (hM G l) hfl (by decide) rfl rfl (Nat.zero_le _) hl.1 dL_law_1732 hc1 hc2 ?_
  clear hW; intro H locs hW
  refine lv_istore (lv' := (6, .int k0) :: LV G b i) hx hb dL_law_1735 hl (by decide) rfl (fun ls hl => ?_)
  refine lv_aload_n hx hb dL_law_1737 rfl (lv_at hl 4 rfl) ?_
  refine law_arg (kv := nI 1) X1 hW hX hbl hbA (lv_at hl 6 rfl) (lv_at hl 1 rfl) rfl (hin 1 (by decide)) dL_law_1738 dL_law_1739 dL_law_1741 dL_law_1742 dL_law_1743 ?_
  refine law_arg (kv := nI 2) X1 hW hX hbl hbA (lv_at hl 6 rfl) (lv_at hl 1 rfl) rfl (hin 2 (by decide)) dL_law_1744 dL_law_1745 dL_law_1747 dL_law_1748 dL_law_1749 ?_
  refine call_V1 X1 hW (kC_X11 k609_10) mt_8_29 mt_8_30 mt_8_31 mvM_mend (c_X11_mend k609_10 hf) (by decide) rfl rfl (Nat.zero_le _) hl.1 dL_law_1750 ?_
  clear hW; intro H locs hW
  exact tail_I X1 (by decide) hW hl dL_law_1753 dL_law_1755 dL_law_1756 dL_law_1759 dL_law_1761 dL_law_1766 dL_law_1768 dL_law_1771 dL_law_1772 dL_law_1773 dL_law_1774 dL_law_1776 dL_law_1777 dL_law_1778 dL_law_1783 (by decide) hk hv fun H1 locs1 ls1 w1 w2 => kk H1 locs1 ls1 _ w1 I3 w2
set_option maxRecDepth 20000 in
set_option maxHeartbeats 4000000 in
theorem case_27 {G : Gt} {p : Program} {l : Launch} {e : Env} {R : Room} {s : State} {m : MethodId} {args : Array Value} {below : List Frame} {meth : Method} {c : Code} {H : Heap} {locs : List Loc} {cells slots : Nat} {Q : State → Prop} {b L cN : Nat} {xs : Nat → Int32} {i : Int32} {ls : Array Slot} {σ : St} (X : Cx G p R s m args c cells slots cL_law 10 RL 60) (hc1 : cells + 1 ≤ R.cells) (hc2 : slots + 6 ≤ R.slots) (hW : GW G σ s H locs) (hfl : l.stackTraces = false) (hX : va_X b L xs s s.heap) (hbl : b < s.heap.size) (hbA : ¬ gA G b) (hl : lv_has ls 10 (LV G b i)) (hin : ∀ k : Nat, k < 6 → vp_in (i + nI k) L) (hc : cN < 512) (I : Inv cN σ) (kk : ∀ (H1 : Heap) (locs1 : List Loc) (ls1 : Array Slot) (σ1 : St), GW G σ1 s H1 locs1 → Inv (cN + 1) σ1 → lv_has ls1 10 (LV G b i) → W p l e R s m args below meth c H1 locs1 (cells + 1) (slots + 6) Q (F0 m 1925 ls1 [])) : W p l e R s m args below meth c H locs cells slots Q (F0 m 1786 ls []) := by
  have hx := X.1.1
  have hb := X.1.2.1
  have X1 : Cx G p R s m args c (cells + 1) (slots + 6) cL_law 10 RL 60 := ⟨X.1, X.2.1, X.2.2.1, X.2.2.2.1, hc1, hc2⟩
  obtain ⟨k0, σ2, σ3, r, hM, hf, hk, hv, I3⟩ := s_giveUp hc I (aX xs i (nI 1))
  refine lv_aload_n hx hb dL_law_1786 rfl (lv_at hl 4 rfl) ?_
  refine law_arg (kv := nI 1) X hW hX hbl hbA (lv_at hl 5 rfl) (lv_at hl 0 rfl) rfl (hin 1 (by decide)) dL_law_1787 dL_law_1788 dL_law_1790 dL_law_1791 dL_law_1792 ?_
  refine lv_aload_n hx hb dL_law_1793 rfl (lv_at hl 2 rfl) ?_
  refine call_SL X hW mt_5_224 mt_5_225 mvL_giveUp (hM G l) hfl (by decide) rfl rfl (Nat.zero_le _) hl.1 dL_law_1794 hc1 hc2 ?_
  clear hW; intro H locs hW
  refine lv_istore (lv' := (6, .int k0) :: LV G b i) hx hb dL_law_1797 hl (by decide) rfl (fun ls hl => ?_)
  refine lv_aload_n hx hb dL_law_1799 rfl (lv_at hl 4 rfl) ?_
  refine law_arg (kv := nI 1) X1 hW hX hbl hbA (lv_at hl 6 rfl) (lv_at hl 1 rfl) rfl (hin 1 (by decide)) dL_law_1800 dL_law_1801 dL_law_1803 dL_law_1804 dL_law_1805 ?_
  refine call_V1 X1 hW (kC_X11 k609_10) mt_8_33 mt_8_34 mt_8_35 mvM_giveUp (c_X11_giveUp k609_10 hf) (by decide) rfl rfl (Nat.zero_le _) hl.1 dL_law_1806 ?_
  clear hW; intro H locs hW
  exact tail_I X1 (by decide) hW hl dL_law_1809 dL_law_1811 dL_law_1812 dL_law_1815 dL_law_1817 dL_law_1822 dL_law_1824 dL_law_1827 dL_law_1828 dL_law_1829 dL_law_1830 dL_law_1832 dL_law_1833 dL_law_1834 dL_law_1839 (by decide) hk hv fun H1 locs1 ls1 w1 w2 => kk H1 locs1 ls1 _ w1 I3 w2
set_option maxRecDepth 20000 in
set_option maxHeartbeats 4000000 in
theorem case_28 {G : Gt} {p : Program} {l : Launch} {e : Env} {R : Room} {s : State} {m : MethodId} {args : Array Value} {below : List Frame} {meth : Method} {c : Code} {H : Heap} {locs : List Loc} {cells slots : Nat} {Q : State → Prop} {b L cN : Nat} {xs : Nat → Int32} {i : Int32} {ls : Array Slot} {σ : St} (X : Cx G p R s m args c cells slots cL_law 10 RL 60) (hc1 : cells + 1 ≤ R.cells) (hc2 : slots + 6 ≤ R.slots) (hW : GW G σ s H locs) (hfl : l.stackTraces = false) (hX : va_X b L xs s s.heap) (hbl : b < s.heap.size) (hbA : ¬ gA G b) (hl : lv_has ls 10 (LV G b i)) (hin : ∀ k : Nat, k < 6 → vp_in (i + nI k) L) (hc : cN < 512) (I : Inv cN σ) (kk : ∀ (H1 : Heap) (locs1 : List Loc) (ls1 : Array Slot) (σ1 : St), GW G σ1 s H1 locs1 → Inv (cN + 1) σ1 → lv_has ls1 10 (LV G b i) → W p l e R s m args below meth c H1 locs1 (cells + 1) (slots + 6) Q (F0 m 1925 ls1 [])) : W p l e R s m args below meth c H locs cells slots Q (F0 m 1842 ls []) := by
  have hx := X.1.1
  have hb := X.1.2.1
  have X1 : Cx G p R s m args c (cells + 1) (slots + 6) cL_law 10 RL 60 := ⟨X.1, X.2.1, X.2.2.1, X.2.2.2.1, hc1, hc2⟩
  obtain ⟨k0, σ2, σ3, r, hM, hf, hk, hv, I3⟩ := s_reopen hc I (aX xs i (nI 1))
  refine lv_aload_n hx hb dL_law_1842 rfl (lv_at hl 4 rfl) ?_
  refine law_arg (kv := nI 1) X hW hX hbl hbA (lv_at hl 5 rfl) (lv_at hl 0 rfl) rfl (hin 1 (by decide)) dL_law_1843 dL_law_1844 dL_law_1846 dL_law_1847 dL_law_1848 ?_
  refine lv_aload_n hx hb dL_law_1849 rfl (lv_at hl 2 rfl) ?_
  refine call_SL X hW mt_5_231 mt_5_232 mvL_reopen (hM G l) hfl (by decide) rfl rfl (Nat.zero_le _) hl.1 dL_law_1850 hc1 hc2 ?_
  clear hW; intro H locs hW
  refine lv_istore (lv' := (6, .int k0) :: LV G b i) hx hb dL_law_1853 hl (by decide) rfl (fun ls hl => ?_)
  refine lv_aload_n hx hb dL_law_1855 rfl (lv_at hl 4 rfl) ?_
  refine law_arg (kv := nI 1) X1 hW hX hbl hbA (lv_at hl 6 rfl) (lv_at hl 1 rfl) rfl (hin 1 (by decide)) dL_law_1856 dL_law_1857 dL_law_1859 dL_law_1860 dL_law_1861 ?_
  refine call_V1 X1 hW (kC_X11 k609_10) mt_8_37 mt_8_38 mt_8_39 mvM_reopen (c_X11_reopen k609_10 hf) (by decide) rfl rfl (Nat.zero_le _) hl.1 dL_law_1862 ?_
  clear hW; intro H locs hW
  exact tail_I X1 (by decide) hW hl dL_law_1865 dL_law_1867 dL_law_1868 dL_law_1871 dL_law_1873 dL_law_1878 dL_law_1880 dL_law_1883 dL_law_1884 dL_law_1885 dL_law_1886 dL_law_1888 dL_law_1889 dL_law_1890 dL_law_1895 (by decide) hk hv fun H1 locs1 ls1 w1 w2 => kk H1 locs1 ls1 _ w1 I3 w2
set_option maxRecDepth 20000 in
set_option maxHeartbeats 4000000 in
theorem case_29 {G : Gt} {p : Program} {l : Launch} {e : Env} {R : Room} {s : State} {m : MethodId} {args : Array Value} {below : List Frame} {meth : Method} {c : Code} {H : Heap} {locs : List Loc} {cells slots : Nat} {Q : State → Prop} {b L cN : Nat} {xs : Nat → Int32} {i : Int32} {ls : Array Slot} {σ : St} (X : Cx G p R s m args c cells slots cL_law 10 RL 60) (hc1 : cells + 1 ≤ R.cells) (hc2 : slots + 6 ≤ R.slots) (hW : GW G σ s H locs) (hfl : l.stackTraces = false) (hX : va_X b L xs s s.heap) (hbl : b < s.heap.size) (hbA : ¬ gA G b) (hl : lv_has ls 10 (LV G b i)) (hin : ∀ k : Nat, k < 6 → vp_in (i + nI k) L) (hc : cN < 512) (I : Inv cN σ) (kk : ∀ (H1 : Heap) (locs1 : List Loc) (ls1 : Array Slot) (σ1 : St), GW G σ1 s H1 locs1 → Inv (cN + 1) σ1 → lv_has ls1 10 (LV G b i) → W p l e R s m args below meth c H1 locs1 (cells + 1) (slots + 6) Q (F0 m 1925 ls1 [])) : W p l e R s m args below meth c H locs cells slots Q (F0 m 1898 ls []) := by
  have hx := X.1.1
  have hb := X.1.2.1
  have X1 : Cx G p R s m args c (cells + 1) (slots + 6) cL_law 10 RL 60 := ⟨X.1, X.2.1, X.2.2.1, X.2.2.2.1, hc1, hc2⟩
  obtain ⟨r, σ1, e0, g⟩ := op_undo hc I
  obtain ⟨σ3, e1, I3, _⟩ := g _ (Un.refl _ _)
  refine lv_aload_n hx hb dL_law_1898 rfl (lv_at hl 4 rfl) ?_
  refine call_V1 X hW (kC_X10 k0_9) mt_3_90 mt_3_91 mt_3_92 mvD_undo (c_X10_undo k0_9 e0) (by decide) rfl rfl (Nat.zero_le _) hl.1 dL_law_1899 ?_
  clear hW; intro H locs hW
  refine lv_aload_n hx hb dL_law_1902 rfl (lv_at hl 3 rfl) ?_
  refine call_V1 X hW (kC_X11 k609_10) mt_8_41 mt_8_42 mt_8_43 mvM_undo (c_X11_undo k609_10 e1) (by decide) rfl rfl (Nat.le_of_ble_eq_true rfl) hl.1 dL_law_1903 ?_
  clear hW; intro H locs hW
  exact lv_icmp_eq (tgt := 1925) hx hb dL_law_1906 (by decide) (fun _ => W.widen (Nat.le_succ _) (Nat.le_add_right _ _) (kk H locs ls _ hW I3 hl)) (fun q => absurd rfl q)
set_option maxRecDepth 20000 in
set_option maxHeartbeats 4000000 in
theorem case_30 {G : Gt} {p : Program} {l : Launch} {e : Env} {R : Room} {s : State} {m : MethodId} {args : Array Value} {below : List Frame} {meth : Method} {c : Code} {H : Heap} {locs : List Loc} {cells slots : Nat} {Q : State → Prop} {b L cN : Nat} {xs : Nat → Int32} {i : Int32} {ls : Array Slot} {σ : St} (X : Cx G p R s m args c cells slots cL_law 10 RL 60) (hc1 : cells + 1 ≤ R.cells) (hc2 : slots + 6 ≤ R.slots) (hW : GW G σ s H locs) (hfl : l.stackTraces = false) (hX : va_X b L xs s s.heap) (hbl : b < s.heap.size) (hbA : ¬ gA G b) (hl : lv_has ls 10 (LV G b i)) (hin : ∀ k : Nat, k < 6 → vp_in (i + nI k) L) (hc : cN < 512) (I : Inv cN σ) (kk : ∀ (H1 : Heap) (locs1 : List Loc) (ls1 : Array Slot) (σ1 : St), GW G σ1 s H1 locs1 → Inv (cN + 1) σ1 → lv_has ls1 10 (LV G b i) → W p l e R s m args below meth c H1 locs1 (cells + 1) (slots + 6) Q (F0 m 1925 ls1 [])) : W p l e R s m args below meth c H locs cells slots Q (F0 m 1911 ls []) := by
  have hx := X.1.1
  have hb := X.1.2.1
  have X1 : Cx G p R s m args c (cells + 1) (slots + 6) cL_law 10 RL 60 := ⟨X.1, X.2.1, X.2.2.1, X.2.2.2.1, hc1, hc2⟩
  obtain ⟨r, σ1, e0, g⟩ := op_checksum hc I
  obtain ⟨r2, σ3, e1, eb, I3, _⟩ := g _ (Un.refl _ _)
  subst eb
  refine lv_aload_n hx hb dL_law_1911 rfl (lv_at hl 4 rfl) ?_
  refine call_V1 X hW (kC_X10 k0_9) mt_3_99 mt_3_100 mt_3_101 mvD_checksum (c_X10_checksum k0_9 e0) (by decide) rfl rfl (Nat.zero_le _) hl.1 dL_law_1912 ?_
  clear hW; intro H locs hW
  refine lv_aload_n hx hb dL_law_1915 rfl (lv_at hl 3 rfl) ?_
  refine call_V1 X hW (kC_X11 k609_10) mt_8_45 mt_8_46 mt_8_47 mvM_checksum (c_X11_checksum k609_10 e1) (by decide) rfl rfl (Nat.le_of_ble_eq_true rfl) hl.1 dL_law_1916 ?_
  clear hW; intro H locs hW
  refine W.lcmp hx hb dL_law_1919 ?_
  exact lv_if_eq (tgt := 1925) hx hb dL_law_1920 (by decide) (fun _ => W.widen (Nat.le_succ _) (Nat.le_add_right _ _) (kk H locs ls _ hW I3 hl)) (fun q => absurd (lcmp_eq.mpr rfl) q)
