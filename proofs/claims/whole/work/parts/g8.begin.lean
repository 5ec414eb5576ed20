/-! THE LAW: how it begins -/
theorem n_1_30 : Cond.classLink RL 8 RX10 ∈ TB := mem_t1 30 (by decide +kernel)
theorem n_1_31 : Cond.instantiable RX10 9 ∈ TB := mem_t1 31 (by decide +kernel)
theorem n_1_32 : Cond.methodLink RL 96 yX10_init ∈ TB := mem_t1 32 (by decide +kernel)
theorem n_1_33 : Cond.instanceMethod yX10_init ∈ TB := mem_t1 33 (by decide +kernel)
theorem n_1_34 : Cond.code yX10_init cX10_init 1 none ∈ TB := mem_t1 34 (by decide +kernel)
theorem n_1_1 : Cond.initialized RX10 ∈ TB := mem_t1 1 (by decide +kernel)
theorem n_1_11 : Cond.initialized RX11 ∈ TB := mem_t1 11 (by decide +kernel)
theorem n_5_239 : Cond.classLink RL 97 RX11 ∈ TB := mem_t5 239 (by decide +kernel)
theorem n_6_0 : Cond.instantiable RX11 27 ∈ TB := mem_t6 0 (by decide +kernel)
theorem n_6_1 : Cond.methodLink RL 99 yX11_init ∈ TB := mem_t6 1 (by decide +kernel)
theorem n_6_2 : Cond.instanceMethod yX11_init ∈ TB := mem_t6 2 (by decide +kernel)
theorem n_1_239 : Cond.arrayClass (newarray.typeOf .long) ∈ TB := mem_t1 239 (by decide +kernel)
theorem n_8_53 : Cond.arrayClass (newarray.typeOf .double) ∈ TB := mem_t8 53 (by decide +kernel)
theorem mvI_X10 : MV yX10_init cX10_init 1 none 0 := ⟨n_1_34, by decide +kernel, n_1_1, ⟨by decide +kernel, by decide +kernel, by decide +kernel⟩, by decide⟩
theorem a620 : alen 620 = 1 := by decide +kernel
theorem a621 : alen 621 = 1 := by decide +kernel
section
variable {G : Gt} {p : Program} {l : Launch} {e : Env} {R : Room} {s : State} {m : MethodId} {args : Array Value} {below : List Frame} {meth : Method} {c : Code} {Q : State → Prop} {b : Nat} {ls : Array Slot}
theorem CW.GW {H : Heap} {locs : List Loc} (h : CW G (ct G σ0) 0 622 s H locs) : GW G σ0 s H locs := by
  obtain ⟨h1, h2, h3⟩ := h
  refine ⟨?_, h3⟩
  have e : wl G σ0 = wlE G (ct G σ0) 0 622 := by
    unfold wl wlE
    simp only [Nat.zero_add]
    rfl
  rw [e]
  exact h2
set_option maxRecDepth 20000 in
set_option maxHeartbeats 4000000 in
theorem law_begin (hfix : CallFix p m c cL_law 10 s args TB RL) (hE : EnvS G s) (hAO : AO3 s) (hz : s.heap.size = gz G) (hR1 : 60 ≤ R.frames) (hR2 : 2400 ≤ R.locals) (hR3 : 1200 ≤ R.cells) (hR4 : 80000 ≤ R.slots) (hl : lv_has ls 10 [(0, .ref b)])
    (kk : ∀ (H : Heap) (locs : List Loc) (ls : Array Slot), GW G σ0 s H locs → lv_has ls 10 (LV G b (nI 0)) → W p l e R s m args below meth c H locs 622 70166 Q (F0 m 28 ls [])) : W p l e R s m args below meth c s.heap [] 0 0 Q (F0 m 0 ls []) := by
  have hx := hfix.1
  have hb := hfix.2.1
  have X : CI G p R s m args c cL_law 10 RL 60 0 := ⟨hfix, hE, hR1, hR2, by omega, hAO⟩
  have hW : CW G (va_up (ct G σ0) 0 (.inr (9, [.null, .int 0, .int 0, .null, .null, .null, .null, .null, .null]))) 0 0 s s.heap [] := by
    refine ⟨hz, fun k q hq => ?_, va_S.rf⟩
    obtain ⟨hk, -⟩ := wlE_key G _ hq
    exact absurd hk (Nat.not_lt_zero _)
  refine o_new (ci := 9) (fs := [.null, .int 0, .int 0, .null, .null, .null, .null, .null, .null]) X hW inTB_X10 tyX10 tyX10_ok rfl (va_up_self _ _ _) (by decide +kernel) n_1_30 n_1_31 n_1_1 (by omega) (by omega) dL_law_0 fun H hW => ?_
  refine lv_dup hx hb dL_law_3 rfl ?_
  refine o_callI X hW (va_up_self _ _ _) n_1_32 n_1_33 mvI_X10 rfl (i_X10_init 0 k0_9) (by decide) (Nat.le_of_ble_eq_true rfl) hl.1 dL_law_4 (by omega) (by omega) (ct G σ0) (fun j hj => absurd hj (Nat.not_lt_zero _)) (fun j hj => rfl) fun H locs hW => ?_
  refine lv_astore_n (lv' := [(1, .ref (gz G + 0)), (0, .ref b)]) hx hb dL_law_7 rfl hl (by decide) rfl (fun ls hl => ?_)
  have hW : CW G (va_up (ct G σ0) 609 (.inr (10, [.int 0, .null, .null, .int 0, .int 0, .null, .null, .null, .null, .int 0, .null, .int 0, .null, .null, .int 0, .int 0, .int 0, .int 0, .int 0, .int 0, .int 0, .int 0, .int 0, .int 0, .int 0, .int 0, .null]))) 0 609 s _ _ := CW.to hW (fun j hj => (va_up_ne _ _ (by omega)).symm)
  refine o_new (ci := 10) (fs := [.int 0, .null, .null, .int 0, .int 0, .null, .null, .null, .null, .int 0, .null, .int 0, .null, .null, .int 0, .int 0, .int 0, .int 0, .int 0, .int 0, .int 0, .int 0, .int 0, .int 0, .int 0, .int 0, .null]) X hW inTB_X11 tyX11 tyX11_ok rfl (va_up_self _ _ _) (by decide +kernel) n_5_239 n_6_0 n_1_11 (by omega) (by omega) dL_law_8 fun H hW => ?_
  refine lv_dup hx hb dL_law_11 rfl ?_
  refine o_callI X hW (va_up_self _ _ _) n_6_1 n_6_2 mv_X11_init rfl (i_X11_init 609 k609_10) (by decide) (Nat.le_of_ble_eq_true rfl) hl.1 dL_law_12 (by omega) (by omega) (ct G σ0) (fun j hj => va_up_ne _ _ (by omega)) (fun j hj => rfl) fun H locs hW => ?_
  refine lv_astore_n (lv' := [(2, .ref (gz G + 609)), (1, .ref (gz G + 0)), (0, .ref b)]) hx hb dL_law_15 rfl hl (by decide) rfl (fun ls hl => ?_)
  refine lv_iconst (v := 1) hx hb dL_law_16 (by decide) ?_
  refine o_newa (atype := .long) (ty := .long) (t := 1) (N := 1) (a0 := (1, .inr (.inl (fun _ => 0)))) X hW n_1_239 rfl rfl (fun _ h => by cases h) rfl (z0_12 G k620 a620) (by decide +kernel) (by decide +kernel) (Nat.le_of_ble_eq_true rfl) (by omega) (by omega) dL_law_17 fun H hW => ?_
  refine lv_astore_n (lv' := [(3, .ref (gz G + 620)), (2, .ref (gz G + 609)), (1, .ref (gz G + 0)), (0, .ref b)]) hx hb dL_law_19 rfl hl (by decide) rfl (fun ls hl => ?_)
  refine lv_iconst (v := 1) hx hb dL_law_20 (by decide) ?_
  refine o_newa (atype := .double) (ty := .double) (t := 3) (N := 1) (a0 := (1, .inr (.inr (.inr (.inl (fun _ => 0)))))) X hW n_8_53 rfl rfl (fun _ h => by cases h) rfl (z0_14 G k621 a621) (by decide +kernel) (by decide +kernel) (Nat.le_of_ble_eq_true rfl) (by omega) (by omega) dL_law_21 fun H hW => ?_
  refine lv_astore (lv' := [(4, .ref (gz G + 621)), (3, .ref (gz G + 620)), (2, .ref (gz G + 609)), (1, .ref (gz G + 0)), (0, .ref b)]) hx hb dL_law_23 hl (by decide) rfl (fun ls hl => ?_)
  refine lv_iconst (v := nI 0) hx hb dL_law_25 (by decide) ?_
  refine lv_istore (lv' := LV G b (nI 0)) hx hb dL_law_26 hl (by decide) rfl (fun ls hl => ?_)
  exact kk H _ ls (CW.GW hW) hl
end
