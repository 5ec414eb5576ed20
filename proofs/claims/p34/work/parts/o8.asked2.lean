theorem m_5_63 : Cond.methodLink RX11 171 yX10_step ∈ TB := mem_t5 63 (by decide +kernel)
theorem m_5_64 : Cond.instanceMethod yX10_step ∈ TB := mem_t5 64 (by decide +kernel)
theorem m_5_65 : Cond.selects RX10 yX10_step yX10_step ∈ TB := mem_t5 65 (by decide +kernel)
theorem m_5_66 : Cond.code yX10_step cX10_step 5 (some .int) ∈ TB := mem_t5 66 (by decide +kernel)
theorem m_5_76 : Cond.methodLink RX11 175 yX10_why ∈ TB := mem_t5 76 (by decide +kernel)
theorem m_5_77 : Cond.instanceMethod yX10_why ∈ TB := mem_t5 77 (by decide +kernel)
theorem m_5_78 : Cond.selects RX10 yX10_why yX10_why ∈ TB := mem_t5 78 (by decide +kernel)
theorem m_5_79 : Cond.code yX10_why cX10_why 3 (some .int) ∈ TB := mem_t5 79 (by decide +kernel)
theorem mv_X10_why : MV yX10_why cX10_why 3 (some .int) 2 := ⟨m_5_79, by decide +kernel, m_1_18, ⟨by decide +kernel, by decide +kernel, by decide +kernel⟩, by decide⟩
theorem mv_X10_step : MV yX10_step cX10_step 5 (some .int) 3 := ⟨m_5_66, by decide +kernel, m_1_18, ⟨by decide +kernel, by decide +kernel, by decide +kernel⟩, by decide⟩
/-! ISASKED: its steps -/
noncomputable def canA (cF : Nat → Int32) : Nat → Int32
  | 0 => 0
  | k + 1 => canA cF k ||| (if cF k = 0 then 0 else ishl 1 (nI k))
noncomputable def broA (τ : St) : Nat → Int32
  | 0 => 0
  | k + 1 => broA τ k ||| (if gI τ (1005 + 4 * k) 2 = gI τ (1005 + 4 * k) 1 then ishl 1 (nI k) else 0)
set_option maxHeartbeats 8000000 in
theorem ia_6 {G : Gm} {l : Launch} {p : Program} {e : Env} {s : State} {m : MethodId} {args : Array Value} {below : List Frame} {meth : Method} {c : Code} {Q : State → Prop} {z mc1 ms1 : Nat} {A : Nat → Prop} {τ σ : St}
    (X : Cx (gB G) p (rmC 16 mc1 ms1) s m args c 0 0 cX11_isAsked 8 yX11_isAsked.cls 16) (hA : ∀ q, q < s.heap.size → A q → gA (gB G) q) (hzz : ∀ q, z ≤ q ∧ q < z + 609 → gA (gB G) q) (hzA : ∀ q, z ≤ q ∧ q < z + 609 → A q) (hsep : ∀ i, kv G i ≠ 99 → ga G i < z ∨ z + 609 ≤ ga G i) (hgn : gn G ≤ 4)
    (hend : ∀ (H : Heap) (locs : List Loc) (cells slots : Nat) (ls : Array Slot), CQ (gB G) z σ H → PG G τ H → va_S A s.heap H locs → cells ≤ mc1 → slots ≤ ms1 → lv_has ls 8 [(0, .ref (ga G 1000)), (1, .ref z)] → W p l e (rmC 16 mc1 ms1) s m args below meth c H locs cells slots Q (F0 m 512 ls []))
    (h11 : ∀ k, k < 2 ^ gn G → ∃ r, pf_X10_holds 0 0 (nI k) σ = some (.inr r) ∧ pf_X11_holds 1000 (nI k) τ = some r) (h10 : ∀ i, i < 3 → pf_X10_stock 0 (nI i) σ = some (.inr (gI τ 1002 i))) {dn : Int32} {cF : Nat → Int32} (hdn : pf_X11_done 1000 τ = some dn) (h91 : pf_X10_quest 0 0 1 σ = some (.inr (gI τ 1000 3))) (h92 : pf_X10_quest 0 0 2 σ = some (.inr dn)) (h93 : pf_X10_quest 0 0 3 σ = some (.inr (broA τ (gn G)))) (h97 : pf_X10_quest 0 0 7 σ = some (.inr (canA cF (gn G)))) (h8 : ∀ k, k < gn G → pf_X11_can 1000 (nI k) dn 1002 τ = some (cF k) ∧ pf_X10_step 0 0 (nI k) 2 σ = some (.inr (gI τ (1005 + 4 * k) 2)) ∧ pf_X10_step 0 0 (nI k) 3 σ = some (.inr (if gI τ (1005 + 4 * k) 5 = 0 then 0 else 1)) ∧ ∃ w, pf_X10_why 0 0 (nI k) σ = some (.inr w) ∧ (if w = 0 then 1 else 0) = cF k) :
    ∀ (j k : Nat), k + j = gn G → ∀ (H : Heap) (locs : List Loc) (cells slots : Nat) (ls : Array Slot), CQ (gB G) z σ H → PG G τ H → va_S A s.heap H locs → cells ≤ mc1 → slots ≤ ms1 → lv_has ls 8 [(6, .int (nI k)), (5, .int (broA τ k)), (4, .int (canA cF k)), (0, .ref (ga G 1000)), (1, .ref z)] → W p l e (rmC 16 mc1 ms1) s m args below meth c H locs cells slots Q (F0 m 225 ls []) := by
  have hx := X.1.1
  have hb := X.1.2.1
  intro j
  induction j with
  | zero =>
    intro k hk H locs cells slots ls hP hPG hS hc hs hl
    have hk : k = gn G := by omega
    refine lv_iload hx hb dX11_isAsked_225 (lv_at hl 0 rfl) ?_
    refine lv_aload_n hx hb dX11_isAsked_227 rfl (lv_at hl 3 rfl) ?_
    refine gg_X11_steps (G := G) X hPG (kv_1000 _) m_3_62 dX11_isAsked_228 ?_
    refine gw_size (G := G) X hPG hS hA m_3_119 (by decide) (Nat.le_of_ble_eq_true rfl) hl.1 dX11_isAsked_231 (c_R hc) (s_R hs) ?_
    refine lv_icmp_ge (tgt := 387) hx hb dX11_isAsked_234 (by decide) (fun _ => ?_) (fun hc => absurd (by rw [hk]; exact Int32.le_refl _) hc)
    subst hk
    exact ia_7 X hA hzz hzA hsep hgn hend h11 h10 hdn h91 h92 h93 h97 H locs cells slots ls hP hPG hS hc hs (lv_sub hl [2, 1, 3, 4] rfl)
  | succ j ih =>
    intro k hk H0 locs0 cells0 slots0 ls0 hP0 hPG0 hS0 hc0 hs0 hl0
    have hkn : k < gn G := by omega
    have hk25 : kv G (1005 + 4 * k) = 25 := kv_stN hkn hgn
    obtain ⟨hcn, h2, h3, w0, hw1, hw2⟩ := h8 k hkn
    have m4 : ∀ (x : Int32) (H : Heap) (locs : List Loc) (cells slots : Nat) (ls : Array Slot), x = cF k → CQ (gB G) z σ H → PG G τ H → va_S A s.heap H locs → cells ≤ mc1 → slots ≤ ms1 → lv_has ls 8 [(7, .ref (ga G (1005 + 4 * k))), (6, .int (nI k)), (5, .int (broA τ (k + 1))), (4, .int (canA cF (k + 1))), (0, .ref (ga G 1000)), (1, .ref z)] → W p l e (rmC 16 mc1 ms1) s m args below meth c H locs cells slots Q (F0 m 362 ls [.int x]) := by
      intro x H locs cells slots ls hxc hP hPG hS hc hs hl
      refine lv_aload_n hx hb dX11_isAsked_362 rfl (lv_at hl 4 rfl) ?_
      refine lv_iload hx hb dX11_isAsked_363 (lv_at hl 1 rfl) ?_
      refine lv_aload_n hx hb dX11_isAsked_365 rfl (lv_at hl 4 rfl) ?_
      refine callP_V (r := (RX11, TX11, 9)) (As := []) X hS hA (Mv.h fun H => PG G τ H) (fun U hU _ => by rw [hU]; exact hPG) (hPG.a20 (kv_1000 _)) rfl m_3_115 m_3_116 m_3_117 mv_X11_done (cr_X11_done (G := G) (kv_1000 _) hdn) (by decide) rfl rfl (Nat.le_of_ble_eq_true rfl) hl.1 dX11_isAsked_366 (c_R hc) (s_R hs) ?_
      refine lv_aload_n hx hb dX11_isAsked_369 rfl (lv_at hl 4 rfl) ?_
      refine gg_X11_stock (G := G) X hPG (kv_1000 _) m_3_64 dX11_isAsked_370 ?_
      refine callP_V (r := (RX11, TX11, 9)) (As := [.int (nI k), .int dn, .ref (ga G 1002)]) X hS hA (Mv.h fun H => PG G τ H) (fun U hU _ => by rw [hU]; exact hPG) (hPG.a20 (kv_1000 _)) rfl m_3_123 m_3_124 m_3_125 mv_X11_can (cr_X11_can (G := G) (kv_1000 _) (kv_1002 _) hcn) (by decide) rfl rfl (Nat.le_of_ble_eq_true rfl) hl.1 dX11_isAsked_373 (c_R hc) (s_R hs) ?_
      refine lv_icmp_eq (tgt := 381) hx hb dX11_isAsked_376 (by decide) (fun _ => ?_) (fun hc => absurd hxc hc)
      refine lv_iinc (lv' := [(6, .int (nI (k + 1))), (7, .ref (ga G (1005 + 4 * k))), (5, .int (broA τ (k + 1))), (4, .int (canA cF (k + 1))), (0, .ref (ga G 1000)), (1, .ref z)]) (k := 1) hx hb dX11_isAsked_381 hl rfl (nI_1 k) (by decide) rfl ?_
      clear hl; intro ls hl
      refine lv_goto (tgt := 225) hx hb dX11_isAsked_384 (by decide) ?_
      exact ih (k + 1) (by omega) H locs cells slots ls hP hPG hS hc hs (lv_sub hl [0, 2, 3, 4, 5] rfl)
    have m3 : ∀ (x : Int32) (H : Heap) (locs : List Loc) (cells slots : Nat) (ls : Array Slot), CQ (gB G) z σ H → PG G τ H → va_S A s.heap H locs → cells ≤ mc1 → slots ≤ ms1 → lv_has ls 8 [(7, .ref (ga G (1005 + 4 * k))), (6, .int (nI k)), (5, .int (broA τ (k + 1))), (4, .int (canA cF (k + 1))), (0, .ref (ga G 1000)), (1, .ref z)] → W p l e (rmC 16 mc1 ms1) s m args below meth c H locs cells slots Q (F0 m 344 ls [.int x, .int x]) := by
      intro x H locs cells slots ls hP hPG hS hc hs hl
      refine lv_icmp_ne (tgt := 379) hx hb dX11_isAsked_344 (by decide) (fun hc => absurd rfl hc) (fun _ => ?_)
      refine lv_aload_n hx hb dX11_isAsked_347 rfl (lv_at hl 5 rfl) ?_
      refine lv_iconst (v := 0) hx hb dX11_isAsked_348 (by decide) ?_
      refine lv_iload hx hb dX11_isAsked_349 (lv_at hl 1 rfl) ?_
      refine callC_V (b := 0) (z := z) (σ := σ) (As := [.int 0, .int (nI k)]) X hS hA hzz hzA hP (C := RX10) (kC_X10 kd_0) m_5_76 m_5_77 m_5_78 mv_X10_why (c_X10_why (G := subG (gB G) z) (v0 := 0) kd_0 hw1) (by decide) rfl rfl (Nat.le_of_ble_eq_true rfl) hl.1 dX11_isAsked_351 (c_R hc) (s_R hs) fun H1 locs pH1 zH1 oH1 SH1 => ?_
      have tH1 := hPG.lt
      replace hPG := hPG.kept (fun i hi => oH1 _ (tH1 i hi) (by have := hsep i hi; omega))
      replace hP := pH1
      replace hS := SH1
      clear oH1 zH1 tH1
      refine lv_if_ne (tgt := 361) hx hb dX11_isAsked_354 (by decide) (fun hne => ?_) (fun heq => ?_)
      · refine lv_iconst (v := 0) hx hb dX11_isAsked_361 (by decide) ?_
        exact m4 0 H1 locs cells slots ls (by rw [← hw2, if_neg hne]) hP hPG hS hc hs (lv_sub hl [0, 1, 2, 3, 4, 5] rfl)
      · refine lv_iconst (v := 1) hx hb dX11_isAsked_357 (by decide) ?_
        refine lv_goto (tgt := 362) hx hb dX11_isAsked_358 (by decide) ?_
        exact m4 1 H1 locs cells slots ls (by rw [← hw2, if_pos heq]) hP hPG hS hc hs (lv_sub hl [0, 1, 2, 3, 4, 5] rfl)
    have m2 : ∀ (x : Int32) (H : Heap) (locs : List Loc) (cells slots : Nat) (ls : Array Slot), x = (if gI τ (1005 + 4 * k) 2 = gI τ (1005 + 4 * k) 1 then ishl 1 (nI k) else 0) → CQ (gB G) z σ H → PG G τ H → va_S A s.heap H locs → cells ≤ mc1 → slots ≤ ms1 → lv_has ls 8 [(7, .ref (ga G (1005 + 4 * k))), (6, .int (nI k)), (5, .int (broA τ k)), (4, .int (canA cF (k + 1))), (0, .ref (ga G 1000)), (1, .ref z)] → W p l e (rmC 16 mc1 ms1) s m args below meth c H locs cells slots Q (F0 m 304 ls [.int x, .int (broA τ k)]) := by
      intro x H locs cells slots ls hxc hP hPG hS hc hs hl
      refine lv_ior hx hb dX11_isAsked_304 ?_
      refine lv_to (y := broA τ (k + 1)) (by rw [hxc]; rfl) ?_
      refine lv_istore (lv' := [(5, .int (broA τ (k + 1))), (7, .ref (ga G (1005 + 4 * k))), (6, .int (nI k)), (4, .int (canA cF (k + 1))), (0, .ref (ga G 1000)), (1, .ref z)]) hx hb dX11_isAsked_305 hl (by decide) rfl ?_
      clear hl; intro ls hl
      refine lv_aload_n hx hb dX11_isAsked_307 rfl (lv_at hl 5 rfl) ?_
      refine lv_iconst (v := 0) hx hb dX11_isAsked_308 (by decide) ?_
      refine lv_iload hx hb dX11_isAsked_309 (lv_at hl 2 rfl) ?_
      refine lv_iconst (v := 2) hx hb dX11_isAsked_311 (by decide) ?_
      refine callC_V (b := 0) (z := z) (σ := σ) (As := [.int 0, .int (nI k), .int 2]) X hS hA hzz hzA hP (C := RX10) (kC_X10 kd_0) m_5_63 m_5_64 m_5_65 mv_X10_step (c_X10_step (G := subG (gB G) z) (v0 := 0) kd_0 h2) (by decide) rfl rfl (Nat.le_of_ble_eq_true rfl) hl.1 dX11_isAsked_312 (c_R hc) (s_R hs) fun H1 locs pH1 zH1 oH1 SH1 => ?_
      have tH1 := hPG.lt
      replace hPG := hPG.kept (fun i hi => oH1 _ (tH1 i hi) (by have := hsep i hi; omega))
      replace hP := pH1
      replace hS := SH1
      clear oH1 zH1 tH1
      refine lv_aload hx hb dX11_isAsked_315 (lv_at hl 1 rfl) ?_
      refine gg_X12_fails (G := G) X hPG hk25 m_5_120 dX11_isAsked_317 ?_
      refine lv_icmp_ne (tgt := 379) hx hb dX11_isAsked_320 (by decide) (fun hc => absurd rfl hc) (fun _ => ?_)
      refine lv_aload_n hx hb dX11_isAsked_323 rfl (lv_at hl 5 rfl) ?_
      refine lv_iconst (v := 0) hx hb dX11_isAsked_324 (by decide) ?_
      refine lv_iload hx hb dX11_isAsked_325 (lv_at hl 2 rfl) ?_
      refine lv_iconst (v := 3) hx hb dX11_isAsked_327 (by decide) ?_
      refine callC_V (b := 0) (z := z) (σ := σ) (As := [.int 0, .int (nI k), .int 3]) X hS hA hzz hzA hP (C := RX10) (kC_X10 kd_0) m_5_63 m_5_64 m_5_65 mv_X10_step (c_X10_step (G := subG (gB G) z) (v0 := 0) kd_0 h3) (by decide) rfl rfl (Nat.le_of_ble_eq_true rfl) hl.1 dX11_isAsked_328 (c_R hc) (s_R hs) fun H2 locs pH2 zH2 oH2 SH2 => ?_
      have tH2 := hPG.lt
      replace hPG := hPG.kept (fun i hi => oH2 _ (tH2 i hi) (by have := hsep i hi; omega))
      replace hP := pH2
      replace hS := SH2
      clear oH2 zH2 tH2
      refine lv_aload hx hb dX11_isAsked_331 (lv_at hl 1 rfl) ?_
      refine gg_X12_isDone (G := G) X hPG hk25 m_5_125 dX11_isAsked_333 ?_
      refine lv_if_eq (tgt := 343) hx hb dX11_isAsked_336 (by decide) (fun heq => ?_) (fun hne => ?_)
      · refine lv_iconst (v := 0) hx hb dX11_isAsked_343 (by decide) ?_
        rw [if_pos heq]
        exact m3 0 H2 locs cells slots ls hP hPG hS hc hs (lv_sub hl [1, 2, 0, 3, 4, 5] rfl)
      · refine lv_iconst (v := 1) hx hb dX11_isAsked_339 (by decide) ?_
        refine lv_goto (tgt := 344) hx hb dX11_isAsked_340 (by decide) ?_
        rw [if_neg hne]
        exact m3 1 H2 locs cells slots ls hP hPG hS hc hs (lv_sub hl [1, 2, 0, 3, 4, 5] rfl)
    have m1 : ∀ (x : Int32) (H : Heap) (locs : List Loc) (cells slots : Nat) (ls : Array Slot), x = (if cF k = 0 then 0 else ishl 1 (nI k)) → CQ (gB G) z σ H → PG G τ H → va_S A s.heap H locs → cells ≤ mc1 → slots ≤ ms1 → lv_has ls 8 [(7, .ref (ga G (1005 + 4 * k))), (6, .int (nI k)), (5, .int (broA τ k)), (4, .int (canA cF k)), (0, .ref (ga G 1000)), (1, .ref z)] → W p l e (rmC 16 mc1 ms1) s m args below meth c H locs cells slots Q (F0 m 278 ls [.int x, .int (canA cF k)]) := by
      intro x H locs cells slots ls hxc hP hPG hS hc hs hl
      refine lv_ior hx hb dX11_isAsked_278 ?_
      refine lv_to (y := canA cF (k + 1)) (by rw [hxc]; rfl) ?_
      refine lv_istore (lv' := [(4, .int (canA cF (k + 1))), (7, .ref (ga G (1005 + 4 * k))), (6, .int (nI k)), (5, .int (broA τ k)), (0, .ref (ga G 1000)), (1, .ref z)]) hx hb dX11_isAsked_279 hl (by decide) rfl ?_
      clear hl; intro ls hl
      refine lv_iload hx hb dX11_isAsked_281 (lv_at hl 3 rfl) ?_
      refine lv_aload hx hb dX11_isAsked_283 (lv_at hl 1 rfl) ?_
      refine gg_X12_fails (G := G) X hPG hk25 m_5_120 dX11_isAsked_285 ?_
      refine lv_aload hx hb dX11_isAsked_288 (lv_at hl 1 rfl) ?_
      refine gg_X12_limit (G := G) X hPG hk25 m_5_118 dX11_isAsked_290 ?_
      refine lv_icmp_ne (tgt := 303) hx hb dX11_isAsked_293 (by decide) (fun hne => ?_) (fun heq => ?_)
      · refine lv_iconst (v := 0) hx hb dX11_isAsked_303 (by decide) ?_
        exact m2 0 H locs cells slots ls (if_neg hne).symm hP hPG hS hc hs (lv_sub hl [1, 2, 3, 0, 4, 5] rfl)
      · skip
        refine lv_iconst (v := 1) hx hb dX11_isAsked_296 (by decide) ?_
        refine lv_iload hx hb dX11_isAsked_297 (lv_at hl 2 rfl) ?_
        refine w_ishl hx hb dX11_isAsked_299 ?_
        refine lv_goto (tgt := 304) hx hb dX11_isAsked_300 (by decide) ?_
        exact m2 (ishl 1 (nI k)) H locs cells slots ls (if_pos heq).symm hP hPG hS hc hs (lv_sub hl [1, 2, 3, 0, 4, 5] rfl)
    have hP := hP0; have hPG := hPG0; have hS := hS0; have hc := hc0; have hs := hs0; have hl := hl0
    refine lv_iload hx hb dX11_isAsked_225 (lv_at hl 0 rfl) ?_
    refine lv_aload_n hx hb dX11_isAsked_227 rfl (lv_at hl 3 rfl) ?_
    refine gg_X11_steps (G := G) X hPG (kv_1000 _) m_3_62 dX11_isAsked_228 ?_
    refine gw_size (G := G) X hPG hS hA m_3_119 (by decide) (Nat.le_of_ble_eq_true rfl) hl.1 dX11_isAsked_231 (c_R hc) (s_R hs) ?_
    refine lv_icmp_ge (tgt := 387) hx hb dX11_isAsked_234 (by decide) (fun hc => absurd hc (nI_ge hkn (by omega))) (fun _ => ?_)
    refine lv_aload_n hx hb dX11_isAsked_237 rfl (lv_at hl 3 rfl) ?_
    refine gg_X11_steps (G := G) X hPG (kv_1000 _) m_3_62 dX11_isAsked_238 ?_
    refine lv_iload hx hb dX11_isAsked_241 (lv_at hl 0 rfl) ?_
    refine gw_get (G := G) (k := k) X hPG hS hA hkn m_3_100 (by decide) (Nat.le_of_ble_eq_true rfl) hl.1 dX11_isAsked_243 (c_R hc) (s_R hs) ?_
    refine rg_cast (G := G) X hPG hk25 m_3_114 dX11_isAsked_246 ?_
    refine lv_astore (lv' := [(7, .ref (ga G (1005 + 4 * k))), (6, .int (nI k)), (5, .int (broA τ k)), (4, .int (canA cF k)), (0, .ref (ga G 1000)), (1, .ref z)]) hx hb dX11_isAsked_249 hl (by decide) rfl ?_
    clear hl; intro ls hl
    refine lv_iload hx hb dX11_isAsked_251 (lv_at hl 3 rfl) ?_
    refine lv_aload_n hx hb dX11_isAsked_253 rfl (lv_at hl 4 rfl) ?_
    refine lv_iload hx hb dX11_isAsked_254 (lv_at hl 1 rfl) ?_
    refine lv_aload_n hx hb dX11_isAsked_256 rfl (lv_at hl 4 rfl) ?_
    refine callP_V (r := (RX11, TX11, 9)) (As := []) X hS hA (Mv.h fun H => PG G τ H) (fun U hU _ => by rw [hU]; exact hPG) (hPG.a20 (kv_1000 _)) rfl m_3_115 m_3_116 m_3_117 mv_X11_done (cr_X11_done (G := G) (kv_1000 _) hdn) (by decide) rfl rfl (Nat.le_of_ble_eq_true rfl) hl.1 dX11_isAsked_257 (c_R hc) (s_R hs) ?_
    refine lv_aload_n hx hb dX11_isAsked_260 rfl (lv_at hl 4 rfl) ?_
    refine gg_X11_stock (G := G) X hPG (kv_1000 _) m_3_64 dX11_isAsked_261 ?_
    refine callP_V (r := (RX11, TX11, 9)) (As := [.int (nI k), .int dn, .ref (ga G 1002)]) X hS hA (Mv.h fun H => PG G τ H) (fun U hU _ => by rw [hU]; exact hPG) (hPG.a20 (kv_1000 _)) rfl m_3_123 m_3_124 m_3_125 mv_X11_can (cr_X11_can (G := G) (kv_1000 _) (kv_1002 _) hcn) (by decide) rfl rfl (Nat.le_of_ble_eq_true rfl) hl.1 dX11_isAsked_264 (c_R hc) (s_R hs) ?_
    refine lv_if_eq (tgt := 277) hx hb dX11_isAsked_267 (by decide) (fun heq => ?_) (fun hne => ?_)
    · refine lv_iconst (v := 0) hx hb dX11_isAsked_277 (by decide) ?_
      exact m1 0 H0 _ _ _ _ (if_pos heq).symm hP hPG hS hc hs (lv_sub hl [0, 1, 2, 3, 4, 5] rfl)
    · skip
      refine lv_iconst (v := 1) hx hb dX11_isAsked_270 (by decide) ?_
      refine lv_iload hx hb dX11_isAsked_271 (lv_at hl 1 rfl) ?_
      refine w_ishl hx hb dX11_isAsked_273 ?_
      refine lv_goto (tgt := 278) hx hb dX11_isAsked_274 (by decide) ?_
      exact m1 (ishl 1 (nI k)) H0 _ _ _ _ (if_neg hne).symm hP hPG hS hc hs (lv_sub hl [0, 1, 2, 3, 4, 5] rfl)
