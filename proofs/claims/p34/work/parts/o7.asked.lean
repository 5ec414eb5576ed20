theorem m_5_85 : Cond.methodLink RX11 178 yX10_quest ∈ TB := mem_t5 85 (by decide +kernel)
theorem m_5_86 : Cond.instanceMethod yX10_quest ∈ TB := mem_t5 86 (by decide +kernel)
theorem m_5_87 : Cond.selects RX10 yX10_quest yX10_quest ∈ TB := mem_t5 87 (by decide +kernel)
theorem m_5_88 : Cond.code yX10_quest cX10_quest 4 (some .int) ∈ TB := mem_t5 88 (by decide +kernel)
theorem m_5_98 : Cond.methodLink RX11 181 yX10_stock ∈ TB := mem_t5 98 (by decide +kernel)
theorem m_5_99 : Cond.instanceMethod yX10_stock ∈ TB := mem_t5 99 (by decide +kernel)
theorem m_5_100 : Cond.selects RX10 yX10_stock yX10_stock ∈ TB := mem_t5 100 (by decide +kernel)
theorem m_5_101 : Cond.code yX10_stock cX10_stock 2 (some .int) ∈ TB := mem_t5 101 (by decide +kernel)
theorem m_5_105 : Cond.methodLink RX11 183 yX10_holds ∈ TB := mem_t5 105 (by decide +kernel)
theorem m_5_106 : Cond.instanceMethod yX10_holds ∈ TB := mem_t5 106 (by decide +kernel)
theorem m_5_107 : Cond.selects RX10 yX10_holds yX10_holds ∈ TB := mem_t5 107 (by decide +kernel)
theorem m_5_108 : Cond.code yX10_holds cX10_holds 4 (some .boolean) ∈ TB := mem_t5 108 (by decide +kernel)
theorem mv_X10_holds : MV yX10_holds cX10_holds 4 (some .boolean) 2 := ⟨m_5_108, by decide +kernel, m_1_18, ⟨by decide +kernel, by decide +kernel, by decide +kernel⟩, by decide⟩
theorem mv_X10_stock : MV yX10_stock cX10_stock 2 (some .int) 1 := ⟨m_5_101, by decide +kernel, m_1_18, ⟨by decide +kernel, by decide +kernel, by decide +kernel⟩, by decide⟩
theorem mv_X10_quest : MV yX10_quest cX10_quest 4 (some .int) 2 := ⟨m_5_88, by decide +kernel, m_1_18, ⟨by decide +kernel, by decide +kernel, by decide +kernel⟩, by decide⟩
/-! ISASKED, from its end on -/
theorem shl_all : ∀ n, n < 5 → ishl 1 (nI n) = nI (2 ^ n) := by decide +kernel
theorem pow4 {n : Nat} (h : n ≤ 4) : 2 ^ n ≤ 16 := by
  have : ∀ n, n < 5 → 2 ^ n ≤ 16 := by decide
  exact this n (by omega)
set_option maxHeartbeats 4000000 in
theorem ia_9 {G : Gm} {l : Launch} {p : Program} {e : Env} {s : State} {m : MethodId} {args : Array Value} {below : List Frame} {meth : Method} {c : Code} {Q : State → Prop} {z mc1 ms1 : Nat} {A : Nat → Prop} {τ σ : St}
    (X : Cx (gB G) p (rmC 16 mc1 ms1) s m args c 0 0 cX11_isAsked 8 yX11_isAsked.cls 16) (hA : ∀ q, q < s.heap.size → A q → gA (gB G) q) (hzz : ∀ q, z ≤ q ∧ q < z + 609 → gA (gB G) q) (hzA : ∀ q, z ≤ q ∧ q < z + 609 → A q) (hsep : ∀ i, kv G i ≠ 99 → ga G i < z ∨ z + 609 ≤ ga G i) (hgn : gn G ≤ 4)
    (hend : ∀ (H : Heap) (locs : List Loc) (cells slots : Nat) (ls : Array Slot), CQ (gB G) z σ H → PG G τ H → va_S A s.heap H locs → cells ≤ mc1 → slots ≤ ms1 → lv_has ls 8 [(0, .ref (ga G 1000)), (1, .ref z)] → W p l e (rmC 16 mc1 ms1) s m args below meth c H locs cells slots Q (F0 m 512 ls []))
    (h11 : ∀ k, k < 2 ^ gn G → ∃ r, pf_X10_holds 0 0 (nI k) σ = some (.inr r) ∧ pf_X11_holds 1000 (nI k) τ = some r) :
    ∀ (j k : Nat), k + j = 2 ^ gn G → ∀ (H : Heap) (locs : List Loc) (cells slots : Nat) (ls : Array Slot), CQ (gB G) z σ H → PG G τ H → va_S A s.heap H locs → cells ≤ mc1 → slots ≤ ms1 → lv_has ls 8 [(6, .int (nI k)), (0, .ref (ga G 1000)), (1, .ref z)] → W p l e (rmC 16 mc1 ms1) s m args below meth c H locs cells slots Q (F0 m 474 ls []) := by
  have hx := X.1.1
  have hb := X.1.2.1
  have h16 := pow4 hgn
  have hsh := shl_all (gn G) (by omega)
  intro j
  induction j with
  | zero =>
    intro k hk H locs cells slots ls hP hPG hS hc hs hl
    have hk : k = 2 ^ gn G := by omega
    refine lv_iload hx hb dX11_isAsked_474 (lv_at hl 0 rfl) ?_
    refine lv_iconst (v := 1) hx hb dX11_isAsked_476 (by decide) ?_
    refine lv_aload_n hx hb dX11_isAsked_477 rfl (lv_at hl 1 rfl) ?_
    refine gg_X11_steps (G := G) X hPG (kv_1000 _) m_3_62 dX11_isAsked_478 ?_
    refine gw_size (G := G) X hPG hS hA m_3_119 (by decide) (Nat.le_of_ble_eq_true rfl) hl.1 dX11_isAsked_481 (c_R hc) (s_R hs) ?_
    refine w_ishl hx hb dX11_isAsked_484 ?_
    refine lv_to (y := nI (2 ^ gn G)) hsh ?_
    refine lv_icmp_ge (tgt := 512) hx hb dX11_isAsked_485 (by decide) (fun _ => ?_) (fun hc => absurd (by rw [hk]; exact Int32.le_refl _) hc)
    exact hend H locs cells slots ls hP hPG hS hc hs (lv_sub hl [1, 2] rfl)
  | succ j ih =>
    intro k hk H locs cells slots ls hP hPG hS hc hs hl
    have hkn : k < 2 ^ gn G := by omega
    obtain ⟨r, hr1, hr2⟩ := h11 k hkn
    refine lv_iload hx hb dX11_isAsked_474 (lv_at hl 0 rfl) ?_
    refine lv_iconst (v := 1) hx hb dX11_isAsked_476 (by decide) ?_
    refine lv_aload_n hx hb dX11_isAsked_477 rfl (lv_at hl 1 rfl) ?_
    refine gg_X11_steps (G := G) X hPG (kv_1000 _) m_3_62 dX11_isAsked_478 ?_
    refine gw_size (G := G) X hPG hS hA m_3_119 (by decide) (Nat.le_of_ble_eq_true rfl) hl.1 dX11_isAsked_481 (c_R hc) (s_R hs) ?_
    refine w_ishl hx hb dX11_isAsked_484 ?_
    refine lv_to (y := nI (2 ^ gn G)) hsh ?_
    refine lv_icmp_ge (tgt := 512) hx hb dX11_isAsked_485 (by decide) (fun hc => absurd hc (nI_ge hkn (by omega))) (fun _ => ?_)
    refine lv_aload_n hx hb dX11_isAsked_488 rfl (lv_at hl 2 rfl) ?_
    refine lv_iconst (v := 0) hx hb dX11_isAsked_489 (by decide) ?_
    refine lv_iload hx hb dX11_isAsked_490 (lv_at hl 0 rfl) ?_
    refine callC_V (b := 0) (z := z) (σ := σ) (As := [.int 0, .int (nI k)]) X hS hA hzz hzA hP (C := RX10) (kC_X10 kd_0) m_5_105 m_5_106 m_5_107 mv_X10_holds (c_X10_holds (G := subG (gB G) z) (v0 := 0) kd_0 hr1) (by decide) rfl rfl (Nat.le_of_ble_eq_true rfl) hl.1 dX11_isAsked_492 (c_R hc) (s_R hs) fun H1 locs pH1 zH1 oH1 SH1 => ?_
    have tH1 := hPG.lt
    replace hPG := hPG.kept (fun i hi => oH1 _ (tH1 i hi) (by have := hsep i hi; omega))
    replace hP := pH1
    replace hS := SH1
    clear oH1 zH1 tH1
    refine lv_aload_n hx hb dX11_isAsked_495 rfl (lv_at hl 1 rfl) ?_
    refine lv_iload hx hb dX11_isAsked_496 (lv_at hl 0 rfl) ?_
    refine callP_V (r := (RX11, TX11, 9)) (As := [.int (nI k)]) X hS hA (Mv.h fun H => PG G τ H) (fun U hU _ => by rw [hU]; exact hPG) (hPG.a20 (kv_1000 _)) rfl m_3_129 m_3_130 m_3_131 mv_X11_holds (cr_X11_holds (G := G) (kv_1000 _) hr2) (by decide) rfl rfl (Nat.le_of_ble_eq_true rfl) hl.1 dX11_isAsked_498 (c_R hc) (s_R hs) ?_
    refine lv_icmp_eq (tgt := 506) hx hb dX11_isAsked_501 (by decide) (fun _ => ?_) (fun hc => absurd rfl hc)
    refine lv_iinc (lv' := [(6, .int (nI (k + 1))), (0, .ref (ga G 1000)), (1, .ref z)]) (k := 0) hx hb dX11_isAsked_506 hl rfl (nI_1 k) (by decide) rfl ?_
    clear hl; intro ls hl
    refine lv_goto (tgt := 474) hx hb dX11_isAsked_509 (by decide) ?_
    exact ih (k + 1) (by omega) H1 locs cells slots ls hP hPG hS hc hs (lv_sub hl [0, 1, 2] rfl)
set_option maxHeartbeats 4000000 in
theorem ia_8 {G : Gm} {l : Launch} {p : Program} {e : Env} {s : State} {m : MethodId} {args : Array Value} {below : List Frame} {meth : Method} {c : Code} {Q : State → Prop} {z mc1 ms1 : Nat} {A : Nat → Prop} {τ σ : St}
    (X : Cx (gB G) p (rmC 16 mc1 ms1) s m args c 0 0 cX11_isAsked 8 yX11_isAsked.cls 16) (hA : ∀ q, q < s.heap.size → A q → gA (gB G) q) (hzz : ∀ q, z ≤ q ∧ q < z + 609 → gA (gB G) q) (hzA : ∀ q, z ≤ q ∧ q < z + 609 → A q) (hsep : ∀ i, kv G i ≠ 99 → ga G i < z ∨ z + 609 ≤ ga G i) (hgn : gn G ≤ 4)
    (hend : ∀ (H : Heap) (locs : List Loc) (cells slots : Nat) (ls : Array Slot), CQ (gB G) z σ H → PG G τ H → va_S A s.heap H locs → cells ≤ mc1 → slots ≤ ms1 → lv_has ls 8 [(0, .ref (ga G 1000)), (1, .ref z)] → W p l e (rmC 16 mc1 ms1) s m args below meth c H locs cells slots Q (F0 m 512 ls []))
    (h11 : ∀ k, k < 2 ^ gn G → ∃ r, pf_X10_holds 0 0 (nI k) σ = some (.inr r) ∧ pf_X11_holds 1000 (nI k) τ = some r) (h10 : ∀ i, i < 3 → pf_X10_stock 0 (nI i) σ = some (.inr (gI τ 1002 i))) :
    ∀ (j k : Nat), k + j = 3 → ∀ (H : Heap) (locs : List Loc) (cells slots : Nat) (ls : Array Slot), CQ (gB G) z σ H → PG G τ H → va_S A s.heap H locs → cells ≤ mc1 → slots ≤ ms1 → lv_has ls 8 [(6, .int (nI k)), (0, .ref (ga G 1000)), (1, .ref z)] → W p l e (rmC 16 mc1 ms1) s m args below meth c H locs cells slots Q (F0 m 441 ls []) := by
  have hx := X.1.1
  have hb := X.1.2.1
  intro j
  induction j with
  | zero =>
    intro k hk H locs cells slots ls hP hPG hS hc hs hl
    obtain rfl : k = 3 := by omega
    refine lv_iload hx hb dX11_isAsked_441 (lv_at hl 0 rfl) ?_
    refine lv_iconst (v := 3) hx hb dX11_isAsked_443 (by decide) ?_
    refine lv_icmp_ge (tgt := 471) hx hb dX11_isAsked_444 (by decide) (fun _ => ?_) (fun hc => absurd (by decide +kernel) hc)
    refine lv_iconst (v := 0) hx hb dX11_isAsked_471 (by decide) ?_
    refine lv_istore (lv' := [(6, .int 0), (0, .ref (ga G 1000)), (1, .ref z)]) hx hb dX11_isAsked_472 hl (by decide) rfl ?_
    clear hl; intro ls hl
    exact ia_9 X hA hzz hzA hsep hgn hend h11 (2 ^ gn G) 0 (Nat.zero_add _) H locs cells slots ls hP hPG hS hc hs (lv_sub hl [0, 1, 2] rfl)
  | succ j ih =>
    intro k hk H locs cells slots ls hP hPG hS hc hs hl
    have hkn : k < 3 := by omega
    refine lv_iload hx hb dX11_isAsked_441 (lv_at hl 0 rfl) ?_
    refine lv_iconst (v := 3) hx hb dX11_isAsked_443 (by decide) ?_
    refine lv_icmp_ge (tgt := 471) hx hb dX11_isAsked_444 (by decide) (fun hc => absurd hc (by rw [show (3 : Int32) = nI 3 from rfl]; exact nI_ge hkn (by decide))) (fun _ => ?_)
    refine lv_aload_n hx hb dX11_isAsked_447 rfl (lv_at hl 2 rfl) ?_
    refine lv_iload hx hb dX11_isAsked_448 (lv_at hl 0 rfl) ?_
    refine callC_V (b := 0) (z := z) (σ := σ) (As := [.int (nI k)]) X hS hA hzz hzA hP (C := RX10) (kC_X10 kd_0) m_5_98 m_5_99 m_5_100 mv_X10_stock (c_X10_stock (G := subG (gB G) z) (v0 := 0) kd_0 (h10 k hkn)) (by decide) rfl rfl (Nat.le_of_ble_eq_true rfl) hl.1 dX11_isAsked_450 (c_R hc) (s_R hs) fun H1 locs pH1 zH1 oH1 SH1 => ?_
    have tH1 := hPG.lt
    replace hPG := hPG.kept (fun i hi => oH1 _ (tH1 i hi) (by have := hsep i hi; omega))
    replace hP := pH1
    replace hS := SH1
    clear oH1 zH1 tH1
    refine lv_aload_n hx hb dX11_isAsked_453 rfl (lv_at hl 1 rfl) ?_
    refine gg_X11_stock (G := G) X hPG (kv_1000 _) m_3_64 dX11_isAsked_454 ?_
    refine lv_iload hx hb dX11_isAsked_457 (lv_at hl 0 rfl) ?_
    refine rg_iald (G := G) (i := 1002) X hPG (kv_1002 _) (nI_in hkn (by decide)) dX11_isAsked_459 ?_
    refine lv_to (y := gI τ 1002 k) (by rw [nI_clamp (by omega)]) ?_
    refine lv_icmp_eq (tgt := 465) hx hb dX11_isAsked_460 (by decide) (fun _ => ?_) (fun hc => absurd rfl hc)
    refine lv_iinc (lv' := [(6, .int (nI (k + 1))), (0, .ref (ga G 1000)), (1, .ref z)]) (k := 0) hx hb dX11_isAsked_465 hl rfl (nI_1 k) (by decide) rfl ?_
    clear hl; intro ls hl
    refine lv_goto (tgt := 441) hx hb dX11_isAsked_468 (by decide) ?_
    exact ih (k + 1) (by omega) H1 locs cells slots ls hP hPG hS hc hs (lv_sub hl [0, 1, 2] rfl)
set_option maxHeartbeats 4000000 in
theorem ia_7 {G : Gm} {l : Launch} {p : Program} {e : Env} {s : State} {m : MethodId} {args : Array Value} {below : List Frame} {meth : Method} {c : Code} {Q : State → Prop} {z mc1 ms1 : Nat} {A : Nat → Prop} {τ σ : St}
    (X : Cx (gB G) p (rmC 16 mc1 ms1) s m args c 0 0 cX11_isAsked 8 yX11_isAsked.cls 16) (hA : ∀ q, q < s.heap.size → A q → gA (gB G) q) (hzz : ∀ q, z ≤ q ∧ q < z + 609 → gA (gB G) q) (hzA : ∀ q, z ≤ q ∧ q < z + 609 → A q) (hsep : ∀ i, kv G i ≠ 99 → ga G i < z ∨ z + 609 ≤ ga G i) (hgn : gn G ≤ 4)
    (hend : ∀ (H : Heap) (locs : List Loc) (cells slots : Nat) (ls : Array Slot), CQ (gB G) z σ H → PG G τ H → va_S A s.heap H locs → cells ≤ mc1 → slots ≤ ms1 → lv_has ls 8 [(0, .ref (ga G 1000)), (1, .ref z)] → W p l e (rmC 16 mc1 ms1) s m args below meth c H locs cells slots Q (F0 m 512 ls []))
    (h11 : ∀ k, k < 2 ^ gn G → ∃ r, pf_X10_holds 0 0 (nI k) σ = some (.inr r) ∧ pf_X11_holds 1000 (nI k) τ = some r) (h10 : ∀ i, i < 3 → pf_X10_stock 0 (nI i) σ = some (.inr (gI τ 1002 i))) {dn br cn : Int32} (hdn : pf_X11_done 1000 τ = some dn) (h91 : pf_X10_quest 0 0 1 σ = some (.inr (gI τ 1000 3))) (h92 : pf_X10_quest 0 0 2 σ = some (.inr dn)) (h93 : pf_X10_quest 0 0 3 σ = some (.inr br)) (h97 : pf_X10_quest 0 0 7 σ = some (.inr cn)) :
    ∀ (H : Heap) (locs : List Loc) (cells slots : Nat) (ls : Array Slot), CQ (gB G) z σ H → PG G τ H → va_S A s.heap H locs → cells ≤ mc1 → slots ≤ ms1 → lv_has ls 8 [(4, .int cn), (5, .int br), (0, .ref (ga G 1000)), (1, .ref z)] → W p l e (rmC 16 mc1 ms1) s m args below meth c H locs cells slots Q (F0 m 387 ls []) := by
  have hx := X.1.1
  have hb := X.1.2.1
  intro H locs cells slots ls hP hPG hS hc hs hl
  refine lv_aload_n hx hb dX11_isAsked_387 rfl (lv_at hl 3 rfl) ?_
  refine lv_iconst (v := 0) hx hb dX11_isAsked_388 (by decide) ?_
  refine lv_iconst (v := 1) hx hb dX11_isAsked_389 (by decide) ?_
  refine callC_V (b := 0) (z := z) (σ := σ) (As := [.int 0, .int 1]) X hS hA hzz hzA hP (C := RX10) (kC_X10 kd_0) m_5_85 m_5_86 m_5_87 mv_X10_quest (c_X10_quest (G := subG (gB G) z) (v0 := 0) kd_0 h91) (by decide) rfl rfl (Nat.le_of_ble_eq_true rfl) hl.1 dX11_isAsked_390 (c_R hc) (s_R hs) fun H1 locs pH1 zH1 oH1 SH1 => ?_
  have tH1 := hPG.lt
  replace hPG := hPG.kept (fun i hi => oH1 _ (tH1 i hi) (by have := hsep i hi; omega))
  replace hP := pH1
  replace hS := SH1
  clear oH1 zH1 tH1
  refine lv_aload_n hx hb dX11_isAsked_393 rfl (lv_at hl 2 rfl) ?_
  refine gg_X11_state (G := G) X hPG (kv_1000 _) m_3_68 dX11_isAsked_394 ?_
  refine lv_icmp_ne (tgt := 436) hx hb dX11_isAsked_397 (by decide) (fun hc => absurd rfl hc) (fun _ => ?_)
  refine lv_aload_n hx hb dX11_isAsked_400 rfl (lv_at hl 3 rfl) ?_
  refine lv_iconst (v := 0) hx hb dX11_isAsked_401 (by decide) ?_
  refine lv_iconst (v := 2) hx hb dX11_isAsked_402 (by decide) ?_
  refine callC_V (b := 0) (z := z) (σ := σ) (As := [.int 0, .int 2]) X hS hA hzz hzA hP (C := RX10) (kC_X10 kd_0) m_5_85 m_5_86 m_5_87 mv_X10_quest (c_X10_quest (G := subG (gB G) z) (v0 := 0) kd_0 h92) (by decide) rfl rfl (Nat.le_of_ble_eq_true rfl) hl.1 dX11_isAsked_403 (c_R hc) (s_R hs) fun H2 locs pH2 zH2 oH2 SH2 => ?_
  have tH2 := hPG.lt
  replace hPG := hPG.kept (fun i hi => oH2 _ (tH2 i hi) (by have := hsep i hi; omega))
  replace hP := pH2
  replace hS := SH2
  clear oH2 zH2 tH2
  refine lv_aload_n hx hb dX11_isAsked_406 rfl (lv_at hl 2 rfl) ?_
  refine callP_V (r := (RX11, TX11, 9)) (As := []) X hS hA (Mv.h fun H => PG G τ H) (fun U hU _ => by rw [hU]; exact hPG) (hPG.a20 (kv_1000 _)) rfl m_3_115 m_3_116 m_3_117 mv_X11_done (cr_X11_done (G := G) (kv_1000 _) hdn) (by decide) rfl rfl (Nat.le_of_ble_eq_true rfl) hl.1 dX11_isAsked_407 (c_R hc) (s_R hs) ?_
  refine lv_icmp_ne (tgt := 436) hx hb dX11_isAsked_410 (by decide) (fun hc => absurd rfl hc) (fun _ => ?_)
  refine lv_aload_n hx hb dX11_isAsked_413 rfl (lv_at hl 3 rfl) ?_
  refine lv_iconst (v := 0) hx hb dX11_isAsked_414 (by decide) ?_
  refine lv_iconst (v := 3) hx hb dX11_isAsked_415 (by decide) ?_
  refine callC_V (b := 0) (z := z) (σ := σ) (As := [.int 0, .int 3]) X hS hA hzz hzA hP (C := RX10) (kC_X10 kd_0) m_5_85 m_5_86 m_5_87 mv_X10_quest (c_X10_quest (G := subG (gB G) z) (v0 := 0) kd_0 h93) (by decide) rfl rfl (Nat.le_of_ble_eq_true rfl) hl.1 dX11_isAsked_416 (c_R hc) (s_R hs) fun H3 locs pH3 zH3 oH3 SH3 => ?_
  have tH3 := hPG.lt
  replace hPG := hPG.kept (fun i hi => oH3 _ (tH3 i hi) (by have := hsep i hi; omega))
  replace hP := pH3
  replace hS := SH3
  clear oH3 zH3 tH3
  refine lv_iload hx hb dX11_isAsked_419 (lv_at hl 1 rfl) ?_
  refine lv_icmp_ne (tgt := 436) hx hb dX11_isAsked_421 (by decide) (fun hc => absurd rfl hc) (fun _ => ?_)
  refine lv_aload_n hx hb dX11_isAsked_424 rfl (lv_at hl 3 rfl) ?_
  refine lv_iconst (v := 0) hx hb dX11_isAsked_425 (by decide) ?_
  refine lv_bipush (v := 7) hx hb dX11_isAsked_426 (by decide) ?_
  refine callC_V (b := 0) (z := z) (σ := σ) (As := [.int 0, .int 7]) X hS hA hzz hzA hP (C := RX10) (kC_X10 kd_0) m_5_85 m_5_86 m_5_87 mv_X10_quest (c_X10_quest (G := subG (gB G) z) (v0 := 0) kd_0 h97) (by decide) rfl rfl (Nat.le_of_ble_eq_true rfl) hl.1 dX11_isAsked_428 (c_R hc) (s_R hs) fun H4 locs pH4 zH4 oH4 SH4 => ?_
  have tH4 := hPG.lt
  replace hPG := hPG.kept (fun i hi => oH4 _ (tH4 i hi) (by have := hsep i hi; omega))
  replace hP := pH4
  replace hS := SH4
  clear oH4 zH4 tH4
  refine lv_iload hx hb dX11_isAsked_431 (lv_at hl 0 rfl) ?_
  refine lv_icmp_eq (tgt := 438) hx hb dX11_isAsked_433 (by decide) (fun _ => ?_) (fun hc => absurd rfl hc)
  refine lv_iconst (v := 0) hx hb dX11_isAsked_438 (by decide) ?_
  refine lv_istore (lv' := [(6, .int 0), (4, .int cn), (5, .int br), (0, .ref (ga G 1000)), (1, .ref z)]) hx hb dX11_isAsked_439 hl (by decide) rfl ?_
  clear hl; intro ls hl
  exact ia_8 X hA hzz hzA hsep hgn hend h11 h10 3 0 rfl H4 locs cells slots ls hP hPG hS hc hs (lv_sub hl [0, 3, 4] rfl)
