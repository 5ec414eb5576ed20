section
variable {G : Gt} {p : Program} {l : Launch} {e : Env} {R : Room} {s : State} {m : MethodId} {args : Array Value} {below : List Frame} {meth : Method} {c : Code} {cells slots : Nat} {Q : State → Prop}
set_option maxRecDepth 20000 in
set_option maxHeartbeats 4000000 in
theorem c_X4_readSeed {G : Gt} {l : Launch} {v0 : Nat} (h0 : kd v0 = 4) {v1 : Nat} (h1 : kd v1 = 2) {σ : St} {σ' : St} (hf : pf_X4_readSeed v0 v1 σ = some σ') : Ct G l yX4_readSeed cX4_readSeed 2 none 4 [.ref (gz G + (v0)), .ref (gz G + (v1))] σ none σ' := by
  refine met_v (by decide +kernel) (Nat.le_of_ble_eq_true rfl) rfl ?_
  intro p e s m args below meth c Q ls X hW hret hl
  have hx := X.1.1
  have hb := X.1.2.1
  have hl : lv_has ls 2 [(0, .ref (gz G + (v0))), (1, .ref (gz G + (v1)))] := hl
  have h := hf
  clear hf
  unfold pf_X4_readSeed at h
  refine lv_aload_n hx hb dX4_readSeed_0 rfl (lv_at hl 0 rfl) ?_
  refine gf_X4_tokens X hW h0 m_2_12 dX4_readSeed_1 ?_
  obtain ⟨σ_1, hcl, h⟩ := bind_el h
  refine call_V0 X hW (kC_X6 (kf_X4_tokens h0)) m_6_33 m_6_34 m_6_35 mv_X6_skip (c_X6_skip (kf_X4_tokens h0) hcl) (by decide) rfl rfl (Nat.le_of_ble_eq_true rfl) hl.1 dX4_readSeed_4 ?_
  clear hW hcl; intro H locs hW
  refine lv_aload_n hx hb dX4_readSeed_7 rfl (lv_at hl 1 rfl) ?_
  refine lv_aload_n hx hb dX4_readSeed_8 rfl (lv_at hl 0 rfl) ?_
  refine gf_X4_tokens X hW h0 m_2_12 dX4_readSeed_9 ?_
  refine lv_iconst (v := 0) hx hb dX4_readSeed_12 (by decide) ?_
  refine lv_sipush (v := 9999) hx hb dX4_readSeed_13 (by decide) ?_
  obtain ⟨r_2, σ_2, hcl, h⟩ := bnd2_el h
  refine call_V1 X hW (kC_X6 (kf_X4_tokens h0)) m_6_39 m_6_40 m_6_41 mv_X6_number (c_X6_number (kf_X4_tokens h0) hcl) (by decide) rfl rfl (Nat.le_of_ble_eq_true rfl) hl.1 dX4_readSeed_16 ?_
  clear hW hcl; intro H locs hW
  refine sf_X2_seed X hW h1 m_1_147 dX4_readSeed_19 ?_
  clear hW; intro H locs hW
  refine nm_s hW h ?_
  clear hW h; intro σ_3 hW h
  refine lv_aload_n hx hb dX4_readSeed_22 rfl (lv_at hl 0 rfl) ?_
  refine gf_X4_tokens X hW h0 m_2_12 dX4_readSeed_23 ?_
  refine r_gtok (k := 24) X hW (by decide) m_6_20 dX4_readSeed_26 ?_
  obtain ⟨σ_4, hcl, h⟩ := bind_el h
  refine call_V0 X hW (kC_X6 (kf_X4_tokens h0)) m_6_2 m_6_3 m_6_4 mv_X6_expect (c_X6_expect (kf_X4_tokens h0) hcl) (by decide) rfl rfl (Nat.le_of_ble_eq_true rfl) hl.1 dX4_readSeed_29 ?_
  clear hW hcl; intro H locs hW
  refine lv_aload_n hx hb dX4_readSeed_32 rfl (lv_at hl 0 rfl) ?_
  refine lv_iconst (v := 1) hx hb dX4_readSeed_33 (by decide) ?_
  refine sf_X4_seedTold X hW (by decide) h0 m_2_16 dX4_readSeed_34 ?_
  clear hW; intro H locs hW
  refine nm_s hW h ?_
  clear hW h; intro σ_5 hW h
  exact rv_end hret h dX4_readSeed_37 hW
set_option maxRecDepth 20000 in
set_option maxHeartbeats 4000000 in
theorem bl_X4_readStock_b75 (X : Cx G p R s m args c cells slots cX4_readStock 5 RX4 4) {σ' : St} (hret : R_V G p l e R s m args below meth c cells slots Q cX4_readStock σ') {k9 : Nat → Nat → Int32 → St → (Option St)}
    (hk9 : ∀ (v0 : Nat) (h0 : kd v0 = 4) (v1 : Nat) (h1 : kd v1 = 2) (v2 : Int32) (σ : St) (_ : k9 v0 v1 v2 σ = some σ') (H : Heap) (locs : List Loc) (ls : Array Slot) (_ : GW G σ s H locs) (_ : lv_has ls 5 [(0, .ref (gz G + (v0))), (1, .ref (gz G + (v1))), (2, .int (v2))]), W p l e R s m args below meth c H locs cells slots Q (F0 m 9 ls [])) :
    ∀ (v0 : Nat) (h0 : kd v0 = 4) (v1 : Nat) (h1 : kd v1 = 2) (v2 : Int32) (v4 : Int32) (σ : St) (_ : pf_X4_readStock_b75 k9 v0 v1 v2 v4 σ = some σ') (H : Heap) (locs : List Loc) (ls : Array Slot) (_ : GW G σ s H locs) (_ : lv_has ls 5 [(0, .ref (gz G + (v0))), (1, .ref (gz G + (v1))), (2, .int (v2)), (4, .int (v4))]), W p l e R s m args below meth c H locs cells slots Q (F0 m 75 ls []) := by
  have hx := X.1.1
  have hb := X.1.2.1
  intro v0 h0 v1 h1 v2 v4 σ h H locs ls hW hl
  unfold pf_X4_readStock_b75 at h
  refine lv_aload_n hx hb dX4_readStock_75 rfl (lv_at hl 0 rfl) ?_
  refine lv_dup hx hb dX4_readStock_76 rfl ?_
  refine gf_X4_stockTold X hW h0 m_2_15 dX4_readStock_77 ?_
  refine lv_iconst (v := 1) hx hb dX4_readStock_80 (by decide) ?_
  refine lv_iload hx hb dX4_readStock_81 (lv_at hl 3 rfl) ?_
  refine w_ishl hx hb dX4_readStock_83 ?_
  refine lv_ior hx hb dX4_readStock_84 ?_
  refine sf_X4_stockTold X hW h0 m_2_15 dX4_readStock_85 ?_
  clear hW; intro H locs hW
  refine nm_s hW h ?_
  clear hW h; intro σ_1 hW h
  refine lv_aload_n hx hb dX4_readStock_88 rfl (lv_at hl 1 rfl) ?_
  refine gf_X2_stock X hW h1 m_1_141 dX4_readStock_89 ?_
  refine lv_iload hx hb dX4_readStock_92 (lv_at hl 3 rfl) ?_
  refine lv_aload_n hx hb dX4_readStock_94 rfl (lv_at hl 0 rfl) ?_
  refine gf_X4_tokens X hW h0 m_2_12 dX4_readStock_95 ?_
  refine lv_iconst (v := 0) hx hb dX4_readStock_98 (by decide) ?_
  refine lv_sipush (v := 999) hx hb dX4_readStock_99 (by decide) ?_
  obtain ⟨r_2, σ_2, hcl, h⟩ := bnd2_el h
  refine call_V1 X hW (kC_X6 (kf_X4_tokens h0)) m_6_39 m_6_40 m_6_41 mv_X6_number (c_X6_number (kf_X4_tokens h0) hcl) (by decide) rfl rfl (Nat.le_of_ble_eq_true rfl) hl.1 dX4_readStock_102 ?_
  clear hW hcl; intro H locs hW
  obtain ⟨σ_3, hcl, h⟩ := bind_el h
  refine call_SN0 X hW m_6_44 m_2_189 mv_X10_put (c_X10_put (kf_X2_stock h1) hcl) (by decide) rfl rfl (Nat.le_of_ble_eq_true rfl) hl.1 dX4_readStock_105 ?_
  clear hW hcl; intro H locs hW
  refine w_iinc (v := 1) (lv' := fun y => [(2, .int (y)), (0, .ref (gz G + (v0))), (1, .ref (gz G + (v1))), (4, .int (v4))]) hx hb dX4_readStock_108 hl (k := 2) rfl (by decide) (by decide) (fun _ => rfl) h ?_
  clear h hl; intro v2_4 h ls hl
  refine lv_goto (tgt := 9) hx hb dX4_readStock_111 (by decide) ?_
  exact hk9 v0 h0 v1 h1 v2_4 σ_3 h _ _ _ hW (lv_sub hl [1, 2, 0] rfl)
set_option maxRecDepth 20000 in
set_option maxHeartbeats 4000000 in
theorem bl_X4_readStock_b33 (X : Cx G p R s m args c cells slots cX4_readStock 5 RX4 4) {σ' : St} (hret : R_V G p l e R s m args below meth c cells slots Q cX4_readStock σ') {k9 : Nat → Nat → Int32 → St → (Option St)}
    (hk9 : ∀ (v0 : Nat) (h0 : kd v0 = 4) (v1 : Nat) (h1 : kd v1 = 2) (v2 : Int32) (σ : St) (_ : k9 v0 v1 v2 σ = some σ') (H : Heap) (locs : List Loc) (ls : Array Slot) (_ : GW G σ s H locs) (_ : lv_has ls 5 [(0, .ref (gz G + (v0))), (1, .ref (gz G + (v1))), (2, .int (v2))]), W p l e R s m args below meth c H locs cells slots Q (F0 m 9 ls [])) :
    ∀ (v0 : Nat) (h0 : kd v0 = 4) (v1 : Nat) (h1 : kd v1 = 2) (v2 : Int32) (σ : St) (_ : pf_X4_readStock_b33 k9 v0 v1 v2 σ = some σ') (H : Heap) (locs : List Loc) (ls : Array Slot) (_ : GW G σ s H locs) (_ : lv_has ls 5 [(0, .ref (gz G + (v0))), (1, .ref (gz G + (v1))), (2, .int (v2))]), W p l e R s m args below meth c H locs cells slots Q (F0 m 33 ls []) := by
  have hx := X.1.1
  have hb := X.1.2.1
  intro v0 h0 v1 h1 v2 σ h H locs ls hW hl
  unfold pf_X4_readStock_b33 at h
  refine lv_aload_n hx hb dX4_readStock_33 rfl (lv_at hl 0 rfl) ?_
  refine gf_X4_tokens X hW h0 m_2_12 dX4_readStock_34 ?_
  obtain ⟨r_1, hcl, h⟩ := bind_el h
  refine call_V1 X hW (kC_X6 (kf_X4_tokens h0)) m_6_38 m_6_13 m_6_14 mv_X6_start (c_X6_start (kf_X4_tokens h0) hcl) (by decide) rfl rfl (Nat.le_of_ble_eq_true rfl) hl.1 dX4_readStock_37 ?_
  clear hW hcl; intro H locs hW
  refine lv_istore_n (lv' := [(3, .int (r_1)), (0, .ref (gz G + (v0))), (1, .ref (gz G + (v1))), (2, .int (v2))]) hx hb dX4_readStock_40 rfl hl (by decide) rfl ?_
  clear hl; intro ls hl
  refine lv_aload_n hx hb dX4_readStock_41 rfl (lv_at hl 1 rfl) ?_
  refine gf_X4_tokens X hW h0 m_2_12 dX4_readStock_42 ?_
  refine lv_iconst (v := 0) hx hb dX4_readStock_45 (by decide) ?_
  refine lv_bipush (v := 7) hx hb dX4_readStock_46 (by decide) ?_
  obtain ⟨r_2, σ_2, hcl, h⟩ := bnd2_el h
  refine call_V1 X hW (kC_X6 (kf_X4_tokens h0)) m_6_39 m_6_40 m_6_41 mv_X6_number (c_X6_number (kf_X4_tokens h0) hcl) (by decide) rfl rfl (Nat.le_of_ble_eq_true rfl) hl.1 dX4_readStock_48 ?_
  clear hW hcl; intro H locs hW
  refine lv_istore (lv' := [(4, .int (r_2)), (3, .int (r_1)), (0, .ref (gz G + (v0))), (1, .ref (gz G + (v1))), (2, .int (v2))]) hx hb dX4_readStock_51 hl (by decide) rfl ?_
  clear hl; intro ls hl
  refine lv_aload_n hx hb dX4_readStock_53 rfl (lv_at hl 2 rfl) ?_
  refine gf_X4_stockTold X hW h0 m_2_15 dX4_readStock_54 ?_
  refine lv_iload hx hb dX4_readStock_57 (lv_at hl 0 rfl) ?_
  refine w_iushr hx hb dX4_readStock_59 ?_
  refine lv_iconst (v := 1) hx hb dX4_readStock_60 (by decide) ?_
  refine lv_iand hx hb dX4_readStock_61 ?_
  refine lv_if_eq (tgt := 75) hx hb dX4_readStock_62 (by decide) (fun hc => ?_) (fun hc => ?_)
  · replace h := if_t hc h
    exact bl_X4_readStock_b75 X hret hk9 v0 h0 v1 h1 v2 r_2 σ_2 h _ _ _ hW (lv_sub hl [2, 3, 4, 0] rfl)
  · replace h := if_f hc h
    refine lv_aload_n hx hb dX4_readStock_65 rfl (lv_at hl 2 rfl) ?_
    refine gf_X4_tokens X hW h0 m_2_12 dX4_readStock_66 ?_
    refine lv_bipush (v := (-4)) hx hb dX4_readStock_69 (by decide) ?_
    refine lv_iload_n hx hb dX4_readStock_71 rfl (lv_at hl 1 rfl) ?_
    obtain ⟨σ_3, hcl, h⟩ := bind_el h
    refine call_V0 X hW (kC_X6 (kf_X4_tokens h0)) m_6_43 m_6_17 m_6_18 mv_X6_fail (c_X6_fail (kf_X4_tokens h0) hcl) (by decide) rfl rfl (Nat.le_of_ble_eq_true rfl) hl.1 dX4_readStock_72 ?_
    clear hW hcl; intro H locs hW
    exact bl_X4_readStock_b75 X hret hk9 v0 h0 v1 h1 v2 r_2 σ_3 h _ _ _ hW (lv_sub hl [2, 3, 4, 0] rfl)
set_option maxRecDepth 20000 in
set_option maxHeartbeats 4000000 in
theorem bl_X4_readStock_b114 (X : Cx G p R s m args c cells slots cX4_readStock 5 RX4 4) {σ' : St} (hret : R_V G p l e R s m args below meth c cells slots Q cX4_readStock σ') :
    ∀ (v0 : Nat) (h0 : kd v0 = 4) (σ : St) (_ : pf_X4_readStock_b114 v0 σ = some σ') (H : Heap) (locs : List Loc) (ls : Array Slot) (_ : GW G σ s H locs) (_ : lv_has ls 5 [(0, .ref (gz G + (v0)))]), W p l e R s m args below meth c H locs cells slots Q (F0 m 114 ls []) := by
  have hx := X.1.1
  have hb := X.1.2.1
  intro v0 h0 σ h H locs ls hW hl
  unfold pf_X4_readStock_b114 at h
  refine lv_aload_n hx hb dX4_readStock_114 rfl (lv_at hl 0 rfl) ?_
  refine gf_X4_tokens X hW h0 m_2_12 dX4_readStock_115 ?_
  refine r_gtok (k := 24) X hW (by decide) m_6_20 dX4_readStock_118 ?_
  obtain ⟨σ_1, hcl, h⟩ := bind_el h
  refine call_V0 X hW (kC_X6 (kf_X4_tokens h0)) m_6_2 m_6_3 m_6_4 mv_X6_expect (c_X6_expect (kf_X4_tokens h0) hcl) (by decide) rfl rfl (Nat.le_of_ble_eq_true rfl) hl.1 dX4_readStock_121 ?_
  clear hW hcl; intro H locs hW
  exact rv_end hret h dX4_readStock_124 hW
set_option maxRecDepth 20000 in
set_option maxHeartbeats 4000000 in
theorem bl_X4_readStock_L9 (X : Cx G p R s m args c cells slots cX4_readStock 5 RX4 4) {σ' : St} (hret : R_V G p l e R s m args below meth c cells slots Q cX4_readStock σ') {k114 : Nat → St → (Option St)}
    (hk114 : ∀ (v0 : Nat) (h0 : kd v0 = 4) (σ : St) (_ : k114 v0 σ = some σ') (H : Heap) (locs : List Loc) (ls : Array Slot) (_ : GW G σ s H locs) (_ : lv_has ls 5 [(0, .ref (gz G + (v0)))]), W p l e R s m args below meth c H locs cells slots Q (F0 m 114 ls [])) :
    ∀ (n : Nat), ∀ (v0 : Nat) (h0 : kd v0 = 4) (v1 : Nat) (h1 : kd v1 = 2) (v2 : Int32) (σ : St) (_ : pf_X4_readStock_L9 k114 n v0 v1 v2 σ = some σ') (H : Heap) (locs : List Loc) (ls : Array Slot) (_ : GW G σ s H locs) (_ : lv_has ls 5 [(0, .ref (gz G + (v0))), (1, .ref (gz G + (v1))), (2, .int (v2))]), W p l e R s m args below meth c H locs cells slots Q (F0 m 9 ls []) := by
  have hx := X.1.1
  have hb := X.1.2.1
  intro n
  induction n with
  | zero => intro v0 h0 v1 h1 v2 σ h H locs ls hW hl; cases h
  | succ n ih =>
    intro v0 h0 v1 h1 v2 σ h H locs ls hW hl
    rw [pf_X4_readStock_L9.eq_2] at h
    refine lv_iload_n hx hb dX4_readStock_9 rfl (lv_at hl 2 rfl) ?_
    refine lv_sipush (v := 800) hx hb dX4_readStock_10 (by decide) ?_
    refine lv_icmp_ge (tgt := 114) hx hb dX4_readStock_13 (by decide) (fun hc => ?_) (fun hc => ?_)
    · replace h := if_t hc h
      exact hk114 v0 h0 σ h _ _ _ hW (lv_sub hl [0] rfl)
    · replace h := if_f hc h
      refine lv_iload_n hx hb dX4_readStock_16 rfl (lv_at hl 2 rfl) ?_
      refine lv_if_eq (tgt := 33) hx hb dX4_readStock_17 (by decide) (fun hc => ?_) (fun hc => ?_)
      · replace h := if_t hc h
        exact bl_X4_readStock_b33 X hret ih v0 h0 v1 h1 v2 σ h _ _ _ hW (lv_sub hl [0, 1, 2] rfl)
      · replace h := if_f hc h
        refine lv_aload_n hx hb dX4_readStock_20 rfl (lv_at hl 0 rfl) ?_
        refine gf_X4_tokens X hW h0 m_2_12 dX4_readStock_21 ?_
        obtain ⟨r_1, hcl, h⟩ := bind_el h
        refine call_V1 X hW (kC_X6 (kf_X4_tokens h0)) m_6_26 m_6_7 m_6_8 mv_X6_ahead (c_X6_ahead (kf_X4_tokens h0) hcl) (by decide) rfl rfl (Nat.le_of_ble_eq_true rfl) hl.1 dX4_readStock_24 ?_
        clear hW hcl; intro H locs hW
        refine r_gtok (k := 0) X hW (by decide) m_6_37 dX4_readStock_27 ?_
        refine r_acmp_ne (a := r_1) (b := some 0) (tgt := 114) X hx hb dX4_readStock_30 (by decide) (fun hc => ?_) (fun hc => ?_)
        · replace h := if_f hc h
          exact hk114 v0 h0 σ h _ _ _ hW (lv_sub hl [0] rfl)
        · replace h := if_t hc h
          exact bl_X4_readStock_b33 X hret ih v0 h0 v1 h1 v2 σ h _ _ _ hW (lv_sub hl [0, 1, 2] rfl)
set_option maxRecDepth 20000 in
set_option maxHeartbeats 4000000 in
theorem c_X4_readStock {G : Gt} {l : Launch} {v0 : Nat} (h0 : kd v0 = 4) {v1 : Nat} (h1 : kd v1 = 2) {σ : St} {σ' : St} (hf : pf_X4_readStock v0 v1 σ = some σ') : Ct G l yX4_readStock cX4_readStock 5 none 4 [.ref (gz G + (v0)), .ref (gz G + (v1))] σ none σ' := by
  refine met_v (by decide +kernel) (Nat.le_of_ble_eq_true rfl) rfl ?_
  intro p e s m args below meth c Q ls X hW hret hl
  have hx := X.1.1
  have hb := X.1.2.1
  have hl : lv_has ls 5 [(0, .ref (gz G + (v0))), (1, .ref (gz G + (v1)))] := hl
  have h := hf
  clear hf
  unfold pf_X4_readStock at h
  refine lv_aload_n hx hb dX4_readStock_0 rfl (lv_at hl 0 rfl) ?_
  refine gf_X4_tokens X hW h0 m_2_12 dX4_readStock_1 ?_
  obtain ⟨σ_1, hcl, h⟩ := bind_el h
  refine call_V0 X hW (kC_X6 (kf_X4_tokens h0)) m_6_33 m_6_34 m_6_35 mv_X6_skip (c_X6_skip (kf_X4_tokens h0) hcl) (by decide) rfl rfl (Nat.le_of_ble_eq_true rfl) hl.1 dX4_readStock_4 ?_
  clear hW hcl; intro H locs hW
  refine lv_iconst (v := 0) hx hb dX4_readStock_7 (by decide) ?_
  refine lv_istore_n (lv' := [(2, .int (0)), (0, .ref (gz G + (v0))), (1, .ref (gz G + (v1)))]) hx hb dX4_readStock_8 rfl hl (by decide) rfl ?_
  clear hl; intro ls hl
  exact bl_X4_readStock_L9 X hret (bl_X4_readStock_b114 X hret) FU v0 h0 v1 h1 0 σ_1 h _ _ _ hW (lv_sub hl [1, 2, 0] rfl)
set_option maxRecDepth 20000 in
set_option maxHeartbeats 4000000 in
theorem c_X5_isVariable {G : Gt} {l : Launch} {v0 : Nat} (h0 : v0 < 32) {σ : St} {r : Int32} (hf : pf_X5_isVariable v0 σ = some r) : Ct G l yX5_isVariable cX5_isVariable 1 (some .boolean) 2 [.ref (gad G (v0))] σ (some (.int r)) σ := by
  refine met_z (by decide +kernel) (Nat.le_of_ble_eq_true rfl) rfl ?_
  intro p e s m args below meth c Q ls X hW hret hl
  have hx := X.1.1
  have hb := X.1.2.1
  have hl : lv_has ls 1 [(0, .ref (gad G (v0)))] := hl
  have h := hf
  clear hf
  unfold pf_X5_isVariable at h
  refine lv_aload_n hx hb dX5_isVariable_0 rfl (lv_at hl 0 rfl) ?_
  refine r_tokCode X hW h0 m_7_211 dX5_isVariable_1 ?_
  refine lv_if_ge (tgt := 20) hx hb dX5_isVariable_4 (by decide) (fun hc => ?_) (fun hc => ?_)
  · replace h := if_t hc h
    refine lv_iconst (v := 0) hx hb dX5_isVariable_20 (by decide) ?_
    exact rz_end0 hret h (by decide) dX5_isVariable_21 hW
  · replace h := if_f hc h
    refine lv_aload_n hx hb dX5_isVariable_7 rfl (lv_at hl 0 rfl) ?_
    refine r_tokCode X hW h0 m_7_211 dX5_isVariable_8 ?_
    refine lv_bipush (v := (-6)) hx hb dX5_isVariable_11 (by decide) ?_
    refine lv_icmp_lt (tgt := 20) hx hb dX5_isVariable_13 (by decide) (fun hc => ?_) (fun hc => ?_)
    · replace h := if_t hc h
      refine lv_iconst (v := 0) hx hb dX5_isVariable_20 (by decide) ?_
      exact rz_end0 hret h (by decide) dX5_isVariable_21 hW
    · replace h := if_f hc h
      refine lv_iconst (v := 1) hx hb dX5_isVariable_16 (by decide) ?_
      refine lv_goto (tgt := 21) hx hb dX5_isVariable_17 (by decide) ?_
      exact rz_end0 hret h (by decide) dX5_isVariable_21 hW
set_option maxRecDepth 20000 in
set_option maxHeartbeats 4000000 in
theorem c_X9_readFactor {G : Gt} {l : Launch} {rc : Nat → Nat → Nat → Int32 → St → Option St} {hr : Nat} (hB : 4 ≤ hr) (hrc : ∀ {a0 : Nat} (_ : kd a0 = 8) {a1 : Nat} (_ : kd a1 = 5) {a2 : Nat} (_ : kd a2 = 2) {a3 : Int32} {τ : St} {τ' : St} (_ : rc a0 a1 a2 a3 τ = some τ'), Ct G l yX9_readSum cX9_readSum 6 none hr [.ref (gz G + a0), .ref (gz G + (a1)), .ref (gz G + (a2)), .int (a3)] τ none τ') {v0 : Nat} (h0 : kd v0 = 8) {v1 : Nat} (h1 : kd v1 = 5) {v2 : Nat} (h2 : kd v2 = 2) {v3 : Int32} {σ : St} {σ' : St} (hf : pf_X9_readFactor rc v0 v1 v2 v3 σ = some σ') : Ct G l yX9_readFactor cX9_readFactor 5 none (hr + 1) [.ref (gz G + (v0)), .ref (gz G + (v1)), .ref (gz G + (v2)), .int (v3)] σ none σ' := by
  refine met_v (by decide +kernel) (Nat.le_of_ble_eq_true rfl) rfl ?_
  intro p e s m args below meth c Q ls X hW hret hl
  have hx := X.1.1
  have hb := X.1.2.1
  have hl : lv_has ls 5 [(0, .ref (gz G + (v0))), (1, .ref (gz G + (v1))), (2, .ref (gz G + (v2))), (3, .int (v3))] := hl
  have h := hf
  clear hf
  unfold pf_X9_readFactor at h
  refine lv_aload_n hx hb dX9_readFactor_0 rfl (lv_at hl 1 rfl) ?_
  obtain ⟨r_1, hcl, h⟩ := bind_el h
  refine call_V1 X hW (kC_X6 h1) m_6_69 m_6_7 m_6_8 mv_X6_ahead (c_X6_ahead h1 hcl) (by omega) rfl rfl (Nat.le_of_ble_eq_true rfl) hl.1 dX9_readFactor_1 ?_
  clear hW hcl; intro H locs hW
  refine lv_astoreT (lv' := [(4, va_re (gad G) (r_1)), (0, .ref (gz G + (v0))), (1, .ref (gz G + (v1))), (2, .ref (gz G + (v2))), (3, .int (v3))]) hx hb dX9_readFactor_4 hl (by decide) rfl ?_
  clear hl; intro ls hl
  refine lv_aloadT hx hb dX9_readFactor_6 (lv_at hl 0 rfl) ?_
  refine r_gtok (k := 0) X hW (by decide) m_6_70 dX9_readFactor_8 ?_
  refine r_acmp_ne (a := r_1) (b := some 0) (tgt := 29) X hx hb dX9_readFactor_11 (by decide) (fun hc => ?_) (fun hc => ?_)
  · replace h := if_f hc h
    refine lv_aloadT hx hb dX9_readFactor_29 (lv_at hl 0 rfl) ?_
    obtain ⟨t4, et, ht, h⟩ := ckT_el h
    obtain ⟨r_5, hcl, h⟩ := bind_el h
    refine call_T1 X hW et ht m_6_73 m_6_74 m_6_75 mv_X5_isVariable (c_X5_isVariable ht hcl) (by omega) rfl rfl (Nat.le_of_ble_eq_true rfl) hl.1 dX9_readFactor_31 ?_
    clear hW hcl; intro H locs hW
    refine lv_if_eq (tgt := 53) hx hb dX9_readFactor_34 (by decide) (fun hc => ?_) (fun hc => ?_)
    · replace h := if_t hc h
      refine lv_aload_n hx hb dX9_readFactor_53 rfl (lv_at hl 2 rfl) ?_
      refine lv_iload_n hx hb dX9_readFactor_54 rfl (lv_at hl 4 rfl) ?_
      obtain ⟨r_6, σ_6, hcl, h⟩ := bnd2_el h
      refine call_V1 X hW (kC_X6 h1) m_6_78 m_6_79 m_6_80 mv_X6_open (c_X6_open h1 hcl) (by omega) rfl rfl (Nat.le_of_ble_eq_true rfl) hl.1 dX9_readFactor_55 ?_
      clear hW hcl; intro H locs hW
      refine lv_if_eq (tgt := 77) hx hb dX9_readFactor_58 (by decide) (fun hc => ?_) (fun hc => ?_)
      · replace h := if_t hc h
        exact rv_end hret h dX9_readFactor_77 hW
      · replace h := if_f hc h
        refine lv_aload_n hx hb dX9_readFactor_61 rfl (lv_at hl 1 rfl) ?_
        refine lv_aload_n hx hb dX9_readFactor_62 rfl (lv_at hl 2 rfl) ?_
        refine lv_aload_n hx hb dX9_readFactor_63 rfl (lv_at hl 3 rfl) ?_
        refine lv_iload_n hx hb dX9_readFactor_64 rfl (lv_at hl 4 rfl) ?_
        refine lv_iconst (v := 1) hx hb dX9_readFactor_65 (by decide) ?_
        refine lv_iadd hx hb dX9_readFactor_66 ?_
        obtain ⟨σ_7, hcl, h⟩ := bind_el h
        refine call_V0 X hW (kC_X9 h0) m_6_84 m_6_59 m_0_21 mv_X9_readSum (hrc h0 h1 h2 hcl) (by omega) rfl rfl (Nat.le_of_ble_eq_true rfl) hl.1 dX9_readFactor_67 ?_
        clear hW hcl; intro H locs hW
        refine lv_aload_n hx hb dX9_readFactor_70 rfl (lv_at hl 2 rfl) ?_
        refine r_gtok (k := 27) X hW (by decide) m_6_85 dX9_readFactor_71 ?_
        obtain ⟨σ_8, hcl, h⟩ := bind_el h
        refine call_V0 X hW (kC_X6 h1) m_6_87 m_6_3 m_6_4 mv_X6_expect (c_X6_expect h1 hcl) (by omega) rfl rfl (Nat.le_of_ble_eq_true rfl) hl.1 dX9_readFactor_74 ?_
        clear hW hcl; intro H locs hW
        exact rv_end hret h dX9_readFactor_77 hW
    · replace h := if_f hc h
      refine lv_aload_n hx hb dX9_readFactor_37 rfl (lv_at hl 3 rfl) ?_
      refine lv_aloadT hx hb dX9_readFactor_38 (lv_at hl 0 rfl) ?_
      obtain ⟨t9, et, ht, h⟩ := ckT_el h
      refine r_tokCodeT X hW et ht m_7_212 dX9_readFactor_40 ?_
      obtain ⟨σ_10, hcl, h⟩ := bind_el h
      refine call_V0 X hW (kC_X2 h2) m_6_72 m_5_237 m_5_238 mv_X2_appendCode (c_X2_appendCode h2 hcl) (by omega) rfl rfl (Nat.le_of_ble_eq_true rfl) hl.1 dX9_readFactor_43 ?_
      clear hW hcl; intro H locs hW
      refine lv_aload_n hx hb dX9_readFactor_46 rfl (lv_at hl 2 rfl) ?_
      obtain ⟨σ_11, hcl, h⟩ := bind_el h
      refine call_V0 X hW (kC_X6 h1) m_6_77 m_6_34 m_6_35 mv_X6_skip (c_X6_skip h1 hcl) (by omega) rfl rfl (Nat.le_of_ble_eq_true rfl) hl.1 dX9_readFactor_47 ?_
      clear hW hcl; intro H locs hW
      refine lv_goto (tgt := 77) hx hb dX9_readFactor_50 (by decide) ?_
      exact rv_end hret h dX9_readFactor_77 hW
  · replace h := if_t hc h
    refine lv_aload_n hx hb dX9_readFactor_14 rfl (lv_at hl 3 rfl) ?_
    refine lv_aload_n hx hb dX9_readFactor_15 rfl (lv_at hl 2 rfl) ?_
    refine lv_iconst (v := 0) hx hb dX9_readFactor_16 (by decide) ?_
    refine lv_sipush (v := 9999) hx hb dX9_readFactor_17 (by decide) ?_
    obtain ⟨r_2, σ_2, hcl, h⟩ := bnd2_el h
    refine call_V1 X hW (kC_X6 h1) m_6_71 m_6_40 m_6_41 mv_X6_number (c_X6_number h1 hcl) (by omega) rfl rfl (Nat.le_of_ble_eq_true rfl) hl.1 dX9_readFactor_20 ?_
    clear hW hcl; intro H locs hW
    obtain ⟨σ_3, hcl, h⟩ := bind_el h
    refine call_V0 X hW (kC_X2 h2) m_6_72 m_5_237 m_5_238 mv_X2_appendCode (c_X2_appendCode h2 hcl) (by omega) rfl rfl (Nat.le_of_ble_eq_true rfl) hl.1 dX9_readFactor_23 ?_
    clear hW hcl; intro H locs hW
    refine lv_goto (tgt := 77) hx hb dX9_readFactor_26 (by decide) ?_
    exact rv_end hret h dX9_readFactor_77 hW
set_option maxRecDepth 20000 in
set_option maxHeartbeats 4000000 in
theorem bl_X9_readTerm_b41 {rc : Nat → Nat → Nat → Int32 → St → Option St} {hr : Nat} (hB : 4 ≤ hr) (hrc : ∀ {a0 : Nat} (_ : kd a0 = 8) {a1 : Nat} (_ : kd a1 = 5) {a2 : Nat} (_ : kd a2 = 2) {a3 : Int32} {τ : St} {τ' : St} (_ : rc a0 a1 a2 a3 τ = some τ'), Ct G l yX9_readSum cX9_readSum 6 none hr [.ref (gz G + a0), .ref (gz G + (a1)), .ref (gz G + (a2)), .int (a3)] τ none τ') (X : Cx G p R s m args c cells slots cX9_readTerm 6 RX9 (hr + 2)) {σ' : St} (hret : R_V G p l e R s m args below meth c cells slots Q cX9_readTerm σ') {k10 : Nat → Nat → Nat → Int32 → Int32 → St → (Option St)}
    (hk10 : ∀ (v0 : Nat) (h0 : kd v0 = 8) (v1 : Nat) (h1 : kd v1 = 5) (v2 : Nat) (h2 : kd v2 = 2) (v3 : Int32) (v4 : Int32) (σ : St) (_ : k10 v0 v1 v2 v3 v4 σ = some σ') (H : Heap) (locs : List Loc) (ls : Array Slot) (_ : GW G σ s H locs) (_ : lv_has ls 6 [(0, .ref (gz G + (v0))), (1, .ref (gz G + (v1))), (2, .ref (gz G + (v2))), (3, .int (v3)), (4, .int (v4))]), W p l e R s m args below meth c H locs cells slots Q (F0 m 10 ls [])) :
    ∀ (v0 : Nat) (h0 : kd v0 = 8) (v1 : Nat) (h1 : kd v1 = 5) (v2 : Nat) (h2 : kd v2 = 2) (v3 : Int32) (v4 : Int32) (v5 : Option Nat) (σ : St) (_ : pf_X9_readTerm_b41 rc k10 v0 v1 v2 v3 v4 v5 σ = some σ') (H : Heap) (locs : List Loc) (ls : Array Slot) (_ : GW G σ s H locs) (_ : lv_has ls 6 [(0, .ref (gz G + (v0))), (1, .ref (gz G + (v1))), (2, .ref (gz G + (v2))), (3, .int (v3)), (4, .int (v4)), (5, va_re (gad G) (v5))]), W p l e R s m args below meth c H locs cells slots Q (F0 m 41 ls []) := by
  have hx := X.1.1
  have hb := X.1.2.1
  intro v0 h0 v1 h1 v2 h2 v3 v4 v5 σ h H locs ls hW hl
  unfold pf_X9_readTerm_b41 at h
  refine lv_aload_n hx hb dX9_readTerm_41 rfl (lv_at hl 1 rfl) ?_
  obtain ⟨σ_1, hcl, h⟩ := bind_el h
  refine call_V0 X hW (kC_X6 h1) m_6_77 m_6_34 m_6_35 mv_X6_skip (c_X6_skip h1 hcl) (by omega) rfl rfl (Nat.le_of_ble_eq_true rfl) hl.1 dX9_readTerm_42 ?_
  clear hW hcl; intro H locs hW
  refine lv_aload_n hx hb dX9_readTerm_45 rfl (lv_at hl 0 rfl) ?_
  refine lv_aload_n hx hb dX9_readTerm_46 rfl (lv_at hl 1 rfl) ?_
  refine lv_aload_n hx hb dX9_readTerm_47 rfl (lv_at hl 2 rfl) ?_
  refine lv_iload_n hx hb dX9_readTerm_48 rfl (lv_at hl 3 rfl) ?_
  obtain ⟨σ_2, hcl, h⟩ := bind_el h
  refine call_V0 X hW (kC_X9 h0) m_6_65 m_6_67 m_0_23 mv_X9_readFactor (c_X9_readFactor hB hrc h0 h1 h2 hcl) (by omega) rfl rfl (Nat.le_of_ble_eq_true rfl) hl.1 dX9_readTerm_49 ?_
  clear hW hcl; intro H locs hW
  refine lv_aload_n hx hb dX9_readTerm_52 rfl (lv_at hl 2 rfl) ?_
  refine lv_aloadT hx hb dX9_readTerm_53 (lv_at hl 5 rfl) ?_
  obtain ⟨t3, et, ht, h⟩ := ckT_el h
  refine r_tokCodeT X hW et ht m_7_212 dX9_readTerm_55 ?_
  obtain ⟨σ_4, hcl, h⟩ := bind_el h
  refine call_V0 X hW (kC_X2 h2) m_6_72 m_5_237 m_5_238 mv_X2_appendCode (c_X2_appendCode h2 hcl) (by omega) rfl rfl (Nat.le_of_ble_eq_true rfl) hl.1 dX9_readTerm_58 ?_
  clear hW hcl; intro H locs hW
  refine w_iinc (v := 1) (lv' := fun y => [(4, .int (y)), (0, .ref (gz G + (v0))), (1, .ref (gz G + (v1))), (2, .ref (gz G + (v2))), (3, .int (v3)), (5, va_re (gad G) (v5))]) hx hb dX9_readTerm_61 hl (k := 4) rfl (by decide) (by decide) (fun _ => rfl) h ?_
  clear h hl; intro v4_5 h ls hl
  refine lv_goto (tgt := 10) hx hb dX9_readTerm_64 (by decide) ?_
  exact hk10 v0 h0 v1 h1 v2 h2 v3 v4_5 σ_4 h _ _ _ hW (lv_sub hl [1, 2, 3, 4, 0] rfl)
set_option maxRecDepth 20000 in
set_option maxHeartbeats 4000000 in
theorem bl_X9_readTerm_L10 {rc : Nat → Nat → Nat → Int32 → St → Option St} {hr : Nat} (hB : 4 ≤ hr) (hrc : ∀ {a0 : Nat} (_ : kd a0 = 8) {a1 : Nat} (_ : kd a1 = 5) {a2 : Nat} (_ : kd a2 = 2) {a3 : Int32} {τ : St} {τ' : St} (_ : rc a0 a1 a2 a3 τ = some τ'), Ct G l yX9_readSum cX9_readSum 6 none hr [.ref (gz G + a0), .ref (gz G + (a1)), .ref (gz G + (a2)), .int (a3)] τ none τ') (X : Cx G p R s m args c cells slots cX9_readTerm 6 RX9 (hr + 2)) {σ' : St} (hret : R_V G p l e R s m args below meth c cells slots Q cX9_readTerm σ') :
    ∀ (n : Nat), ∀ (v0 : Nat) (h0 : kd v0 = 8) (v1 : Nat) (h1 : kd v1 = 5) (v2 : Nat) (h2 : kd v2 = 2) (v3 : Int32) (v4 : Int32) (σ : St) (_ : pf_X9_readTerm_L10 rc n v0 v1 v2 v3 v4 σ = some σ') (H : Heap) (locs : List Loc) (ls : Array Slot) (_ : GW G σ s H locs) (_ : lv_has ls 6 [(0, .ref (gz G + (v0))), (1, .ref (gz G + (v1))), (2, .ref (gz G + (v2))), (3, .int (v3)), (4, .int (v4))]), W p l e R s m args below meth c H locs cells slots Q (F0 m 10 ls []) := by
  have hx := X.1.1
  have hb := X.1.2.1
  intro n
  induction n with
  | zero => intro v0 h0 v1 h1 v2 h2 v3 v4 σ h H locs ls hW hl; cases h
  | succ n ih =>
    intro v0 h0 v1 h1 v2 h2 v3 v4 σ h H locs ls hW hl
    rw [pf_X9_readTerm_L10.eq_2] at h
    refine lv_iload hx hb dX9_readTerm_10 (lv_at hl 4 rfl) ?_
    refine lv_sipush (v := 800) hx hb dX9_readTerm_12 (by decide) ?_
    refine lv_icmp_ge (tgt := 67) hx hb dX9_readTerm_15 (by decide) (fun hc => ?_) (fun hc => ?_)
    · replace h := if_t hc h
      exact rv_end hret h dX9_readTerm_67 hW
    · replace h := if_f hc h
      refine lv_aload_n hx hb dX9_readTerm_18 rfl (lv_at hl 1 rfl) ?_
      obtain ⟨r_1, hcl, h⟩ := bind_el h
      refine call_V1 X hW (kC_X6 h1) m_6_69 m_6_7 m_6_8 mv_X6_ahead (c_X6_ahead h1 hcl) (by omega) rfl rfl (Nat.le_of_ble_eq_true rfl) hl.1 dX9_readTerm_19 ?_
      clear hW hcl; intro H locs hW
      refine lv_astoreT (lv' := [(5, va_re (gad G) (r_1)), (0, .ref (gz G + (v0))), (1, .ref (gz G + (v1))), (2, .ref (gz G + (v2))), (3, .int (v3)), (4, .int (v4))]) hx hb dX9_readTerm_22 hl (by decide) rfl ?_
      clear hl; intro ls hl
      refine lv_aloadT hx hb dX9_readTerm_24 (lv_at hl 0 rfl) ?_
      refine r_gtok (k := 30) X hW (by decide) m_6_88 dX9_readTerm_26 ?_
      refine r_acmp_eq (a := r_1) (b := some 30) (tgt := 41) X hx hb dX9_readTerm_29 (by decide) (fun hc => ?_) (fun hc => ?_)
      · replace h := if_t hc h
        exact bl_X9_readTerm_b41 hB hrc X hret ih v0 h0 v1 h1 v2 h2 v3 v4 r_1 σ h _ _ _ hW (lv_sub hl [1, 2, 3, 4, 5, 0] rfl)
      · replace h := if_f hc h
        refine lv_aloadT hx hb dX9_readTerm_32 (lv_at hl 0 rfl) ?_
        refine r_gtok (k := 31) X hW (by decide) m_6_90 dX9_readTerm_34 ?_
        refine r_acmp_eq (a := r_1) (b := some 31) (tgt := 41) X hx hb dX9_readTerm_37 (by decide) (fun hc => ?_) (fun hc => ?_)
        · replace h := if_t hc h
          exact bl_X9_readTerm_b41 hB hrc X hret ih v0 h0 v1 h1 v2 h2 v3 v4 r_1 σ h _ _ _ hW (lv_sub hl [1, 2, 3, 4, 5, 0] rfl)
        · replace h := if_f hc h
          exact rv_end hret h dX9_readTerm_40 hW
set_option maxRecDepth 20000 in
set_option maxHeartbeats 4000000 in
theorem c_X9_readTerm {G : Gt} {l : Launch} {rc : Nat → Nat → Nat → Int32 → St → Option St} {hr : Nat} (hB : 4 ≤ hr) (hrc : ∀ {a0 : Nat} (_ : kd a0 = 8) {a1 : Nat} (_ : kd a1 = 5) {a2 : Nat} (_ : kd a2 = 2) {a3 : Int32} {τ : St} {τ' : St} (_ : rc a0 a1 a2 a3 τ = some τ'), Ct G l yX9_readSum cX9_readSum 6 none hr [.ref (gz G + a0), .ref (gz G + (a1)), .ref (gz G + (a2)), .int (a3)] τ none τ') {v0 : Nat} (h0 : kd v0 = 8) {v1 : Nat} (h1 : kd v1 = 5) {v2 : Nat} (h2 : kd v2 = 2) {v3 : Int32} {σ : St} {σ' : St} (hf : pf_X9_readTerm rc v0 v1 v2 v3 σ = some σ') : Ct G l yX9_readTerm cX9_readTerm 6 none (hr + 2) [.ref (gz G + (v0)), .ref (gz G + (v1)), .ref (gz G + (v2)), .int (v3)] σ none σ' := by
  refine met_v (by decide +kernel) (Nat.le_of_ble_eq_true rfl) rfl ?_
  intro p e s m args below meth c Q ls X hW hret hl
  have hx := X.1.1
  have hb := X.1.2.1
  have hl : lv_has ls 6 [(0, .ref (gz G + (v0))), (1, .ref (gz G + (v1))), (2, .ref (gz G + (v2))), (3, .int (v3))] := hl
  have h := hf
  clear hf
  unfold pf_X9_readTerm at h
  refine lv_aload_n hx hb dX9_readTerm_0 rfl (lv_at hl 0 rfl) ?_
  refine lv_aload_n hx hb dX9_readTerm_1 rfl (lv_at hl 1 rfl) ?_
  refine lv_aload_n hx hb dX9_readTerm_2 rfl (lv_at hl 2 rfl) ?_
  refine lv_iload_n hx hb dX9_readTerm_3 rfl (lv_at hl 3 rfl) ?_
  obtain ⟨σ_1, hcl, h⟩ := bind_el h
  refine call_V0 X hW (kC_X9 h0) m_6_65 m_6_67 m_0_23 mv_X9_readFactor (c_X9_readFactor hB hrc h0 h1 h2 hcl) (by omega) rfl rfl (Nat.le_of_ble_eq_true rfl) hl.1 dX9_readTerm_4 ?_
  clear hW hcl; intro H locs hW
  refine lv_iconst (v := 0) hx hb dX9_readTerm_7 (by decide) ?_
  refine lv_istore (lv' := [(4, .int (0)), (0, .ref (gz G + (v0))), (1, .ref (gz G + (v1))), (2, .ref (gz G + (v2))), (3, .int (v3))]) hx hb dX9_readTerm_8 hl (by decide) rfl ?_
  clear hl; intro ls hl
  exact bl_X9_readTerm_L10 hB hrc X hret FU v0 h0 v1 h1 v2 h2 v3 0 σ_1 h _ _ _ hW (lv_sub hl [1, 2, 3, 4, 0] rfl)
set_option maxRecDepth 20000 in
set_option maxHeartbeats 4000000 in
theorem bl_X9_readSum_b41 {rc : Nat → Nat → Nat → Int32 → St → Option St} {hr : Nat} (hB : 4 ≤ hr) (hrc : ∀ {a0 : Nat} (_ : kd a0 = 8) {a1 : Nat} (_ : kd a1 = 5) {a2 : Nat} (_ : kd a2 = 2) {a3 : Int32} {τ : St} {τ' : St} (_ : rc a0 a1 a2 a3 τ = some τ'), Ct G l yX9_readSum cX9_readSum 6 none hr [.ref (gz G + a0), .ref (gz G + (a1)), .ref (gz G + (a2)), .int (a3)] τ none τ') (X : Cx G p R s m args c cells slots cX9_readSum 6 RX9 (hr + 3)) {σ' : St} (hret : R_V G p l e R s m args below meth c cells slots Q cX9_readSum σ') {k10 : Nat → Nat → Nat → Int32 → Int32 → St → (Option St)}
    (hk10 : ∀ (v0 : Nat) (h0 : kd v0 = 8) (v1 : Nat) (h1 : kd v1 = 5) (v2 : Nat) (h2 : kd v2 = 2) (v3 : Int32) (v4 : Int32) (σ : St) (_ : k10 v0 v1 v2 v3 v4 σ = some σ') (H : Heap) (locs : List Loc) (ls : Array Slot) (_ : GW G σ s H locs) (_ : lv_has ls 6 [(0, .ref (gz G + (v0))), (1, .ref (gz G + (v1))), (2, .ref (gz G + (v2))), (3, .int (v3)), (4, .int (v4))]), W p l e R s m args below meth c H locs cells slots Q (F0 m 10 ls [])) :
    ∀ (v0 : Nat) (h0 : kd v0 = 8) (v1 : Nat) (h1 : kd v1 = 5) (v2 : Nat) (h2 : kd v2 = 2) (v3 : Int32) (v4 : Int32) (v5 : Option Nat) (σ : St) (_ : pf_X9_readSum_b41 rc k10 v0 v1 v2 v3 v4 v5 σ = some σ') (H : Heap) (locs : List Loc) (ls : Array Slot) (_ : GW G σ s H locs) (_ : lv_has ls 6 [(0, .ref (gz G + (v0))), (1, .ref (gz G + (v1))), (2, .ref (gz G + (v2))), (3, .int (v3)), (4, .int (v4)), (5, va_re (gad G) (v5))]), W p l e R s m args below meth c H locs cells slots Q (F0 m 41 ls []) := by
  have hx := X.1.1
  have hb := X.1.2.1
  intro v0 h0 v1 h1 v2 h2 v3 v4 v5 σ h H locs ls hW hl
  unfold pf_X9_readSum_b41 at h
  refine lv_aload_n hx hb dX9_readSum_41 rfl (lv_at hl 1 rfl) ?_
  obtain ⟨σ_1, hcl, h⟩ := bind_el h
  refine call_V0 X hW (kC_X6 h1) m_6_77 m_6_34 m_6_35 mv_X6_skip (c_X6_skip h1 hcl) (by omega) rfl rfl (Nat.le_of_ble_eq_true rfl) hl.1 dX9_readSum_42 ?_
  clear hW hcl; intro H locs hW
  refine lv_aload_n hx hb dX9_readSum_45 rfl (lv_at hl 0 rfl) ?_
  refine lv_aload_n hx hb dX9_readSum_46 rfl (lv_at hl 1 rfl) ?_
  refine lv_aload_n hx hb dX9_readSum_47 rfl (lv_at hl 2 rfl) ?_
  refine lv_iload_n hx hb dX9_readSum_48 rfl (lv_at hl 3 rfl) ?_
  obtain ⟨σ_2, hcl, h⟩ := bind_el h
  refine call_V0 X hW (kC_X9 h0) m_6_61 m_6_63 m_0_22 mv_X9_readTerm (c_X9_readTerm hB hrc h0 h1 h2 hcl) (by omega) rfl rfl (Nat.le_of_ble_eq_true rfl) hl.1 dX9_readSum_49 ?_
  clear hW hcl; intro H locs hW
  refine lv_aload_n hx hb dX9_readSum_52 rfl (lv_at hl 2 rfl) ?_
  refine lv_aloadT hx hb dX9_readSum_53 (lv_at hl 5 rfl) ?_
  obtain ⟨t3, et, ht, h⟩ := ckT_el h
  refine r_tokCodeT X hW et ht m_7_212 dX9_readSum_55 ?_
  obtain ⟨σ_4, hcl, h⟩ := bind_el h
  refine call_V0 X hW (kC_X2 h2) m_6_72 m_5_237 m_5_238 mv_X2_appendCode (c_X2_appendCode h2 hcl) (by omega) rfl rfl (Nat.le_of_ble_eq_true rfl) hl.1 dX9_readSum_58 ?_
  clear hW hcl; intro H locs hW
  refine w_iinc (v := 1) (lv' := fun y => [(4, .int (y)), (0, .ref (gz G + (v0))), (1, .ref (gz G + (v1))), (2, .ref (gz G + (v2))), (3, .int (v3)), (5, va_re (gad G) (v5))]) hx hb dX9_readSum_61 hl (k := 4) rfl (by decide) (by decide) (fun _ => rfl) h ?_
  clear h hl; intro v4_5 h ls hl
  refine lv_goto (tgt := 10) hx hb dX9_readSum_64 (by decide) ?_
  exact hk10 v0 h0 v1 h1 v2 h2 v3 v4_5 σ_4 h _ _ _ hW (lv_sub hl [1, 2, 3, 4, 0] rfl)
set_option maxRecDepth 20000 in
set_option maxHeartbeats 4000000 in
theorem bl_X9_readSum_L10 {rc : Nat → Nat → Nat → Int32 → St → Option St} {hr : Nat} (hB : 4 ≤ hr) (hrc : ∀ {a0 : Nat} (_ : kd a0 = 8) {a1 : Nat} (_ : kd a1 = 5) {a2 : Nat} (_ : kd a2 = 2) {a3 : Int32} {τ : St} {τ' : St} (_ : rc a0 a1 a2 a3 τ = some τ'), Ct G l yX9_readSum cX9_readSum 6 none hr [.ref (gz G + a0), .ref (gz G + (a1)), .ref (gz G + (a2)), .int (a3)] τ none τ') (X : Cx G p R s m args c cells slots cX9_readSum 6 RX9 (hr + 3)) {σ' : St} (hret : R_V G p l e R s m args below meth c cells slots Q cX9_readSum σ') :
    ∀ (n : Nat), ∀ (v0 : Nat) (h0 : kd v0 = 8) (v1 : Nat) (h1 : kd v1 = 5) (v2 : Nat) (h2 : kd v2 = 2) (v3 : Int32) (v4 : Int32) (σ : St) (_ : pf_X9_readSum_L10 rc n v0 v1 v2 v3 v4 σ = some σ') (H : Heap) (locs : List Loc) (ls : Array Slot) (_ : GW G σ s H locs) (_ : lv_has ls 6 [(0, .ref (gz G + (v0))), (1, .ref (gz G + (v1))), (2, .ref (gz G + (v2))), (3, .int (v3)), (4, .int (v4))]), W p l e R s m args below meth c H locs cells slots Q (F0 m 10 ls []) := by
  have hx := X.1.1
  have hb := X.1.2.1
  intro n
  induction n with
  | zero => intro v0 h0 v1 h1 v2 h2 v3 v4 σ h H locs ls hW hl; cases h
  | succ n ih =>
    intro v0 h0 v1 h1 v2 h2 v3 v4 σ h H locs ls hW hl
    rw [pf_X9_readSum_L10.eq_2] at h
    refine lv_iload hx hb dX9_readSum_10 (lv_at hl 4 rfl) ?_
    refine lv_sipush (v := 800) hx hb dX9_readSum_12 (by decide) ?_
    refine lv_icmp_ge (tgt := 67) hx hb dX9_readSum_15 (by decide) (fun hc => ?_) (fun hc => ?_)
    · replace h := if_t hc h
      exact rv_end hret h dX9_readSum_67 hW
    · replace h := if_f hc h
      refine lv_aload_n hx hb dX9_readSum_18 rfl (lv_at hl 1 rfl) ?_
      obtain ⟨r_1, hcl, h⟩ := bind_el h
      refine call_V1 X hW (kC_X6 h1) m_6_69 m_6_7 m_6_8 mv_X6_ahead (c_X6_ahead h1 hcl) (by omega) rfl rfl (Nat.le_of_ble_eq_true rfl) hl.1 dX9_readSum_19 ?_
      clear hW hcl; intro H locs hW
      refine lv_astoreT (lv' := [(5, va_re (gad G) (r_1)), (0, .ref (gz G + (v0))), (1, .ref (gz G + (v1))), (2, .ref (gz G + (v2))), (3, .int (v3)), (4, .int (v4))]) hx hb dX9_readSum_22 hl (by decide) rfl ?_
      clear hl; intro ls hl
      refine lv_aloadT hx hb dX9_readSum_24 (lv_at hl 0 rfl) ?_
      refine r_gtok (k := 28) X hW (by decide) m_6_92 dX9_readSum_26 ?_
      refine r_acmp_eq (a := r_1) (b := some 28) (tgt := 41) X hx hb dX9_readSum_29 (by decide) (fun hc => ?_) (fun hc => ?_)
      · replace h := if_t hc h
        exact bl_X9_readSum_b41 hB hrc X hret ih v0 h0 v1 h1 v2 h2 v3 v4 r_1 σ h _ _ _ hW (lv_sub hl [1, 2, 3, 4, 5, 0] rfl)
      · replace h := if_f hc h
        refine lv_aloadT hx hb dX9_readSum_32 (lv_at hl 0 rfl) ?_
        refine r_gtok (k := 29) X hW (by decide) m_6_94 dX9_readSum_34 ?_
        refine r_acmp_eq (a := r_1) (b := some 29) (tgt := 41) X hx hb dX9_readSum_37 (by decide) (fun hc => ?_) (fun hc => ?_)
        · replace h := if_t hc h
          exact bl_X9_readSum_b41 hB hrc X hret ih v0 h0 v1 h1 v2 h2 v3 v4 r_1 σ h _ _ _ hW (lv_sub hl [1, 2, 3, 4, 5, 0] rfl)
        · replace h := if_f hc h
          exact rv_end hret h dX9_readSum_40 hW
set_option maxRecDepth 20000 in
set_option maxHeartbeats 4000000 in
theorem c_X9_readSum_B {G : Gt} {l : Launch} {rc : Nat → Nat → Nat → Int32 → St → Option St} {hr : Nat} (hB : 4 ≤ hr) (hrc : ∀ {a0 : Nat} (_ : kd a0 = 8) {a1 : Nat} (_ : kd a1 = 5) {a2 : Nat} (_ : kd a2 = 2) {a3 : Int32} {τ : St} {τ' : St} (_ : rc a0 a1 a2 a3 τ = some τ'), Ct G l yX9_readSum cX9_readSum 6 none hr [.ref (gz G + a0), .ref (gz G + (a1)), .ref (gz G + (a2)), .int (a3)] τ none τ') {v0 : Nat} (h0 : kd v0 = 8) {v1 : Nat} (h1 : kd v1 = 5) {v2 : Nat} (h2 : kd v2 = 2) {v3 : Int32} {σ : St} {σ' : St} (hf : pf_X9_readSum_B rc v0 v1 v2 v3 σ = some σ') : Ct G l yX9_readSum cX9_readSum 6 none (hr + 3) [.ref (gz G + (v0)), .ref (gz G + (v1)), .ref (gz G + (v2)), .int (v3)] σ none σ' := by
  refine met_v (by decide +kernel) (Nat.le_of_ble_eq_true rfl) rfl ?_
  intro p e s m args below meth c Q ls X hW hret hl
  have hx := X.1.1
  have hb := X.1.2.1
  have hl : lv_has ls 6 [(0, .ref (gz G + (v0))), (1, .ref (gz G + (v1))), (2, .ref (gz G + (v2))), (3, .int (v3))] := hl
  have h := hf
  clear hf
  unfold pf_X9_readSum_B at h
  refine lv_aload_n hx hb dX9_readSum_0 rfl (lv_at hl 0 rfl) ?_
  refine lv_aload_n hx hb dX9_readSum_1 rfl (lv_at hl 1 rfl) ?_
  refine lv_aload_n hx hb dX9_readSum_2 rfl (lv_at hl 2 rfl) ?_
  refine lv_iload_n hx hb dX9_readSum_3 rfl (lv_at hl 3 rfl) ?_
  obtain ⟨σ_1, hcl, h⟩ := bind_el h
  refine call_V0 X hW (kC_X9 h0) m_6_61 m_6_63 m_0_22 mv_X9_readTerm (c_X9_readTerm hB hrc h0 h1 h2 hcl) (by omega) rfl rfl (Nat.le_of_ble_eq_true rfl) hl.1 dX9_readSum_4 ?_
  clear hW hcl; intro H locs hW
  refine lv_iconst (v := 0) hx hb dX9_readSum_7 (by decide) ?_
  refine lv_istore (lv' := [(4, .int (0)), (0, .ref (gz G + (v0))), (1, .ref (gz G + (v1))), (2, .ref (gz G + (v2))), (3, .int (v3))]) hx hb dX9_readSum_8 hl (by decide) rfl ?_
  clear hl; intro ls hl
  exact bl_X9_readSum_L10 hB hrc X hret FU v0 h0 v1 h1 v2 h2 v3 0 σ_1 h _ _ _ hW (lv_sub hl [1, 2, 3, 4, 0] rfl)
theorem c_X9_readSum {G : Gt} {l : Launch} : ∀ (d : Nat) {v0 : Nat} (h0 : kd v0 = 8) {v1 : Nat} (h1 : kd v1 = 5) {v2 : Nat} (h2 : kd v2 = 2) {v3 : Int32} {σ : St} {σ' : St} (_ : pf_X9_readSum d v0 v1 v2 v3 σ = some σ'), Ct G l yX9_readSum cX9_readSum 6 none (hRec 4 3 d) [.ref (gz G + (v0)), .ref (gz G + (v1)), .ref (gz G + (v2)), .int (v3)] σ none σ' := by
  intro d
  induction d with
  | zero => intro v0 h0 v1 h1 v2 h2 v3 σ σ' hf; cases hf
  | succ d ih =>
    intro v0 h0 v1 h1 v2 h2 v3 σ σ' hf
    exact c_X9_readSum_B (hr := hRec 4 3 d) (hRec_le _ _ _) ih h0 h1 h2 hf
set_option maxRecDepth 20000 in
set_option maxHeartbeats 4000000 in
theorem c_X4_readWorth {G : Gt} {l : Launch} {v0 : Nat} (h0 : kd v0 = 4) {v1 : Nat} (h1 : kd v1 = 2) {σ : St} {σ' : St} (hf : pf_X4_readWorth v0 v1 σ = some σ') : Ct G l yX4_readWorth cX4_readWorth 2 none 29 [.ref (gz G + (v0)), .ref (gz G + (v1))] σ none σ' := by
  refine met_v (by decide +kernel) (Nat.le_of_ble_eq_true rfl) rfl ?_
  intro p e s m args below meth c Q ls X hW hret hl
  have hx := X.1.1
  have hb := X.1.2.1
  have hl : lv_has ls 2 [(0, .ref (gz G + (v0))), (1, .ref (gz G + (v1)))] := hl
  have h := hf
  clear hf
  unfold pf_X4_readWorth at h
  refine lv_aload_n hx hb dX4_readWorth_0 rfl (lv_at hl 0 rfl) ?_
  refine gf_X4_tokens X hW h0 m_2_12 dX4_readWorth_1 ?_
  obtain ⟨σ_1, hcl, h⟩ := bind_el h
  refine call_V0 X hW (kC_X6 (kf_X4_tokens h0)) m_6_33 m_6_34 m_6_35 mv_X6_skip (c_X6_skip (kf_X4_tokens h0) hcl) (by decide) rfl rfl (Nat.le_of_ble_eq_true rfl) hl.1 dX4_readWorth_4 ?_
  clear hW hcl; intro H locs hW
  refine lv_aload_n hx hb dX4_readWorth_7 rfl (lv_at hl 1 rfl) ?_
  refine lv_iconst (v := 0) hx hb dX4_readWorth_8 (by decide) ?_
  refine sf_X2_worthLength X hW h1 m_1_158 dX4_readWorth_9 ?_
  clear hW; intro H locs hW
  refine nm_s hW h ?_
  clear hW h; intro σ_2 hW h
  refine lv_aload_n hx hb dX4_readWorth_12 rfl (lv_at hl 0 rfl) ?_
  refine gf_X4_worths X hW h0 m_2_14 dX4_readWorth_13 ?_
  refine lv_aload_n hx hb dX4_readWorth_16 rfl (lv_at hl 0 rfl) ?_
  refine gf_X4_tokens X hW h0 m_2_12 dX4_readWorth_17 ?_
  refine lv_aload_n hx hb dX4_readWorth_20 rfl (lv_at hl 1 rfl) ?_
  refine lv_iconst (v := 0) hx hb dX4_readWorth_21 (by decide) ?_
  obtain ⟨σ_3, hcl, h⟩ := bind_el h
  refine call_VN0 X hW (kC_X9 (kf_X4_worths h0)) m_6_57 m_6_59 m_0_21 mv_X9_readSum (c_X9_readSum 8 (kf_X4_worths h0) (kf_X4_tokens h0) h1 hcl) (by decide) rfl rfl (Nat.le_of_ble_eq_true rfl) hl.1 dX4_readWorth_22 ?_
  clear hW hcl; intro H locs hW
  refine lv_aload_n hx hb dX4_readWorth_25 rfl (lv_at hl 0 rfl) ?_
  refine gf_X4_tokens X hW h0 m_2_12 dX4_readWorth_26 ?_
  refine r_gtok (k := 24) X hW (by decide) m_6_20 dX4_readWorth_29 ?_
  obtain ⟨σ_4, hcl, h⟩ := bind_el h
  refine call_V0 X hW (kC_X6 (kf_X4_tokens h0)) m_6_2 m_6_3 m_6_4 mv_X6_expect (c_X6_expect (kf_X4_tokens h0) hcl) (by decide) rfl rfl (Nat.le_of_ble_eq_true rfl) hl.1 dX4_readWorth_32 ?_
  clear hW hcl; intro H locs hW
  refine lv_aload_n hx hb dX4_readWorth_35 rfl (lv_at hl 0 rfl) ?_
  refine lv_iconst (v := 1) hx hb dX4_readWorth_36 (by decide) ?_
  refine sf_X4_worthTold X hW (by decide) h0 m_2_17 dX4_readWorth_37 ?_
  clear hW; intro H locs hW
  refine nm_s hW h ?_
  clear hW h; intro σ_5 hW h
  exact rv_end hret h dX4_readWorth_40 hW
set_option maxRecDepth 20000 in
set_option maxHeartbeats 4000000 in
theorem c_X6_goOn {G : Gt} {l : Launch} {v0 : Nat} (h0 : kd v0 = 5) {σ : St} {r : Int32} (hf : pf_X6_goOn v0 σ = some r) : Ct G l yX6_goOn cX6_goOn 1 (some .boolean) 3 [.ref (gz G + (v0))] σ (some (.int r)) σ := by
  refine met_z (by decide +kernel) (Nat.le_of_ble_eq_true rfl) rfl ?_
  intro p e s m args below meth c Q ls X hW hret hl
  have hx := X.1.1
  have hb := X.1.2.1
  have hl : lv_has ls 1 [(0, .ref (gz G + (v0)))] := hl
  have h := hf
  clear hf
  unfold pf_X6_goOn at h
  refine lv_aload_n hx hb dX6_goOn_0 rfl (lv_at hl 0 rfl) ?_
  obtain ⟨r_1, hcl, h⟩ := bind_el h
  refine call_V1 X hW (kC_X6 h0) m_6_6 m_6_7 m_6_8 mv_X6_ahead (c_X6_ahead h0 hcl) (by decide) rfl rfl (Nat.le_of_ble_eq_true rfl) hl.1 dX6_goOn_1 ?_
  clear hW hcl; intro H locs hW
  refine r_gtok (k := 3) X hW (by decide) m_6_10 dX6_goOn_4 ?_
  refine r_acmp_eq (a := r_1) (b := some 3) (tgt := 24) X hx hb dX6_goOn_7 (by decide) (fun hc => ?_) (fun hc => ?_)
  · replace h := if_t hc h
    refine lv_iconst (v := 0) hx hb dX6_goOn_24 (by decide) ?_
    exact rz_end0 hret h (by decide) dX6_goOn_25 hW
  · replace h := if_f hc h
    refine lv_aload_n hx hb dX6_goOn_10 rfl (lv_at hl 0 rfl) ?_
    obtain ⟨r_2, hcl, h⟩ := bind_el h
    refine call_V1 X hW (kC_X6 h0) m_6_6 m_6_7 m_6_8 mv_X6_ahead (c_X6_ahead h0 hcl) (by decide) rfl rfl (Nat.le_of_ble_eq_true rfl) hl.1 dX6_goOn_11 ?_
    clear hW hcl; intro H locs hW
    refine r_gtok (k := 1) X hW (by decide) m_5_204 dX6_goOn_14 ?_
    refine r_acmp_eq (a := r_2) (b := some 1) (tgt := 24) X hx hb dX6_goOn_17 (by decide) (fun hc => ?_) (fun hc => ?_)
    · replace h := if_t hc h
      refine lv_iconst (v := 0) hx hb dX6_goOn_24 (by decide) ?_
      exact rz_end0 hret h (by decide) dX6_goOn_25 hW
    · replace h := if_f hc h
      refine lv_iconst (v := 1) hx hb dX6_goOn_20 (by decide) ?_
      refine lv_goto (tgt := 25) hx hb dX6_goOn_21 (by decide) ?_
      exact rz_end0 hret h (by decide) dX6_goOn_25 hW
set_option maxRecDepth 20000 in
set_option maxHeartbeats 4000000 in
theorem bl_X6_kindOf_b22 {σ : St} (X : Cx G p R s m args c cells slots cX6_kindOf 1 RX6 2) {r : Int32} (hret : R_I G p l e R s m args below meth c cells slots Q cX6_kindOf r σ) :
    ∀ (v0 : Int32) (_ : pf_X6_kindOf_b22 σ v0 = some r) (H : Heap) (locs : List Loc) (ls : Array Slot) (_ : GW G σ s H locs) (_ : lv_has ls 1 [(0, .int (v0))]), W p l e R s m args below meth c H locs cells slots Q (F0 m 22 ls []) := by
  have hx := X.1.1
  have hb := X.1.2.1
  intro v0 h H locs ls hW hl
  unfold pf_X6_kindOf_b22 at h
  refine lv_iload_n hx hb dX6_kindOf_22 rfl (lv_at hl 0 rfl) ?_
  refine lv_bipush (v := 97) hx hb dX6_kindOf_23 (by decide) ?_
  refine lv_icmp_lt (tgt := 38) hx hb dX6_kindOf_25 (by decide) (fun hc => ?_) (fun hc => ?_)
  · replace h := if_t hc h
    refine lv_iconst (v := 3) hx hb dX6_kindOf_38 (by decide) ?_
    exact ri_end0 hret h dX6_kindOf_39 hW
  · replace h := if_f hc h
    refine lv_iload_n hx hb dX6_kindOf_28 rfl (lv_at hl 0 rfl) ?_
    refine lv_bipush (v := 122) hx hb dX6_kindOf_29 (by decide) ?_
    refine lv_icmp_gt (tgt := 38) hx hb dX6_kindOf_31 (by decide) (fun hc => ?_) (fun hc => ?_)
    · replace h := if_t hc h
      refine lv_iconst (v := 3) hx hb dX6_kindOf_38 (by decide) ?_
      exact ri_end0 hret h dX6_kindOf_39 hW
    · replace h := if_f hc h
      refine lv_iconst (v := 2) hx hb dX6_kindOf_34 (by decide) ?_
      refine lv_goto (tgt := 39) hx hb dX6_kindOf_35 (by decide) ?_
      exact ri_end0 hret h dX6_kindOf_39 hW
set_option maxRecDepth 20000 in
set_option maxHeartbeats 4000000 in
theorem c_X6_kindOf {G : Gt} {l : Launch} {v0 : Int32} {σ : St} {r : Int32} (hf : pf_X6_kindOf v0 σ = some r) : Ct G l yX6_kindOf cX6_kindOf 1 (some .int) 2 [.int (v0)] σ (some (.int r)) σ := by
  refine met_i (by decide +kernel) (Nat.le_of_ble_eq_true rfl) rfl ?_
  intro p e s m args below meth c Q ls X hW hret hl
  have hx := X.1.1
  have hb := X.1.2.1
  have hl : lv_has ls 1 [(0, .int (v0))] := hl
  have h := hf
  clear hf
  unfold pf_X6_kindOf at h
  refine lv_iload_n hx hb dX6_kindOf_0 rfl (lv_at hl 0 rfl) ?_
  refine lv_bipush (v := 32) hx hb dX6_kindOf_1 (by decide) ?_
  refine lv_icmp_ne (tgt := 8) hx hb dX6_kindOf_3 (by decide) (fun hc => ?_) (fun hc => ?_)
  · replace h := if_f hc h
    refine lv_iload_n hx hb dX6_kindOf_8 rfl (lv_at hl 0 rfl) ?_
    refine lv_bipush (v := 48) hx hb dX6_kindOf_9 (by decide) ?_
    refine lv_icmp_lt (tgt := 22) hx hb dX6_kindOf_11 (by decide) (fun hc => ?_) (fun hc => ?_)
    · replace h := if_t hc h
      exact bl_X6_kindOf_b22 X hret v0 h _ _ _ hW (lv_sub hl [0] rfl)
    · replace h := if_f hc h
      refine lv_iload_n hx hb dX6_kindOf_14 rfl (lv_at hl 0 rfl) ?_
      refine lv_bipush (v := 57) hx hb dX6_kindOf_15 (by decide) ?_
      refine lv_icmp_gt (tgt := 22) hx hb dX6_kindOf_17 (by decide) (fun hc => ?_) (fun hc => ?_)
      · replace h := if_t hc h
        exact bl_X6_kindOf_b22 X hret v0 h _ _ _ hW (lv_sub hl [0] rfl)
      · replace h := if_f hc h
        refine lv_iconst (v := 1) hx hb dX6_kindOf_20 (by decide) ?_
        exact ri_end0 hret h dX6_kindOf_21 hW
  · replace h := if_t hc h
    refine lv_iconst (v := 0) hx hb dX6_kindOf_6 (by decide) ?_
    exact ri_end0 hret h dX6_kindOf_7 hW
set_option maxRecDepth 20000 in
set_option maxHeartbeats 4000000 in
theorem c_X6_goesOn {G : Gt} {l : Launch} {v0 : Int32} {v1 : Int32} {σ : St} {r : Int32} (hf : pf_X6_goesOn v0 v1 σ = some r) : Ct G l yX6_goesOn cX6_goesOn 2 (some .boolean) 3 [.int (v0), .int (v1)] σ (some (.int r)) σ := by
  refine met_z (by decide +kernel) (Nat.le_of_ble_eq_true rfl) rfl ?_
  intro p e s m args below meth c Q ls X hW hret hl
  have hx := X.1.1
  have hb := X.1.2.1
  have hl : lv_has ls 2 [(0, .int (v0)), (1, .int (v1))] := hl
  have h := hf
  clear hf
  unfold pf_X6_goesOn at h
  refine lv_iload_n hx hb dX6_goesOn_0 rfl (lv_at hl 0 rfl) ?_
  refine lv_iconst (v := 3) hx hb dX6_goesOn_1 (by decide) ?_
  refine lv_icmp_eq (tgt := 17) hx hb dX6_goesOn_2 (by decide) (fun hc => ?_) (fun hc => ?_)
  · replace h := if_t hc h
    refine lv_iconst (v := 0) hx hb dX6_goesOn_17 (by decide) ?_
    exact rz_end0 hret h (by decide) dX6_goesOn_18 hW
  · replace h := if_f hc h
    refine lv_iload_n hx hb dX6_goesOn_5 rfl (lv_at hl 0 rfl) ?_
    refine lv_iload_n hx hb dX6_goesOn_6 rfl (lv_at hl 1 rfl) ?_
    obtain ⟨r_1, hcl, h⟩ := bind_el h
    refine call_S1 X hW m_5_191 m_5_192 mv_X6_kindOf (c_X6_kindOf hcl) (by decide) rfl rfl (Nat.le_of_ble_eq_true rfl) hl.1 dX6_goesOn_7 ?_
    clear hW hcl; intro H locs hW
    refine lv_icmp_ne (tgt := 17) hx hb dX6_goesOn_10 (by decide) (fun hc => ?_) (fun hc => ?_)
    · replace h := if_f hc h
      refine lv_iconst (v := 0) hx hb dX6_goesOn_17 (by decide) ?_
      exact rz_end0 hret h (by decide) dX6_goesOn_18 hW
    · replace h := if_t hc h
      refine lv_iconst (v := 1) hx hb dX6_goesOn_13 (by decide) ?_
      refine lv_goto (tgt := 18) hx hb dX6_goesOn_14 (by decide) ?_
      exact rz_end0 hret h (by decide) dX6_goesOn_18 hW
set_option maxRecDepth 20000 in
set_option maxHeartbeats 4000000 in
theorem bl_X6_endOfRun_L14 {σ : St} (X : Cx G p R s m args c cells slots cX6_endOfRun 5 RX6 4) {r : Int32} (hret : R_I G p l e R s m args below meth c cells slots Q cX6_endOfRun r σ) :
    ∀ (n : Nat), ∀ (v0 : Nat) (h0 : kd v0 = 11) (v2 : Int32) (v3 : Int32) (v4 : Int32) (_ : pf_X6_endOfRun_L14 σ n v0 v2 v3 v4 = some r) (H : Heap) (locs : List Loc) (ls : Array Slot) (_ : GW G σ s H locs) (_ : lv_has ls 5 [(0, .ref (gz G + (v0))), (2, .int (v2)), (3, .int (v3)), (4, .int (v4))]), W p l e R s m args below meth c H locs cells slots Q (F0 m 14 ls []) := by
  have hx := X.1.1
  have hb := X.1.2.1
  intro n
  induction n with
  | zero => intro v0 h0 v2 v3 v4 h H locs ls hW hl; cases h
  | succ n ih =>
    intro v0 h0 v2 v3 v4 h H locs ls hW hl
    rw [pf_X6_endOfRun_L14.eq_2] at h
    refine lv_iload hx hb dX6_endOfRun_14 (lv_at hl 3 rfl) ?_
    refine lv_iload_n hx hb dX6_endOfRun_16 rfl (lv_at hl 1 rfl) ?_
    refine lv_icmp_ge (tgt := 42) hx hb dX6_endOfRun_17 (by decide) (fun hc => ?_) (fun hc => ?_)
    · replace h := if_t hc h
      refine lv_iload_n hx hb dX6_endOfRun_42 rfl (lv_at hl 1 rfl) ?_
      exact ri_end0 hret h dX6_endOfRun_43 hW
    · replace h := if_f hc h
      refine lv_iload_n hx hb dX6_endOfRun_20 rfl (lv_at hl 2 rfl) ?_
      refine lv_aload_n hx hb dX6_endOfRun_21 rfl (lv_at hl 0 rfl) ?_
      refine lv_iload hx hb dX6_endOfRun_22 (lv_at hl 3 rfl) ?_
      obtain ⟨r_1, hcl, h⟩ := bind_el h
      refine call_SN1 X hW m_5_190 m_2_178 mv_X10_at (c_X10_at h0 hcl) (by decide) rfl rfl (Nat.le_of_ble_eq_true rfl) hl.1 dX6_endOfRun_24 ?_
      clear hW hcl; intro H locs hW
      obtain ⟨r_2, hcl, h⟩ := bind_el h
      refine call_S1 X hW m_5_194 m_5_195 mv_X6_goesOn (c_X6_goesOn hcl) (by decide) rfl rfl (Nat.le_of_ble_eq_true rfl) hl.1 dX6_endOfRun_27 ?_
      clear hW hcl; intro H locs hW
      refine lv_if_ne (tgt := 36) hx hb dX6_endOfRun_30 (by decide) (fun hc => ?_) (fun hc => ?_)
      · replace h := if_f hc h
        refine w_iinc (v := 1) (lv' := fun y => [(4, .int (y)), (0, .ref (gz G + (v0))), (2, .int (v2)), (3, .int (v3))]) hx hb dX6_endOfRun_36 hl (k := 3) rfl (by decide) (by decide) (fun _ => rfl) h ?_
        clear h hl; intro v4_3 h ls hl
        refine lv_goto (tgt := 14) hx hb dX6_endOfRun_39 (by decide) ?_
        exact ih v0 h0 v2 v3 v4_3 h _ _ _ hW (lv_sub hl [1, 2, 3, 0] rfl)
      · replace h := if_t hc h
        refine lv_iload hx hb dX6_endOfRun_33 (lv_at hl 3 rfl) ?_
        exact ri_end0 hret h dX6_endOfRun_35 hW
set_option maxRecDepth 20000 in
set_option maxHeartbeats 4000000 in
theorem c_X6_endOfRun {G : Gt} {l : Launch} {v0 : Nat} (h0 : kd v0 = 11) {v1 : Int32} {v2 : Int32} {σ : St} {r : Int32} (hf : pf_X6_endOfRun v0 v1 v2 σ = some r) : Ct G l yX6_endOfRun cX6_endOfRun 5 (some .int) 4 [.ref (gz G + (v0)), .int (v1), .int (v2)] σ (some (.int r)) σ := by
  refine met_i (by decide +kernel) (Nat.le_of_ble_eq_true rfl) rfl ?_
  intro p e s m args below meth c Q ls X hW hret hl
  have hx := X.1.1
  have hb := X.1.2.1
  have hl : lv_has ls 5 [(0, .ref (gz G + (v0))), (1, .int (v1)), (2, .int (v2))] := hl
  have h := hf
  clear hf
  unfold pf_X6_endOfRun at h
  refine lv_aload_n hx hb dX6_endOfRun_0 rfl (lv_at hl 0 rfl) ?_
  refine lv_iload_n hx hb dX6_endOfRun_1 rfl (lv_at hl 1 rfl) ?_
  obtain ⟨r_1, hcl, h⟩ := bind_el h
  refine call_SN1 X hW m_5_190 m_2_178 mv_X10_at (c_X10_at h0 hcl) (by decide) rfl rfl (Nat.le_of_ble_eq_true rfl) hl.1 dX6_endOfRun_2 ?_
  clear hW hcl; intro H locs hW
  obtain ⟨r_2, hcl, h⟩ := bind_el h
  refine call_S1 X hW m_5_191 m_5_192 mv_X6_kindOf (c_X6_kindOf hcl) (by decide) rfl rfl (Nat.le_of_ble_eq_true rfl) hl.1 dX6_endOfRun_5 ?_
  clear hW hcl; intro H locs hW
  refine lv_istore_n (lv' := [(3, .int (r_2)), (0, .ref (gz G + (v0))), (1, .int (v1)), (2, .int (v2))]) hx hb dX6_endOfRun_8 rfl hl (by decide) rfl ?_
  clear hl; intro ls hl
  refine lv_iload_n hx hb dX6_endOfRun_9 rfl (lv_at hl 2 rfl) ?_
  refine lv_iconst (v := 1) hx hb dX6_endOfRun_10 (by decide) ?_
  refine lv_iadd hx hb dX6_endOfRun_11 ?_
  refine nm_i h ?_
  clear h; intro v4_3 h
  refine lv_istore (lv' := [(4, .int (v4_3)), (3, .int (r_2)), (0, .ref (gz G + (v0))), (1, .int (v1)), (2, .int (v2))]) hx hb dX6_endOfRun_12 hl (by decide) rfl ?_
  clear hl; intro ls hl
  exact bl_X6_endOfRun_L14 X hret FU v0 h0 v2 r_2 v4_3 h _ _ _ hW (lv_sub hl [2, 4, 1, 0] rfl)
set_option maxRecDepth 20000 in
set_option maxHeartbeats 4000000 in
theorem bl_X6_numberAt_L5 {σ : St} (X : Cx G p R s m args c cells slots cX6_numberAt 5 RX6 3) {r : Int32} (hret : R_I G p l e R s m args below meth c cells slots Q cX6_numberAt r σ) :
    ∀ (n : Nat), ∀ (v0 : Nat) (h0 : kd v0 = 11) (v2 : Int32) (v3 : Int32) (v4 : Int32) (_ : pf_X6_numberAt_L5 σ n v0 v2 v3 v4 = some r) (H : Heap) (locs : List Loc) (ls : Array Slot) (_ : GW G σ s H locs) (_ : lv_has ls 5 [(0, .ref (gz G + (v0))), (2, .int (v2)), (3, .int (v3)), (4, .int (v4))]), W p l e R s m args below meth c H locs cells slots Q (F0 m 5 ls []) := by
  have hx := X.1.1
  have hb := X.1.2.1
  intro n
  induction n with
  | zero => intro v0 h0 v2 v3 v4 h H locs ls hW hl; cases h
  | succ n ih =>
    intro v0 h0 v2 v3 v4 h H locs ls hW hl
    rw [pf_X6_numberAt_L5.eq_2] at h
    refine lv_iload hx hb dX6_numberAt_5 (lv_at hl 3 rfl) ?_
    refine lv_iload_n hx hb dX6_numberAt_7 rfl (lv_at hl 1 rfl) ?_
    refine lv_icmp_ge (tgt := 37) hx hb dX6_numberAt_8 (by decide) (fun hc => ?_) (fun hc => ?_)
    · replace h := if_t hc h
      refine lv_iload_n hx hb dX6_numberAt_37 rfl (lv_at hl 2 rfl) ?_
      exact ri_end0 hret h dX6_numberAt_38 hW
    · replace h := if_f hc h
      refine lv_ldc (v := 1000000) hx hb X.1.2.2.2.1 (X.1.2.2.2.2 _ m_5_225) dX6_numberAt_11 ?_
      refine lv_iload_n hx hb dX6_numberAt_13 rfl (lv_at hl 2 rfl) ?_
      refine lv_bipush (v := 10) hx hb dX6_numberAt_14 (by decide) ?_
      refine lv_imul hx hb dX6_numberAt_16 ?_
      refine lv_aload_n hx hb dX6_numberAt_17 rfl (lv_at hl 0 rfl) ?_
      refine lv_iload hx hb dX6_numberAt_18 (lv_at hl 3 rfl) ?_
      obtain ⟨r_1, hcl, h⟩ := bind_el h
      refine call_SN1 X hW m_5_190 m_2_178 mv_X10_at (c_X10_at h0 hcl) (by decide) rfl rfl (Nat.le_of_ble_eq_true rfl) hl.1 dX6_numberAt_20 ?_
      clear hW hcl; intro H locs hW
      refine lv_iadd hx hb dX6_numberAt_23 ?_
      refine lv_bipush (v := 48) hx hb dX6_numberAt_24 (by decide) ?_
      refine lv_isub hx hb dX6_numberAt_26 ?_
      obtain ⟨r_2, hcl, h⟩ := bind_el h
      refine call_S1 X hW m_5_226 m_2_227 mv_J9_min_7cf53 (c_J9_min_7cf53 hcl) (by decide) rfl rfl (Nat.le_of_ble_eq_true rfl) hl.1 dX6_numberAt_27 ?_
      clear hW hcl; intro H locs hW
      refine lv_istore_n (lv' := [(3, .int (r_2)), (0, .ref (gz G + (v0))), (2, .int (v2)), (4, .int (v4))]) hx hb dX6_numberAt_30 rfl hl (by decide) rfl ?_
      clear hl; intro ls hl
      refine w_iinc (v := 1) (lv' := fun y => [(4, .int (y)), (3, .int (r_2)), (0, .ref (gz G + (v0))), (2, .int (v2))]) hx hb dX6_numberAt_31 hl (k := 3) rfl (by decide) (by decide) (fun _ => rfl) h ?_
      clear h hl; intro v4_3 h ls hl
      refine lv_goto (tgt := 5) hx hb dX6_numberAt_34 (by decide) ?_
      exact ih v0 h0 v2 r_2 v4_3 h _ _ _ hW (lv_sub hl [2, 3, 1, 0] rfl)
set_option maxRecDepth 20000 in
set_option maxHeartbeats 4000000 in
theorem c_X6_numberAt {G : Gt} {l : Launch} {v0 : Nat} (h0 : kd v0 = 11) {v1 : Int32} {v2 : Int32} {σ : St} {r : Int32} (hf : pf_X6_numberAt v0 v1 v2 σ = some r) : Ct G l yX6_numberAt cX6_numberAt 5 (some .int) 3 [.ref (gz G + (v0)), .int (v1), .int (v2)] σ (some (.int r)) σ := by
  refine met_i (by decide +kernel) (Nat.le_of_ble_eq_true rfl) rfl ?_
  intro p e s m args below meth c Q ls X hW hret hl
  have hx := X.1.1
  have hb := X.1.2.1
  have hl : lv_has ls 5 [(0, .ref (gz G + (v0))), (1, .int (v1)), (2, .int (v2))] := hl
  have h := hf
  clear hf
  unfold pf_X6_numberAt at h
  refine lv_iconst (v := 0) hx hb dX6_numberAt_0 (by decide) ?_
  refine lv_istore_n (lv' := [(3, .int (0)), (0, .ref (gz G + (v0))), (1, .int (v1)), (2, .int (v2))]) hx hb dX6_numberAt_1 rfl hl (by decide) rfl ?_
  clear hl; intro ls hl
  refine lv_iload_n hx hb dX6_numberAt_2 rfl (lv_at hl 2 rfl) ?_
  refine lv_istore (lv' := [(4, .int (v1)), (3, .int (0)), (0, .ref (gz G + (v0))), (1, .int (v1)), (2, .int (v2))]) hx hb dX6_numberAt_3 hl (by decide) rfl ?_
  clear hl; intro ls hl
  exact bl_X6_numberAt_L5 X hret FU v0 h0 v2 0 v1 h _ _ _ hW (lv_sub hl [2, 4, 1, 0] rfl)
set_option maxRecDepth 20000 in
set_option maxHeartbeats 4000000 in
theorem bl_X5_stands_L18 {σ : St} (X : Cx G p R s m args c cells slots cX5_stands 5 RX5 9) {r : Int32} (hret : R_Z G p l e R s m args below meth c cells slots Q cX5_stands r σ) :
    ∀ (n : Nat), ∀ (v0 : Nat) (h0 : v0 < 32) (v1 : Nat) (h1 : kd v1 = 11) (v2 : Int32) (v4 : Int32) (_ : pf_X5_stands_L18 σ n v0 v1 v2 v4 = some r) (H : Heap) (locs : List Loc) (ls : Array Slot) (_ : GW G σ s H locs) (_ : lv_has ls 5 [(0, .ref (gad G (v0))), (1, .ref (gz G + (v1))), (2, .int (v2)), (4, .int (v4))]), W p l e R s m args below meth c H locs cells slots Q (F0 m 18 ls []) := by
  have hx := X.1.1
  have hb := X.1.2.1
  intro n
  induction n with
  | zero => intro v0 h0 v1 h1 v2 v4 h H locs ls hW hl; cases h
  | succ n ih =>
    intro v0 h0 v1 h1 v2 v4 h H locs ls hW hl
    rw [pf_X5_stands_L18.eq_2] at h
    refine lv_iload hx hb dX5_stands_18 (lv_at hl 3 rfl) ?_
    refine lv_aload_n hx hb dX5_stands_20 rfl (lv_at hl 0 rfl) ?_
    refine r_tokText X hW h0 m_7_210 dX5_stands_21 ?_
    refine r_slen X hW (tkS_lt v0) m_5_217 (Nat.le_of_ble_eq_true rfl) hl.1 (by decide) dX5_stands_24 ?_
    clear hW; intro H locs hW
    refine lv_icmp_ge (tgt := 58) hx hb dX5_stands_27 (by decide) (fun hc => ?_) (fun hc => ?_)
    · replace h := if_t hc h
      refine lv_iconst (v := 1) hx hb dX5_stands_58 (by decide) ?_
      exact rz_end0 hret h (by decide) dX5_stands_59 hW
    · replace h := if_f hc h
      refine lv_aload_n hx hb dX5_stands_30 rfl (lv_at hl 0 rfl) ?_
      refine r_tokText X hW h0 m_7_210 dX5_stands_31 ?_
      refine lv_iload hx hb dX5_stands_34 (lv_at hl 3 rfl) ?_
      obtain ⟨hi, h⟩ := ckI_el h
      refine r_schar X hW (tkS_lt v0) hi m_5_218 (Nat.le_of_ble_eq_true rfl) hl.1 (by decide) dX5_stands_36 ?_
      clear hW; intro H locs hW
      refine lv_aload_n hx hb dX5_stands_39 rfl (lv_at hl 1 rfl) ?_
      refine lv_iload_n hx hb dX5_stands_40 rfl (lv_at hl 2 rfl) ?_
      refine lv_iload hx hb dX5_stands_41 (lv_at hl 3 rfl) ?_
      refine lv_iadd hx hb dX5_stands_43 ?_
      obtain ⟨r_1, hcl, h⟩ := bind_el h
      refine call_SN1 X hW m_5_219 m_2_178 mv_X10_at (c_X10_at h1 hcl) (by decide) rfl rfl (Nat.le_of_ble_eq_true rfl) hl.1 dX5_stands_44 ?_
      clear hW hcl; intro H locs hW
      refine lv_icmp_eq (tgt := 52) hx hb dX5_stands_47 (by decide) (fun hc => ?_) (fun hc => ?_)
      · replace h := if_t hc h
        refine w_iinc (v := 1) (lv' := fun y => [(4, .int (y)), (0, .ref (gad G (v0))), (1, .ref (gz G + (v1))), (2, .int (v2))]) hx hb dX5_stands_52 hl (k := 3) rfl (by decide) (by decide) (fun _ => rfl) h ?_
        clear h hl; intro v4_2 h ls hl
        refine lv_goto (tgt := 18) hx hb dX5_stands_55 (by decide) ?_
        exact ih v0 h0 v1 h1 v2 v4_2 h _ _ _ hW (lv_sub hl [1, 2, 3, 0] rfl)
      · replace h := if_f hc h
        refine lv_iconst (v := 0) hx hb dX5_stands_50 (by decide) ?_
        exact rz_end0 hret h (by decide) dX5_stands_51 hW
set_option maxRecDepth 20000 in
set_option maxHeartbeats 4000000 in
theorem c_X5_stands {G : Gt} {l : Launch} {v0 : Nat} (h0 : v0 < 32) {v1 : Nat} (h1 : kd v1 = 11) {v2 : Int32} {v3 : Int32} {σ : St} {r : Int32} (hf : pf_X5_stands v0 v1 v2 v3 σ = some r) : Ct G l yX5_stands cX5_stands 5 (some .boolean) 9 [.ref (gad G (v0)), .ref (gz G + (v1)), .int (v2), .int (v3)] σ (some (.int r)) σ := by
  refine met_z (by decide +kernel) (Nat.le_of_ble_eq_true rfl) rfl ?_
  intro p e s m args below meth c Q ls X hW hret hl
  have hx := X.1.1
  have hb := X.1.2.1
  have hl : lv_has ls 5 [(0, .ref (gad G (v0))), (1, .ref (gz G + (v1))), (2, .int (v2)), (3, .int (v3))] := hl
  have h := hf
  clear hf
  unfold pf_X5_stands at h
  refine lv_aload_n hx hb dX5_stands_0 rfl (lv_at hl 0 rfl) ?_
  refine r_tokText X hW h0 m_7_210 dX5_stands_1 ?_
  refine r_slen X hW (tkS_lt v0) m_5_217 (Nat.le_of_ble_eq_true rfl) hl.1 (by decide) dX5_stands_4 ?_
  clear hW; intro H locs hW
  refine lv_iload_n hx hb dX5_stands_7 rfl (lv_at hl 3 rfl) ?_
  refine lv_iload_n hx hb dX5_stands_8 rfl (lv_at hl 2 rfl) ?_
  refine lv_isub hx hb dX5_stands_9 ?_
  refine lv_icmp_eq (tgt := 15) hx hb dX5_stands_10 (by decide) (fun hc => ?_) (fun hc => ?_)
  · replace h := if_t hc h
    refine lv_iconst (v := 0) hx hb dX5_stands_15 (by decide) ?_
    refine lv_istore (lv' := [(4, .int (0)), (0, .ref (gad G (v0))), (1, .ref (gz G + (v1))), (2, .int (v2)), (3, .int (v3))]) hx hb dX5_stands_16 hl (by decide) rfl ?_
    clear hl; intro ls hl
    exact bl_X5_stands_L18 X hret FU v0 h0 v1 h1 v2 0 h _ _ _ hW (lv_sub hl [1, 2, 3, 0] rfl)
  · replace h := if_f hc h
    refine lv_iconst (v := 0) hx hb dX5_stands_13 (by decide) ?_
    exact rz_end0 hret h (by decide) dX5_stands_14 hW
set_option maxRecDepth 20000 in
set_option maxHeartbeats 4000000 in
theorem bl_X6_tokenAt_b24 {σ : St} (X : Cx G p R s m args c cells slots cX6_tokenAt 4 RX6 10) {r : Option Nat} (hret : R_A G p l e R s m args below meth c cells slots Q cX6_tokenAt (va_re (gad G) r) σ) :
    ∀ (v3 : Int32) (_ : pf_X6_tokenAt_b24 σ v3 = some r) (H : Heap) (locs : List Loc) (ls : Array Slot) (_ : GW G σ s H locs) (_ : lv_has ls 4 [(3, .int (v3))]), W p l e R s m args below meth c H locs cells slots Q (F0 m 24 ls []) := by
  have hx := X.1.1
  have hb := X.1.2.1
  intro v3 h H locs ls hW hl
  unfold pf_X6_tokenAt_b24 at h
  refine r_gtkN X hW m_5_211 dX6_tokenAt_24 ?_
  refine lv_iload_n hx hb dX6_tokenAt_27 rfl (lv_at hl 0 rfl) ?_
  obtain ⟨hi, h⟩ := ckI_el h
  refine r_tk X hW hi dX6_tokenAt_28 ?_
  exact rt_end hret h dX6_tokenAt_29 hW
set_option maxRecDepth 20000 in
set_option maxHeartbeats 4000000 in
theorem bl_X6_tokenAt_L2 {σ : St} (X : Cx G p R s m args c cells slots cX6_tokenAt 4 RX6 10) {r : Option Nat} (hret : R_A G p l e R s m args below meth c cells slots Q cX6_tokenAt (va_re (gad G) r) σ) {k24 : Int32 → (Option (Option Nat))}
    (hk24 : ∀ (v3 : Int32) (_ : k24 v3 = some r) (H : Heap) (locs : List Loc) (ls : Array Slot) (_ : GW G σ s H locs) (_ : lv_has ls 4 [(3, .int (v3))]), W p l e R s m args below meth c H locs cells slots Q (F0 m 24 ls [])) :
    ∀ (n : Nat), ∀ (v0 : Nat) (h0 : kd v0 = 11) (v1 : Int32) (v2 : Int32) (v3 : Int32) (_ : pf_X6_tokenAt_L2 σ k24 n v0 v1 v2 v3 = some r) (H : Heap) (locs : List Loc) (ls : Array Slot) (_ : GW G σ s H locs) (_ : lv_has ls 4 [(0, .ref (gz G + (v0))), (1, .int (v1)), (2, .int (v2)), (3, .int (v3))]), W p l e R s m args below meth c H locs cells slots Q (F0 m 2 ls []) := by
  have hx := X.1.1
  have hb := X.1.2.1
  intro n
  induction n with
  | zero => intro v0 h0 v1 v2 v3 h H locs ls hW hl; cases h
  | succ n ih =>
    intro v0 h0 v1 v2 v3 h H locs ls hW hl
    rw [pf_X6_tokenAt_L2.eq_2] at h
    refine lv_iload_n hx hb dX6_tokenAt_2 rfl (lv_at hl 3 rfl) ?_
    refine r_gtkN X hW m_5_211 dX6_tokenAt_3 ?_
    refine r_tklen X hW dX6_tokenAt_6 ?_
    refine lv_icmp_ge (tgt := 36) hx hb dX6_tokenAt_7 (by decide) (fun hc => ?_) (fun hc => ?_)
    · replace h := if_t hc h
      refine r_gtok (k := 2) X hW (by decide) m_5_220 dX6_tokenAt_36 ?_
      exact rt_end hret h dX6_tokenAt_39 hW
    · replace h := if_f hc h
      refine r_gtkN X hW m_5_211 dX6_tokenAt_10 ?_
      refine lv_iload_n hx hb dX6_tokenAt_13 rfl (lv_at hl 3 rfl) ?_
      obtain ⟨hi, h⟩ := ckI_el h
      refine r_tk X hW hi dX6_tokenAt_14 ?_
      refine lv_aload_n hx hb dX6_tokenAt_15 rfl (lv_at hl 0 rfl) ?_
      refine lv_iload_n hx hb dX6_tokenAt_16 rfl (lv_at hl 1 rfl) ?_
      refine lv_iload_n hx hb dX6_tokenAt_17 rfl (lv_at hl 2 rfl) ?_
      obtain ⟨t1, et, ht, h⟩ := ckT_el h
      obtain ⟨r_2, hcl, h⟩ := bind_el h
      refine call_T1 X hW et ht m_5_213 m_5_214 m_5_215 mv_X5_stands (c_X5_stands ht h0 hcl) (by decide) rfl rfl (Nat.le_of_ble_eq_true rfl) hl.1 dX6_tokenAt_18 ?_
      clear hW hcl; intro H locs hW
      refine lv_if_eq (tgt := 30) hx hb dX6_tokenAt_21 (by decide) (fun hc => ?_) (fun hc => ?_)
      · replace h := if_t hc h
        refine w_iinc (v := 1) (lv' := fun y => [(3, .int (y)), (0, .ref (gz G + (v0))), (1, .int (v1)), (2, .int (v2))]) hx hb dX6_tokenAt_30 hl (k := 3) rfl (by decide) (by decide) (fun _ => rfl) h ?_
        clear h hl; intro v3_3 h ls hl
        refine lv_goto (tgt := 2) hx hb dX6_tokenAt_33 (by decide) ?_
        exact ih v0 h0 v1 v2 v3_3 h _ _ _ hW (lv_sub hl [1, 2, 3, 0] rfl)
      · replace h := if_f hc h
        exact hk24 v3 h _ _ _ hW (lv_sub hl [3] rfl)
set_option maxRecDepth 20000 in
set_option maxHeartbeats 4000000 in
theorem c_X6_tokenAt {G : Gt} {l : Launch} {v0 : Nat} (h0 : kd v0 = 11) {v1 : Int32} {v2 : Int32} {σ : St} {r : Option Nat} (hf : pf_X6_tokenAt v0 v1 v2 σ = some r) : Ct G l yX6_tokenAt cX6_tokenAt 4 (some (.object "QuestLedger$Token")) 10 [.ref (gz G + (v0)), .int (v1), .int (v2)] σ (some (va_re (gad G) r)) σ := by
  refine met_a (by decide +kernel) (Nat.le_of_ble_eq_true rfl) rfl (Or.inl ⟨_, rfl⟩) (va_re_or _ _) ?_
  intro p e s m args below meth c Q ls X hW hret hl
  have hx := X.1.1
  have hb := X.1.2.1
  have hl : lv_has ls 4 [(0, .ref (gz G + (v0))), (1, .int (v1)), (2, .int (v2))] := hl
  have h := hf
  clear hf
  unfold pf_X6_tokenAt at h
  refine lv_iconst (v := 0) hx hb dX6_tokenAt_0 (by decide) ?_
  refine lv_istore_n (lv' := [(3, .int (0)), (0, .ref (gz G + (v0))), (1, .int (v1)), (2, .int (v2))]) hx hb dX6_tokenAt_1 rfl hl (by decide) rfl ?_
  clear hl; intro ls hl
  exact bl_X6_tokenAt_L2 X hret (bl_X6_tokenAt_b24 X hret) FU v0 h0 v1 v2 0 h _ _ _ hW (lv_sub hl [1, 2, 3, 0] rfl)
set_option maxRecDepth 20000 in
set_option maxHeartbeats 4000000 in
theorem bl_X6_note_b99 (X : Cx G p R s m args c cells slots cX6_note 5 RX6 11) {σ' : St} (hret : R_V G p l e R s m args below meth c cells slots Q cX6_note σ') :
    ∀ (v0 : Nat) (h0 : kd v0 = 5) (s0 : Nat) (hs0 : kd s0 = 11) (s1 : Int32) (s2 : Int32) (σ : St) (_ : pf_X6_note_b99 v0 s0 s1 s2 σ = some σ') (H : Heap) (locs : List Loc) (ls : Array Slot) (_ : GW G σ s H locs) (_ : lv_has ls 5 [(0, .ref (gz G + (v0)))]), W p l e R s m args below meth c H locs cells slots Q (F0 m 99 ls [.int (s2), .int (s1), .ref (gz G + (s0))]) := by
  have hx := X.1.1
  have hb := X.1.2.1
  intro v0 h0 s0 hs0 s1 s2 σ h H locs ls hW hl
  unfold pf_X6_note_b99 at h
  obtain ⟨hi1, h⟩ := ckI_el h
  refine r_iast X hW hs0 hi1 dX6_note_99 ?_
  clear hW; intro H locs hW
  refine nm_s hW h ?_
  clear hW h; intro σ_2 hW h
  refine lv_aload_n hx hb dX6_note_100 rfl (lv_at hl 0 rfl) ?_
  refine lv_dup hx hb dX6_note_101 rfl ?_
  refine gf_X6_count X hW h0 m_1_213 dX6_note_102 ?_
  refine lv_iconst (v := 1) hx hb dX6_note_105 (by decide) ?_
  refine lv_iadd hx hb dX6_note_106 ?_
  refine sf_X6_count X hW h0 m_1_213 dX6_note_107 ?_
  clear hW; intro H locs hW
  refine nm_s hW h ?_
  clear hW h; intro σ_3 hW h
  exact rv_end hret h dX6_note_110 hW
set_option maxRecDepth 20000 in
set_option maxHeartbeats 4000000 in
theorem bl_X6_note_b65 (X : Cx G p R s m args c cells slots cX6_note 5 RX6 11) {σ' : St} (hret : R_V G p l e R s m args below meth c cells slots Q cX6_note σ') :
    ∀ (v0 : Nat) (h0 : kd v0 = 5) (v1 : Nat) (h1 : kd v1 = 11) (v2 : Int32) (v3 : Int32) (v4 : Int32) (σ : St) (_ : pf_X6_note_b65 v0 v1 v2 v3 v4 σ = some σ') (H : Heap) (locs : List Loc) (ls : Array Slot) (_ : GW G σ s H locs) (_ : lv_has ls 5 [(0, .ref (gz G + (v0))), (1, .ref (gz G + (v1))), (2, .int (v2)), (3, .int (v3)), (4, .int (v4))]), W p l e R s m args below meth c H locs cells slots Q (F0 m 65 ls []) := by
  have hx := X.1.1
  have hb := X.1.2.1
  intro v0 h0 v1 h1 v2 v3 v4 σ h H locs ls hW hl
  unfold pf_X6_note_b65 at h
  refine lv_aload_n hx hb dX6_note_65 rfl (lv_at hl 0 rfl) ?_
  refine gf_X6_starts X hW h0 m_1_211 dX6_note_66 ?_
  refine lv_aload_n hx hb dX6_note_69 rfl (lv_at hl 0 rfl) ?_
  refine gf_X6_count X hW h0 m_1_213 dX6_note_70 ?_
  refine lv_iload_n hx hb dX6_note_73 rfl (lv_at hl 2 rfl) ?_
  obtain ⟨hi1, h⟩ := ckI_el h
  refine r_iast X hW (kf_X6_starts h0) hi1 dX6_note_74 ?_
  clear hW; intro H locs hW
  refine nm_s hW h ?_
  clear hW h; intro σ_2 hW h
  refine lv_aload_n hx hb dX6_note_75 rfl (lv_at hl 0 rfl) ?_
  refine gf_X6_numbers X hW h0 m_1_212 dX6_note_76 ?_
  refine lv_aload_n hx hb dX6_note_79 rfl (lv_at hl 0 rfl) ?_
  refine gf_X6_count X hW h0 m_1_213 dX6_note_80 ?_
  refine lv_iload hx hb dX6_note_83 (lv_at hl 4 rfl) ?_
  refine lv_iconst (v := 1) hx hb dX6_note_85 (by decide) ?_
  refine lv_icmp_ne (tgt := 98) hx hb dX6_note_86 (by decide) (fun hc => ?_) (fun hc => ?_)
  · replace h := if_f hc h
    refine lv_iconst (v := 0) hx hb dX6_note_98 (by decide) ?_
    exact bl_X6_note_b99 X hret v0 h0 (v0 + 3) (kf_X6_numbers h0) (gI σ_2 v0 3) 0 σ_2 h _ _ _ hW (lv_sub hl [0] rfl)
  · replace h := if_t hc h
    refine lv_aload_n hx hb dX6_note_89 rfl (lv_at hl 1 rfl) ?_
    refine lv_iload_n hx hb dX6_note_90 rfl (lv_at hl 2 rfl) ?_
    refine lv_iload_n hx hb dX6_note_91 rfl (lv_at hl 3 rfl) ?_
    obtain ⟨r_3, hcl, h⟩ := bind_el h
    refine call_S1 X hW m_5_222 m_5_223 mv_X6_numberAt (c_X6_numberAt h1 hcl) (by decide) rfl rfl (Nat.le_of_ble_eq_true rfl) hl.1 dX6_note_92 ?_
    clear hW hcl; intro H locs hW
    refine lv_goto (tgt := 99) hx hb dX6_note_95 (by decide) ?_
    exact bl_X6_note_b99 X hret v0 h0 (v0 + 3) (kf_X6_numbers h0) (gI σ_2 v0 3) r_3 σ_2 h _ _ _ hW (lv_sub hl [0] rfl)
set_option maxRecDepth 20000 in
set_option maxHeartbeats 4000000 in
theorem bl_X6_note_b64 (X : Cx G p R s m args c cells slots cX6_note 5 RX6 11) {σ' : St} (hret : R_V G p l e R s m args below meth c cells slots Q cX6_note σ') :
    ∀ (v0 : Nat) (h0 : kd v0 = 5) (v1 : Nat) (h1 : kd v1 = 11) (v2 : Int32) (v3 : Int32) (v4 : Int32) (s0 : Nat) (hs0 : kd s0 = 15) (s1 : Int32) (s2 : Option Nat) (σ : St) (_ : pf_X6_note_b64 v0 v1 v2 v3 v4 s0 s1 s2 σ = some σ') (H : Heap) (locs : List Loc) (ls : Array Slot) (_ : GW G σ s H locs) (_ : lv_has ls 5 [(0, .ref (gz G + (v0))), (1, .ref (gz G + (v1))), (2, .int (v2)), (3, .int (v3)), (4, .int (v4))]), W p l e R s m args below meth c H locs cells slots Q (F0 m 64 ls [va_re (gad G) (s2), .int (s1), .ref (gz G + (s0))]) := by
  have hx := X.1.1
  have hb := X.1.2.1
  intro v0 h0 v1 h1 v2 v3 v4 s0 hs0 s1 s2 σ h H locs ls hW hl
  unfold pf_X6_note_b64 at h
  obtain ⟨hi1, h⟩ := ckI_el h
  obtain ⟨t3, et, ht, h⟩ := ckT_el h
  refine r_tast X hW hs0 et ht hi1 dX6_note_64 ?_
  clear hW; intro H locs hW
  refine nm_s hW h ?_
  clear hW h; intro σ_2 hW h
  exact bl_X6_note_b65 X hret v0 h0 v1 h1 v2 v3 v4 σ_2 h _ _ _ hW (lv_sub hl [0, 1, 2, 3, 4] rfl)
set_option maxRecDepth 20000 in
set_option maxHeartbeats 4000000 in
theorem c_X6_note {G : Gt} {l : Launch} {v0 : Nat} (h0 : kd v0 = 5) {v1 : Nat} (h1 : kd v1 = 11) {v2 : Int32} {v3 : Int32} {v4 : Int32} {σ : St} {σ' : St} (hf : pf_X6_note v0 v1 v2 v3 v4 σ = some σ') : Ct G l yX6_note cX6_note 5 none 11 [.ref (gz G + (v0)), .ref (gz G + (v1)), .int (v2), .int (v3), .int (v4)] σ none σ' := by
  refine met_v (by decide +kernel) (Nat.le_of_ble_eq_true rfl) rfl ?_
  intro p e s m args below meth c Q ls X hW hret hl
  have hx := X.1.1
  have hb := X.1.2.1
  have hl : lv_has ls 5 [(0, .ref (gz G + (v0))), (1, .ref (gz G + (v1))), (2, .int (v2)), (3, .int (v3)), (4, .int (v4))] := hl
  have h := hf
  clear hf
  unfold pf_X6_note at h
  refine lv_aload_n hx hb dX6_note_0 rfl (lv_at hl 0 rfl) ?_
  refine gf_X6_count X hW h0 m_1_213 dX6_note_1 ?_
  refine lv_if_lt (tgt := 17) hx hb dX6_note_4 (by decide) (fun hc => ?_) (fun hc => ?_)
  · replace h := if_t hc h
    exact rv_end hret h dX6_note_17 hW
  · replace h := if_f hc h
    refine lv_aload_n hx hb dX6_note_7 rfl (lv_at hl 0 rfl) ?_
    refine gf_X6_count X hW h0 m_1_213 dX6_note_8 ?_
    refine lv_sipush (v := 800) hx hb dX6_note_11 (by decide) ?_
    refine lv_icmp_le (tgt := 18) hx hb dX6_note_14 (by decide) (fun hc => ?_) (fun hc => ?_)
    · replace h := if_t hc h
      refine lv_iload_n hx hb dX6_note_18 rfl (lv_at hl 2 rfl) ?_
      refine lv_iload_n hx hb dX6_note_19 rfl (lv_at hl 3 rfl) ?_
      refine lv_icmp_ne (tgt := 38) hx hb dX6_note_20 (by decide) (fun hc => ?_) (fun hc => ?_)
      · replace h := if_f hc h
        refine lv_aload_n hx hb dX6_note_38 rfl (lv_at hl 0 rfl) ?_
        refine gf_X6_kinds X hW h0 m_1_210 dX6_note_39 ?_
        refine lv_aload_n hx hb dX6_note_42 rfl (lv_at hl 0 rfl) ?_
        refine gf_X6_count X hW h0 m_1_213 dX6_note_43 ?_
        refine lv_iload hx hb dX6_note_46 (lv_at hl 4 rfl) ?_
        refine lv_iconst (v := 1) hx hb dX6_note_48 (by decide) ?_
        refine lv_icmp_ne (tgt := 58) hx hb dX6_note_49 (by decide) (fun hc => ?_) (fun hc => ?_)
        · replace h := if_f hc h
          refine lv_aload_n hx hb dX6_note_58 rfl (lv_at hl 1 rfl) ?_
          refine lv_iload_n hx hb dX6_note_59 rfl (lv_at hl 2 rfl) ?_
          refine lv_iload_n hx hb dX6_note_60 rfl (lv_at hl 3 rfl) ?_
          obtain ⟨r_4, hcl, h⟩ := bind_el h
          refine call_S1 X hW m_5_208 m_5_209 mv_X6_tokenAt (c_X6_tokenAt h1 hcl) (by decide) rfl rfl (Nat.le_of_ble_eq_true rfl) hl.1 dX6_note_61 ?_
          clear hW hcl; intro H locs hW
          exact bl_X6_note_b64 X hret v0 h0 v1 h1 v2 v3 v4 (v0 + 1) (kf_X6_kinds h0) (gI σ v0 3) r_4 σ h _ _ _ hW (lv_sub hl [0, 1, 2, 3, 4] rfl)
        · replace h := if_t hc h
          refine r_gtok (k := 0) X hW (by decide) m_5_206 dX6_note_52 ?_
          refine lv_goto (tgt := 64) hx hb dX6_note_55 (by decide) ?_
          exact bl_X6_note_b64 X hret v0 h0 v1 h1 v2 v3 v4 (v0 + 1) (kf_X6_kinds h0) (gI σ v0 3) (some 0) σ h _ _ _ hW (lv_sub hl [0, 1, 2, 3, 4] rfl)
      · replace h := if_t hc h
        refine lv_aload_n hx hb dX6_note_23 rfl (lv_at hl 0 rfl) ?_
        refine gf_X6_kinds X hW h0 m_1_210 dX6_note_24 ?_
        refine lv_aload_n hx hb dX6_note_27 rfl (lv_at hl 0 rfl) ?_
        refine gf_X6_count X hW h0 m_1_213 dX6_note_28 ?_
        refine r_gtok (k := 1) X hW (by decide) m_5_204 dX6_note_31 ?_
        obtain ⟨hi1, h⟩ := ckI_el h
        obtain ⟨t3, et, ht, h⟩ := ckT_el h
        refine r_tast X hW (kf_X6_kinds h0) et ht hi1 dX6_note_34 ?_
        clear hW; intro H locs hW
        refine nm_s hW h ?_
        clear hW h; intro σ_2 hW h
        refine lv_goto (tgt := 65) hx hb dX6_note_35 (by decide) ?_
        exact bl_X6_note_b65 X hret v0 h0 v1 h1 v2 v3 v4 σ_2 h _ _ _ hW (lv_sub hl [0, 1, 2, 3, 4] rfl)
    · replace h := if_f hc h
      exact rv_end hret h dX6_note_17 hW
set_option maxRecDepth 20000 in
set_option maxHeartbeats 4000000 in
theorem bl_X6_scan_b75 (X : Cx G p R s m args c cells slots cX6_scan 5 RX6 12) {σ' : St} (hret : R_V G p l e R s m args below meth c cells slots Q cX6_scan σ') {k22 : Nat → Nat → Int32 → Int32 → St → (Option St)}
    (hk22 : ∀ (v0 : Nat) (h0 : kd v0 = 5) (v1 : Nat) (h1 : kd v1 = 11) (v2 : Int32) (v3 : Int32) (σ : St) (_ : k22 v0 v1 v2 v3 σ = some σ') (H : Heap) (locs : List Loc) (ls : Array Slot) (_ : GW G σ s H locs) (_ : lv_has ls 5 [(0, .ref (gz G + (v0))), (1, .ref (gz G + (v1))), (2, .int (v2)), (3, .int (v3))]), W p l e R s m args below meth c H locs cells slots Q (F0 m 22 ls [])) :
    ∀ (v0 : Nat) (h0 : kd v0 = 5) (v1 : Nat) (h1 : kd v1 = 11) (v2 : Int32) (v3 : Int32) (σ : St) (_ : pf_X6_scan_b75 k22 v0 v1 v2 v3 σ = some σ') (H : Heap) (locs : List Loc) (ls : Array Slot) (_ : GW G σ s H locs) (_ : lv_has ls 5 [(0, .ref (gz G + (v0))), (1, .ref (gz G + (v1))), (2, .int (v2)), (3, .int (v3))]), W p l e R s m args below meth c H locs cells slots Q (F0 m 75 ls []) := by
  have hx := X.1.1
  have hb := X.1.2.1
  intro v0 h0 v1 h1 v2 v3 σ h H locs ls hW hl
  unfold pf_X6_scan_b75 at h
  refine w_iinc (v := 1) (lv' := fun y => [(3, .int (y)), (0, .ref (gz G + (v0))), (1, .ref (gz G + (v1))), (2, .int (v2))]) hx hb dX6_scan_75 hl (k := 3) rfl (by decide) (by decide) (fun _ => rfl) h ?_
  clear h hl; intro v3_1 h ls hl
  refine lv_goto (tgt := 22) hx hb dX6_scan_78 (by decide) ?_
  exact hk22 v0 h0 v1 h1 v2 v3_1 σ h _ _ _ hW (lv_sub hl [1, 2, 3, 0] rfl)
set_option maxRecDepth 20000 in
set_option maxHeartbeats 4000000 in
theorem bl_X6_scan_b61 (X : Cx G p R s m args c cells slots cX6_scan 5 RX6 12) {σ' : St} (hret : R_V G p l e R s m args below meth c cells slots Q cX6_scan σ') {k22 : Nat → Nat → Int32 → Int32 → St → (Option St)}
    (hk22 : ∀ (v0 : Nat) (h0 : kd v0 = 5) (v1 : Nat) (h1 : kd v1 = 11) (v2 : Int32) (v3 : Int32) (σ : St) (_ : k22 v0 v1 v2 v3 σ = some σ') (H : Heap) (locs : List Loc) (ls : Array Slot) (_ : GW G σ s H locs) (_ : lv_has ls 5 [(0, .ref (gz G + (v0))), (1, .ref (gz G + (v1))), (2, .int (v2)), (3, .int (v3))]), W p l e R s m args below meth c H locs cells slots Q (F0 m 22 ls [])) :
    ∀ (v0 : Nat) (h0 : kd v0 = 5) (v1 : Nat) (h1 : kd v1 = 11) (v2 : Int32) (v3 : Int32) (v4 : Int32) (σ : St) (_ : pf_X6_scan_b61 k22 v0 v1 v2 v3 v4 σ = some σ') (H : Heap) (locs : List Loc) (ls : Array Slot) (_ : GW G σ s H locs) (_ : lv_has ls 5 [(0, .ref (gz G + (v0))), (1, .ref (gz G + (v1))), (2, .int (v2)), (3, .int (v3)), (4, .int (v4))]), W p l e R s m args below meth c H locs cells slots Q (F0 m 61 ls []) := by
  have hx := X.1.1
  have hb := X.1.2.1
  intro v0 h0 v1 h1 v2 v3 v4 σ h H locs ls hW hl
  unfold pf_X6_scan_b61 at h
  refine lv_aload_n hx hb dX6_scan_61 rfl (lv_at hl 0 rfl) ?_
  refine lv_aload_n hx hb dX6_scan_62 rfl (lv_at hl 1 rfl) ?_
  refine lv_iload_n hx hb dX6_scan_63 rfl (lv_at hl 3 rfl) ?_
  refine lv_aload_n hx hb dX6_scan_64 rfl (lv_at hl 1 rfl) ?_
  refine lv_iload_n hx hb dX6_scan_65 rfl (lv_at hl 3 rfl) ?_
  refine lv_iload_n hx hb dX6_scan_66 rfl (lv_at hl 2 rfl) ?_
  obtain ⟨r_1, hcl, h⟩ := bind_el h
  refine call_S1 X hW m_5_197 m_5_198 mv_X6_endOfRun (c_X6_endOfRun h1 hcl) (by decide) rfl rfl (Nat.le_of_ble_eq_true rfl) hl.1 dX6_scan_67 ?_
  clear hW hcl; intro H locs hW
  refine lv_iload hx hb dX6_scan_70 (lv_at hl 4 rfl) ?_
  obtain ⟨σ_2, hcl, h⟩ := bind_el h
  refine call_V0 X hW (kC_X6 h0) m_5_200 m_5_202 m_0_16 mv_X6_note (c_X6_note h0 h1 hcl) (by decide) rfl rfl (Nat.le_of_ble_eq_true rfl) hl.1 dX6_scan_72 ?_
  clear hW hcl; intro H locs hW
  exact bl_X6_scan_b75 X hret hk22 v0 h0 v1 h1 v2 v3 σ_2 h _ _ _ hW (lv_sub hl [0, 1, 2, 3] rfl)
set_option maxRecDepth 20000 in
set_option maxHeartbeats 4000000 in
theorem bl_X6_scan_b81 (X : Cx G p R s m args c cells slots cX6_scan 5 RX6 12) {σ' : St} (hret : R_V G p l e R s m args below meth c cells slots Q cX6_scan σ') :
    ∀ (v0 : Nat) (h0 : kd v0 = 5) (v1 : Nat) (h1 : kd v1 = 11) (v2 : Int32) (σ : St) (_ : pf_X6_scan_b81 v0 v1 v2 σ = some σ') (H : Heap) (locs : List Loc) (ls : Array Slot) (_ : GW G σ s H locs) (_ : lv_has ls 5 [(0, .ref (gz G + (v0))), (1, .ref (gz G + (v1))), (2, .int (v2))]), W p l e R s m args below meth c H locs cells slots Q (F0 m 81 ls []) := by
  have hx := X.1.1
  have hb := X.1.2.1
  intro v0 h0 v1 h1 v2 σ h H locs ls hW hl
  unfold pf_X6_scan_b81 at h
  refine lv_aload_n hx hb dX6_scan_81 rfl (lv_at hl 0 rfl) ?_
  refine lv_aload_n hx hb dX6_scan_82 rfl (lv_at hl 1 rfl) ?_
  refine lv_iload_n hx hb dX6_scan_83 rfl (lv_at hl 2 rfl) ?_
  refine lv_iload_n hx hb dX6_scan_84 rfl (lv_at hl 2 rfl) ?_
  refine lv_iconst (v := 3) hx hb dX6_scan_85 (by decide) ?_
  obtain ⟨σ_1, hcl, h⟩ := bind_el h
  refine call_V0 X hW (kC_X6 h0) m_5_200 m_5_202 m_0_16 mv_X6_note (c_X6_note h0 h1 hcl) (by decide) rfl rfl (Nat.le_of_ble_eq_true rfl) hl.1 dX6_scan_86 ?_
  clear hW hcl; intro H locs hW
  exact rv_end hret h dX6_scan_89 hW
set_option maxRecDepth 20000 in
set_option maxHeartbeats 4000000 in
theorem bl_X6_scan_L22 (X : Cx G p R s m args c cells slots cX6_scan 5 RX6 12) {σ' : St} (hret : R_V G p l e R s m args below meth c cells slots Q cX6_scan σ') {k81 : Nat → Nat → Int32 → St → (Option St)}
    (hk81 : ∀ (v0 : Nat) (h0 : kd v0 = 5) (v1 : Nat) (h1 : kd v1 = 11) (v2 : Int32) (σ : St) (_ : k81 v0 v1 v2 σ = some σ') (H : Heap) (locs : List Loc) (ls : Array Slot) (_ : GW G σ s H locs) (_ : lv_has ls 5 [(0, .ref (gz G + (v0))), (1, .ref (gz G + (v1))), (2, .int (v2))]), W p l e R s m args below meth c H locs cells slots Q (F0 m 81 ls [])) :
    ∀ (n : Nat), ∀ (v0 : Nat) (h0 : kd v0 = 5) (v1 : Nat) (h1 : kd v1 = 11) (v2 : Int32) (v3 : Int32) (σ : St) (_ : pf_X6_scan_L22 k81 n v0 v1 v2 v3 σ = some σ') (H : Heap) (locs : List Loc) (ls : Array Slot) (_ : GW G σ s H locs) (_ : lv_has ls 5 [(0, .ref (gz G + (v0))), (1, .ref (gz G + (v1))), (2, .int (v2)), (3, .int (v3))]), W p l e R s m args below meth c H locs cells slots Q (F0 m 22 ls []) := by
  have hx := X.1.1
  have hb := X.1.2.1
  intro n
  induction n with
  | zero => intro v0 h0 v1 h1 v2 v3 σ h H locs ls hW hl; cases h
  | succ n ih =>
    intro v0 h0 v1 h1 v2 v3 σ h H locs ls hW hl
    rw [pf_X6_scan_L22.eq_2] at h
    refine lv_iload_n hx hb dX6_scan_22 rfl (lv_at hl 3 rfl) ?_
    refine lv_iload_n hx hb dX6_scan_23 rfl (lv_at hl 2 rfl) ?_
    refine lv_icmp_ge (tgt := 81) hx hb dX6_scan_24 (by decide) (fun hc => ?_) (fun hc => ?_)
    · replace h := if_t hc h
      exact hk81 v0 h0 v1 h1 v2 σ h _ _ _ hW (lv_sub hl [0, 1, 2] rfl)
    · replace h := if_f hc h
      refine lv_aload_n hx hb dX6_scan_27 rfl (lv_at hl 1 rfl) ?_
      refine lv_iload_n hx hb dX6_scan_28 rfl (lv_at hl 3 rfl) ?_
      obtain ⟨r_1, hcl, h⟩ := bind_el h
      refine call_SN1 X hW m_5_190 m_2_178 mv_X10_at (c_X10_at h1 hcl) (by decide) rfl rfl (Nat.le_of_ble_eq_true rfl) hl.1 dX6_scan_29 ?_
      clear hW hcl; intro H locs hW
      obtain ⟨r_2, hcl, h⟩ := bind_el h
      refine call_S1 X hW m_5_191 m_5_192 mv_X6_kindOf (c_X6_kindOf hcl) (by decide) rfl rfl (Nat.le_of_ble_eq_true rfl) hl.1 dX6_scan_32 ?_
      clear hW hcl; intro H locs hW
      refine lv_istore (lv' := [(4, .int (r_2)), (0, .ref (gz G + (v0))), (1, .ref (gz G + (v1))), (2, .int (v2)), (3, .int (v3))]) hx hb dX6_scan_35 hl (by decide) rfl ?_
      clear hl; intro ls hl
      refine lv_iload hx hb dX6_scan_37 (lv_at hl 0 rfl) ?_
      refine lv_if_eq (tgt := 75) hx hb dX6_scan_39 (by decide) (fun hc => ?_) (fun hc => ?_)
      · replace h := if_t hc h
        exact bl_X6_scan_b75 X hret ih v0 h0 v1 h1 v2 v3 σ h _ _ _ hW (lv_sub hl [1, 2, 3, 4] rfl)
      · replace h := if_f hc h
        refine lv_iload_n hx hb dX6_scan_42 rfl (lv_at hl 4 rfl) ?_
        refine lv_if_le (tgt := 61) hx hb dX6_scan_43 (by decide) (fun hc => ?_) (fun hc => ?_)
        · replace h := if_t hc h
          exact bl_X6_scan_b61 X hret ih v0 h0 v1 h1 v2 v3 r_2 σ h _ _ _ hW (lv_sub hl [1, 2, 3, 4, 0] rfl)
        · replace h := if_f hc h
          refine lv_iload hx hb dX6_scan_46 (lv_at hl 0 rfl) ?_
          refine lv_aload_n hx hb dX6_scan_48 rfl (lv_at hl 2 rfl) ?_
          refine lv_iload_n hx hb dX6_scan_49 rfl (lv_at hl 4 rfl) ?_
          refine lv_iconst (v := 1) hx hb dX6_scan_50 (by decide) ?_
          refine lv_isub hx hb dX6_scan_51 ?_
          obtain ⟨r_3, hcl, h⟩ := bind_el h
          refine call_SN1 X hW m_5_190 m_2_178 mv_X10_at (c_X10_at h1 hcl) (by decide) rfl rfl (Nat.le_of_ble_eq_true rfl) hl.1 dX6_scan_52 ?_
          clear hW hcl; intro H locs hW
          obtain ⟨r_4, hcl, h⟩ := bind_el h
          refine call_S1 X hW m_5_194 m_5_195 mv_X6_goesOn (c_X6_goesOn hcl) (by decide) rfl rfl (Nat.le_of_ble_eq_true rfl) hl.1 dX6_scan_55 ?_
          clear hW hcl; intro H locs hW
          refine lv_if_ne (tgt := 75) hx hb dX6_scan_58 (by decide) (fun hc => ?_) (fun hc => ?_)
          · replace h := if_f hc h
            exact bl_X6_scan_b75 X hret ih v0 h0 v1 h1 v2 v3 σ h _ _ _ hW (lv_sub hl [1, 2, 3, 4] rfl)
          · replace h := if_t hc h
            exact bl_X6_scan_b61 X hret ih v0 h0 v1 h1 v2 v3 r_2 σ h _ _ _ hW (lv_sub hl [1, 2, 3, 4, 0] rfl)
set_option maxRecDepth 20000 in
set_option maxHeartbeats 4000000 in
theorem c_X6_scan {G : Gt} {l : Launch} {v0 : Nat} (h0 : kd v0 = 5) {v1 : Nat} (h1 : kd v1 = 11) {v2 : Int32} {σ : St} {σ' : St} (hf : pf_X6_scan v0 v1 v2 σ = some σ') : Ct G l yX6_scan cX6_scan 5 none 12 [.ref (gz G + (v0)), .ref (gz G + (v1)), .int (v2)] σ none σ' := by
  refine met_v (by decide +kernel) (Nat.le_of_ble_eq_true rfl) rfl ?_
  intro p e s m args below meth c Q ls X hW hret hl
  have hx := X.1.1
  have hb := X.1.2.1
  have hl : lv_has ls 5 [(0, .ref (gz G + (v0))), (1, .ref (gz G + (v1))), (2, .int (v2))] := hl
  have h := hf
  clear hf
  unfold pf_X6_scan at h
  refine lv_aload_n hx hb dX6_scan_0 rfl (lv_at hl 0 rfl) ?_
  refine lv_iconst (v := 0) hx hb dX6_scan_1 (by decide) ?_
  refine sf_X6_count X hW h0 m_1_213 dX6_scan_2 ?_
  clear hW; intro H locs hW
  refine nm_s hW h ?_
  clear hW h; intro σ_1 hW h
  refine lv_aload_n hx hb dX6_scan_5 rfl (lv_at hl 0 rfl) ?_
  refine lv_iconst (v := 0) hx hb dX6_scan_6 (by decide) ?_
  refine sf_X6_place X hW h0 m_1_214 dX6_scan_7 ?_
  clear hW; intro H locs hW
  refine nm_s hW h ?_
  clear hW h; intro σ_2 hW h
  refine lv_aload_n hx hb dX6_scan_10 rfl (lv_at hl 0 rfl) ?_
  refine lv_iconst (v := 0) hx hb dX6_scan_11 (by decide) ?_
  refine sf_X6_error X hW h0 m_1_215 dX6_scan_12 ?_
  clear hW; intro H locs hW
  refine nm_s hW h ?_
  clear hW h; intro σ_3 hW h
  refine lv_aload_n hx hb dX6_scan_15 rfl (lv_at hl 0 rfl) ?_
  refine lv_iconst (v := (-1)) hx hb dX6_scan_16 (by decide) ?_
  refine sf_X6_errorOffset X hW h0 m_1_217 dX6_scan_17 ?_
  clear hW; intro H locs hW
  refine nm_s hW h ?_
  clear hW h; intro σ_4 hW h
  refine lv_iconst (v := 0) hx hb dX6_scan_20 (by decide) ?_
  refine lv_istore_n (lv' := [(3, .int (0)), (0, .ref (gz G + (v0))), (1, .ref (gz G + (v1))), (2, .int (v2))]) hx hb dX6_scan_21 rfl hl (by decide) rfl ?_
  clear hl; intro ls hl
  exact bl_X6_scan_L22 X hret (bl_X6_scan_b81 X hret) FU v0 h0 v1 h1 v2 0 σ_4 h _ _ _ hW (lv_sub hl [1, 2, 3, 0] rfl)
end
