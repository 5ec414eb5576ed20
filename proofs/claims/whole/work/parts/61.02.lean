section
variable {G : Gt} {p : Program} {l : Launch} {e : Env} {R : Room} {s : State} {m : MethodId} {args : Array Value} {below : List Frame} {meth : Method} {c : Code} {cells slots : Nat} {Q : State → Prop}
set_option maxRecDepth 20000 in
set_option maxHeartbeats 4000000 in
theorem bl_X6_number_b59 (X : Cx G p R s m args c cells slots cX6_number 5 RX6 3) {r : Int32} {σ' : St} (hret : R_I G p l e R s m args below meth c cells slots Q cX6_number r σ') :
    ∀ (v0 : Nat) (h0 : kd v0 = 5) (v1 : Int32) (v3 : Int32) (σ : St) (_ : pf_X6_number_b59 v0 v1 v3 σ = some (r, σ')) (H : Heap) (locs : List Loc) (ls : Array Slot) (_ : GW G σ s H locs) (_ : lv_has ls 5 [(0, .ref (gz G + (v0))), (1, .int (v1)), (3, .int (v3))]), W p l e R s m args below meth c H locs cells slots Q (F0 m 59 ls []) := by
  have hx := X.1.1
  have hb := X.1.2.1
  intro v0 h0 v1 v3 σ h H locs ls hW hl
  unfold pf_X6_number_b59 at h
  refine lv_aload_n hx hb dX6_number_59 rfl (lv_at hl 0 rfl) ?_
  refine lv_bipush (v := (-3)) hx hb dX6_number_60 (by decide) ?_
  refine lv_iload_n hx hb dX6_number_62 rfl (lv_at hl 2 rfl) ?_
  obtain ⟨σ_1, hcl, h⟩ := bind_el h
  refine call_V0 X hW (kC_X6 h0) m_4_45 m_4_46 m_4_47 mv_X6_fail (c_X6_fail h0 hcl) (by decide) rfl rfl (Nat.le_of_ble_eq_true rfl) hl.1 dX6_number_63 ?_
  clear hW hcl; intro H locs hW
  refine lv_iload_n hx hb dX6_number_66 rfl (lv_at hl 1 rfl) ?_
  exact ri_end hret h dX6_number_67 hW
set_option maxRecDepth 20000 in
set_option maxHeartbeats 4000000 in
theorem c_X6_number {G : Gt} {l : Launch} {v0 : Nat} (h0 : kd v0 = 5) {v1 : Int32} {v2 : Int32} {σ : St} {r : Int32} {σ' : St} (hf : pf_X6_number v0 v1 v2 σ = some (r, σ')) : Ct G l yX6_number cX6_number 5 (some .int) 3 [.ref (gz G + (v0)), .int (v1), .int (v2)] σ (some (.int r)) σ' := by
  refine met_i (by decide +kernel) (Nat.le_of_ble_eq_true rfl) rfl ?_
  intro p e s m args below meth c Q ls X hW hret hl
  have hx := X.1.1
  have hb := X.1.2.1
  have hl : lv_has ls 5 [(0, .ref (gz G + (v0))), (1, .int (v1)), (2, .int (v2))] := hl
  have h := hf
  clear hf
  unfold pf_X6_number at h
  refine lv_aload_n hx hb dX6_number_0 rfl (lv_at hl 0 rfl) ?_
  obtain ⟨r_1, hcl, h⟩ := bind_el h
  refine call_V1 X hW (kC_X6 h0) m_4_41 m_4_42 m_4_43 mv_X6_start (c_X6_start h0 hcl) (by decide) rfl rfl (Nat.le_of_ble_eq_true rfl) hl.1 dX6_number_1 ?_
  clear hW hcl; intro H locs hW
  refine lv_istore_n (lv' := [(3, .int (r_1)), (0, .ref (gz G + (v0))), (1, .int (v1)), (2, .int (v2))]) hx hb dX6_number_4 rfl hl (by decide) rfl ?_
  clear hl; intro ls hl
  refine lv_aload_n hx hb dX6_number_5 rfl (lv_at hl 1 rfl) ?_
  obtain ⟨r_2, hcl, h⟩ := bind_el h
  refine call_V1 X hW (kC_X6 h0) m_4_35 m_4_36 m_4_37 mv_X6_ahead (c_X6_ahead h0 hcl) (by decide) rfl rfl (Nat.le_of_ble_eq_true rfl) hl.1 dX6_number_6 ?_
  clear hW hcl; intro H locs hW
  refine r_gtok (k := 0) X hW (by decide) m_3_189 dX6_number_9 ?_
  refine r_acmp_eq (a := r_2) (b := some 0) (tgt := 24) X hx hb dX6_number_12 (by decide) (fun hc => ?_) (fun hc => ?_)
  · replace h := if_t hc h
    refine lv_aload_n hx hb dX6_number_24 rfl (lv_at hl 1 rfl) ?_
    refine gf_X6_numbers X hW h0 m_1_207 dX6_number_25 ?_
    refine lv_aload_n hx hb dX6_number_28 rfl (lv_at hl 1 rfl) ?_
    refine gf_X6_place X hW h0 m_1_209 dX6_number_29 ?_
    obtain ⟨r_3, hcl, h⟩ := bind_el h
    refine call_SN1 X hW m_3_173 m_2_132 mv_X10_at (c_X10_at (kf_X6_numbers h0) hcl) (by decide) rfl rfl (Nat.le_of_ble_eq_true rfl) hl.1 dX6_number_32 ?_
    clear hW hcl; intro H locs hW
    refine lv_istore (lv' := [(4, .int (r_3)), (3, .int (r_1)), (0, .ref (gz G + (v0))), (1, .int (v1)), (2, .int (v2))]) hx hb dX6_number_35 hl (by decide) rfl ?_
    clear hl; intro ls hl
    refine lv_aload_n hx hb dX6_number_37 rfl (lv_at hl 2 rfl) ?_
    refine lv_dup hx hb dX6_number_38 rfl ?_
    refine gf_X6_place X hW h0 m_1_209 dX6_number_39 ?_
    refine lv_iconst (v := 1) hx hb dX6_number_42 (by decide) ?_
    refine lv_iadd hx hb dX6_number_43 ?_
    refine sf_X6_place X hW h0 m_1_209 dX6_number_44 ?_
    clear hW; intro H locs hW
    refine nm_s hW h ?_
    clear hW h; intro σ_4 hW h
    refine lv_iload hx hb dX6_number_47 (lv_at hl 0 rfl) ?_
    refine lv_iload_n hx hb dX6_number_49 rfl (lv_at hl 3 rfl) ?_
    refine lv_icmp_lt (tgt := 59) hx hb dX6_number_50 (by decide) (fun hc => ?_) (fun hc => ?_)
    · replace h := if_t hc h
      exact bl_X6_number_b59 X hret v0 h0 v1 r_1 σ_4 h _ _ _ hW (lv_sub hl [2, 3, 1] rfl)
    · replace h := if_f hc h
      refine lv_iload hx hb dX6_number_53 (lv_at hl 0 rfl) ?_
      refine lv_iload_n hx hb dX6_number_55 rfl (lv_at hl 4 rfl) ?_
      refine lv_icmp_le (tgt := 68) hx hb dX6_number_56 (by decide) (fun hc => ?_) (fun hc => ?_)
      · replace h := if_t hc h
        refine lv_iload hx hb dX6_number_68 (lv_at hl 0 rfl) ?_
        exact ri_end hret h dX6_number_70 hW
      · replace h := if_f hc h
        exact bl_X6_number_b59 X hret v0 h0 v1 r_1 σ_4 h _ _ _ hW (lv_sub hl [2, 3, 1] rfl)
  · replace h := if_f hc h
    refine lv_aload_n hx hb dX6_number_15 rfl (lv_at hl 1 rfl) ?_
    refine lv_bipush (v := (-2)) hx hb dX6_number_16 (by decide) ?_
    refine lv_iload_n hx hb dX6_number_18 rfl (lv_at hl 0 rfl) ?_
    obtain ⟨σ_5, hcl, h⟩ := bind_el h
    refine call_V0 X hW (kC_X6 h0) m_4_45 m_4_46 m_4_47 mv_X6_fail (c_X6_fail h0 hcl) (by decide) rfl rfl (Nat.le_of_ble_eq_true rfl) hl.1 dX6_number_19 ?_
    clear hW hcl; intro H locs hW
    refine lv_iload_n hx hb dX6_number_22 rfl (lv_at hl 2 rfl) ?_
    exact ri_end hret h dX6_number_23 hW
set_option maxRecDepth 20000 in
set_option maxHeartbeats 4000000 in
theorem c_X6_skip {G : Gt} {l : Launch} {v0 : Nat} (h0 : kd v0 = 5) {σ : St} {σ' : St} (hf : pf_X6_skip v0 σ = some σ') : Ct G l yX6_skip cX6_skip 1 none 2 [.ref (gz G + (v0))] σ none σ' := by
  refine met_v (by decide +kernel) (Nat.le_of_ble_eq_true rfl) rfl ?_
  intro p e s m args below meth c Q ls X hW hret hl
  have hx := X.1.1
  have hb := X.1.2.1
  have hl : lv_has ls 1 [(0, .ref (gz G + (v0)))] := hl
  have h := hf
  clear hf
  unfold pf_X6_skip at h
  refine lv_aload_n hx hb dX6_skip_0 rfl (lv_at hl 0 rfl) ?_
  refine lv_dup hx hb dX6_skip_1 rfl ?_
  refine gf_X6_place X hW h0 m_1_209 dX6_skip_2 ?_
  refine lv_iconst (v := 1) hx hb dX6_skip_5 (by decide) ?_
  refine lv_iadd hx hb dX6_skip_6 ?_
  refine sf_X6_place X hW h0 m_1_209 dX6_skip_7 ?_
  clear hW; intro H locs hW
  refine nm_s hW h ?_
  clear hW h; intro σ_1 hW h
  exact rv_end hret h dX6_skip_10 hW
set_option maxRecDepth 20000 in
set_option maxHeartbeats 4000000 in
theorem bl_X4_readStock_b75 (X : Cx G p R s m args c cells slots cX4_readStock 5 RX4 4) {σ' : St} (hret : R_V G p l e R s m args below meth c cells slots Q cX4_readStock σ') {k9 : Nat → Nat → Int32 → St → (Option St)}
    (hk9 : ∀ (v0 : Nat) (h0 : kd v0 = 4) (v1 : Nat) (h1 : kd v1 = 2) (v2 : Int32) (σ : St) (_ : k9 v0 v1 v2 σ = some σ') (H : Heap) (locs : List Loc) (ls : Array Slot) (_ : GW G σ s H locs) (_ : lv_has ls 5 [(0, .ref (gz G + (v0))), (1, .ref (gz G + (v1))), (2, .int (v2))]), W p l e R s m args below meth c H locs cells slots Q (F0 m 9 ls [])) :
    ∀ (v0 : Nat) (h0 : kd v0 = 4) (v1 : Nat) (h1 : kd v1 = 2) (v2 : Int32) (v4 : Int32) (σ : St) (_ : pf_X4_readStock_b75 k9 v0 v1 v2 v4 σ = some σ') (H : Heap) (locs : List Loc) (ls : Array Slot) (_ : GW G σ s H locs) (_ : lv_has ls 5 [(0, .ref (gz G + (v0))), (1, .ref (gz G + (v1))), (2, .int (v2)), (4, .int (v4))]), W p l e R s m args below meth c H locs cells slots Q (F0 m 75 ls []) := by
  have hx := X.1.1
  have hb := X.1.2.1
  intro v0 h0 v1 h1 v2 v4 σ h H locs ls hW hl
  unfold pf_X4_readStock_b75 at h
  refine lv_aload_n hx hb dX4_readStock_75 rfl (lv_at hl 0 rfl) ?_
  refine lv_dup hx hb dX4_readStock_76 rfl ?_
  refine gf_X4_stockTold X hW h0 m_2_10 dX4_readStock_77 ?_
  refine lv_iconst (v := 1) hx hb dX4_readStock_80 (by decide) ?_
  refine lv_iload hx hb dX4_readStock_81 (lv_at hl 3 rfl) ?_
  refine w_ishl hx hb dX4_readStock_83 ?_
  refine lv_ior hx hb dX4_readStock_84 ?_
  refine sf_X4_stockTold X hW h0 m_2_10 dX4_readStock_85 ?_
  clear hW; intro H locs hW
  refine nm_s hW h ?_
  clear hW h; intro σ_1 hW h
  refine lv_aload_n hx hb dX4_readStock_88 rfl (lv_at hl 1 rfl) ?_
  refine gf_X2_stock X hW h1 m_1_135 dX4_readStock_89 ?_
  refine lv_iload hx hb dX4_readStock_92 (lv_at hl 3 rfl) ?_
  refine lv_aload_n hx hb dX4_readStock_94 rfl (lv_at hl 0 rfl) ?_
  refine gf_X4_tokens X hW h0 m_2_7 dX4_readStock_95 ?_
  refine lv_iconst (v := 0) hx hb dX4_readStock_98 (by decide) ?_
  refine lv_sipush (v := 999) hx hb dX4_readStock_99 (by decide) ?_
  obtain ⟨r_2, σ_2, hcl, h⟩ := bnd2_el h
  refine call_V1 X hW (kC_X6 (kf_X4_tokens h0)) m_4_68 m_4_69 m_4_70 mv_X6_number (c_X6_number (kf_X4_tokens h0) hcl) (by decide) rfl rfl (Nat.le_of_ble_eq_true rfl) hl.1 dX4_readStock_102 ?_
  clear hW hcl; intro H locs hW
  obtain ⟨σ_3, hcl, h⟩ := bind_el h
  refine call_SN0 X hW m_4_73 m_2_98 mv_X10_put (c_X10_put (kf_X2_stock h1) hcl) (by decide) rfl rfl (Nat.le_of_ble_eq_true rfl) hl.1 dX4_readStock_105 ?_
  clear hW hcl; intro H locs hW
  refine w_iinc (v := 1) (lv' := fun y => [(2, .int (y)), (0, .ref (gz G + (v0))), (1, .ref (gz G + (v1))), (4, .int (v4))]) hx hb dX4_readStock_108 hl (k := 2) rfl (by decide) (by decide) (fun _ => rfl) h ?_
  clear h hl; intro v2_4 h ls hl
  refine lv_goto (tgt := 9) hx hb dX4_readStock_111 (by decide) ?_
  exact hk9 v0 h0 v1 h1 v2_4 σ_3 h _ _ _ hW (lv_sub hl [1, 2, 0] rfl)
set_option maxRecDepth 20000 in
set_option maxHeartbeats 4000000 in
theorem bl_X4_readStock_b33 (X : Cx G p R s m args c cells slots cX4_readStock 5 RX4 4) {σ' : St} (hret : R_V G p l e R s m args below meth c cells slots Q cX4_readStock σ') {k9 : Nat → Nat → Int32 → St → (Option St)}
    (hk9 : ∀ (v0 : Nat) (h0 : kd v0 = 4) (v1 : Nat) (h1 : kd v1 = 2) (v2 : Int32) (σ : St) (_ : k9 v0 v1 v2 σ = some σ') (H : Heap) (locs : List Loc) (ls : Array Slot) (_ : GW G σ s H locs) (_ : lv_has ls 5 [(0, .ref (gz G + (v0))), (1, .ref (gz G + (v1))), (2, .int (v2))]), W p l e R s m args below meth c H locs cells slots Q (F0 m 9 ls [])) :
    ∀ (v0 : Nat) (h0 : kd v0 = 4) (v1 : Nat) (h1 : kd v1 = 2) (v2 : Int32) (σ : St) (_ : pf_X4_readStock_b33 k9 v0 v1 v2 σ = some σ') (H : Heap) (locs : List Loc) (ls : Array Slot) (_ : GW G σ s H locs) (_ : lv_has ls 5 [(0, .ref (gz G + (v0))), (1, .ref (gz G + (v1))), (2, .int (v2))]), W p l e R s m args below meth c H locs cells slots Q (F0 m 33 ls []) := by
  have hx := X.1.1
  have hb := X.1.2.1
  intro v0 h0 v1 h1 v2 σ h H locs ls hW hl
  unfold pf_X4_readStock_b33 at h
  refine lv_aload_n hx hb dX4_readStock_33 rfl (lv_at hl 0 rfl) ?_
  refine gf_X4_tokens X hW h0 m_2_7 dX4_readStock_34 ?_
  obtain ⟨r_1, hcl, h⟩ := bind_el h
  refine call_V1 X hW (kC_X6 (kf_X4_tokens h0)) m_4_67 m_4_42 m_4_43 mv_X6_start (c_X6_start (kf_X4_tokens h0) hcl) (by decide) rfl rfl (Nat.le_of_ble_eq_true rfl) hl.1 dX4_readStock_37 ?_
  clear hW hcl; intro H locs hW
  refine lv_istore_n (lv' := [(3, .int (r_1)), (0, .ref (gz G + (v0))), (1, .ref (gz G + (v1))), (2, .int (v2))]) hx hb dX4_readStock_40 rfl hl (by decide) rfl ?_
  clear hl; intro ls hl
  refine lv_aload_n hx hb dX4_readStock_41 rfl (lv_at hl 1 rfl) ?_
  refine gf_X4_tokens X hW h0 m_2_7 dX4_readStock_42 ?_
  refine lv_iconst (v := 0) hx hb dX4_readStock_45 (by decide) ?_
  refine lv_bipush (v := 7) hx hb dX4_readStock_46 (by decide) ?_
  obtain ⟨r_2, σ_2, hcl, h⟩ := bnd2_el h
  refine call_V1 X hW (kC_X6 (kf_X4_tokens h0)) m_4_68 m_4_69 m_4_70 mv_X6_number (c_X6_number (kf_X4_tokens h0) hcl) (by decide) rfl rfl (Nat.le_of_ble_eq_true rfl) hl.1 dX4_readStock_48 ?_
  clear hW hcl; intro H locs hW
  refine lv_istore (lv' := [(4, .int (r_2)), (3, .int (r_1)), (0, .ref (gz G + (v0))), (1, .ref (gz G + (v1))), (2, .int (v2))]) hx hb dX4_readStock_51 hl (by decide) rfl ?_
  clear hl; intro ls hl
  refine lv_aload_n hx hb dX4_readStock_53 rfl (lv_at hl 2 rfl) ?_
  refine gf_X4_stockTold X hW h0 m_2_10 dX4_readStock_54 ?_
  refine lv_iload hx hb dX4_readStock_57 (lv_at hl 0 rfl) ?_
  refine w_iushr hx hb dX4_readStock_59 ?_
  refine lv_iconst (v := 1) hx hb dX4_readStock_60 (by decide) ?_
  refine lv_iand hx hb dX4_readStock_61 ?_
  refine lv_if_eq (tgt := 75) hx hb dX4_readStock_62 (by decide) (fun hc => ?_) (fun hc => ?_)
  · replace h := if_t hc h
    exact bl_X4_readStock_b75 X hret hk9 v0 h0 v1 h1 v2 r_2 σ_2 h _ _ _ hW (lv_sub hl [2, 3, 4, 0] rfl)
  · replace h := if_f hc h
    refine lv_aload_n hx hb dX4_readStock_65 rfl (lv_at hl 2 rfl) ?_
    refine gf_X4_tokens X hW h0 m_2_7 dX4_readStock_66 ?_
    refine lv_bipush (v := (-4)) hx hb dX4_readStock_69 (by decide) ?_
    refine lv_iload_n hx hb dX4_readStock_71 rfl (lv_at hl 1 rfl) ?_
    obtain ⟨σ_3, hcl, h⟩ := bind_el h
    refine call_V0 X hW (kC_X6 (kf_X4_tokens h0)) m_4_72 m_4_46 m_4_47 mv_X6_fail (c_X6_fail (kf_X4_tokens h0) hcl) (by decide) rfl rfl (Nat.le_of_ble_eq_true rfl) hl.1 dX4_readStock_72 ?_
    clear hW hcl; intro H locs hW
    exact bl_X4_readStock_b75 X hret hk9 v0 h0 v1 h1 v2 r_2 σ_3 h _ _ _ hW (lv_sub hl [2, 3, 4, 0] rfl)
set_option maxRecDepth 20000 in
set_option maxHeartbeats 4000000 in
theorem bl_X4_readStock_b114 (X : Cx G p R s m args c cells slots cX4_readStock 5 RX4 4) {σ' : St} (hret : R_V G p l e R s m args below meth c cells slots Q cX4_readStock σ') :
    ∀ (v0 : Nat) (h0 : kd v0 = 4) (σ : St) (_ : pf_X4_readStock_b114 v0 σ = some σ') (H : Heap) (locs : List Loc) (ls : Array Slot) (_ : GW G σ s H locs) (_ : lv_has ls 5 [(0, .ref (gz G + (v0)))]), W p l e R s m args below meth c H locs cells slots Q (F0 m 114 ls []) := by
  have hx := X.1.1
  have hb := X.1.2.1
  intro v0 h0 σ h H locs ls hW hl
  unfold pf_X4_readStock_b114 at h
  refine lv_aload_n hx hb dX4_readStock_114 rfl (lv_at hl 0 rfl) ?_
  refine gf_X4_tokens X hW h0 m_2_7 dX4_readStock_115 ?_
  refine r_gtok (k := 24) X hW (by decide) m_4_49 dX4_readStock_118 ?_
  obtain ⟨σ_1, hcl, h⟩ := bind_el h
  refine call_V0 X hW (kC_X6 (kf_X4_tokens h0)) m_4_31 m_4_32 m_4_33 mv_X6_expect (c_X6_expect (kf_X4_tokens h0) hcl) (by decide) rfl rfl (Nat.le_of_ble_eq_true rfl) hl.1 dX4_readStock_121 ?_
  clear hW hcl; intro H locs hW
  exact rv_end hret h dX4_readStock_124 hW
set_option maxRecDepth 20000 in
set_option maxHeartbeats 4000000 in
theorem bl_X4_readStock_L9 (X : Cx G p R s m args c cells slots cX4_readStock 5 RX4 4) {σ' : St} (hret : R_V G p l e R s m args below meth c cells slots Q cX4_readStock σ') {k114 : Nat → St → (Option St)}
    (hk114 : ∀ (v0 : Nat) (h0 : kd v0 = 4) (σ : St) (_ : k114 v0 σ = some σ') (H : Heap) (locs : List Loc) (ls : Array Slot) (_ : GW G σ s H locs) (_ : lv_has ls 5 [(0, .ref (gz G + (v0)))]), W p l e R s m args below meth c H locs cells slots Q (F0 m 114 ls [])) :
    ∀ (n : Nat), ∀ (v0 : Nat) (h0 : kd v0 = 4) (v1 : Nat) (h1 : kd v1 = 2) (v2 : Int32) (σ : St) (_ : pf_X4_readStock_L9 k114 n v0 v1 v2 σ = some σ') (H : Heap) (locs : List Loc) (ls : Array Slot) (_ : GW G σ s H locs) (_ : lv_has ls 5 [(0, .ref (gz G + (v0))), (1, .ref (gz G + (v1))), (2, .int (v2))]), W p l e R s m args below meth c H locs cells slots Q (F0 m 9 ls []) := by
  have hx := X.1.1
  have hb := X.1.2.1
  intro n
  induction n with
  | zero => intro v0 h0 v1 h1 v2 σ h H locs ls hW hl; cases h
  | succ n ih =>
    intro v0 h0 v1 h1 v2 σ h H locs ls hW hl
    rw [pf_X4_readStock_L9.eq_2] at h
    refine lv_iload_n hx hb dX4_readStock_9 rfl (lv_at hl 2 rfl) ?_
    refine lv_sipush (v := 800) hx hb dX4_readStock_10 (by decide) ?_
    refine lv_icmp_ge (tgt := 114) hx hb dX4_readStock_13 (by decide) (fun hc => ?_) (fun hc => ?_)
    · replace h := if_t hc h
      exact hk114 v0 h0 σ h _ _ _ hW (lv_sub hl [0] rfl)
    · replace h := if_f hc h
      refine lv_iload_n hx hb dX4_readStock_16 rfl (lv_at hl 2 rfl) ?_
      refine lv_if_eq (tgt := 33) hx hb dX4_readStock_17 (by decide) (fun hc => ?_) (fun hc => ?_)
      · replace h := if_t hc h
        exact bl_X4_readStock_b33 X hret ih v0 h0 v1 h1 v2 σ h _ _ _ hW (lv_sub hl [0, 1, 2] rfl)
      · replace h := if_f hc h
        refine lv_aload_n hx hb dX4_readStock_20 rfl (lv_at hl 0 rfl) ?_
        refine gf_X4_tokens X hW h0 m_2_7 dX4_readStock_21 ?_
        obtain ⟨r_1, hcl, h⟩ := bind_el h
        refine call_V1 X hW (kC_X6 (kf_X4_tokens h0)) m_4_55 m_4_36 m_4_37 mv_X6_ahead (c_X6_ahead (kf_X4_tokens h0) hcl) (by decide) rfl rfl (Nat.le_of_ble_eq_true rfl) hl.1 dX4_readStock_24 ?_
        clear hW hcl; intro H locs hW
        refine r_gtok (k := 0) X hW (by decide) m_4_66 dX4_readStock_27 ?_
        refine r_acmp_ne (a := r_1) (b := some 0) (tgt := 114) X hx hb dX4_readStock_30 (by decide) (fun hc => ?_) (fun hc => ?_)
        · replace h := if_f hc h
          exact hk114 v0 h0 σ h _ _ _ hW (lv_sub hl [0] rfl)
        · replace h := if_t hc h
          exact bl_X4_readStock_b33 X hret ih v0 h0 v1 h1 v2 σ h _ _ _ hW (lv_sub hl [0, 1, 2] rfl)
set_option maxRecDepth 20000 in
set_option maxHeartbeats 4000000 in
theorem c_X4_readStock {G : Gt} {l : Launch} {v0 : Nat} (h0 : kd v0 = 4) {v1 : Nat} (h1 : kd v1 = 2) {σ : St} {σ' : St} (hf : pf_X4_readStock v0 v1 σ = some σ') : Ct G l yX4_readStock cX4_readStock 5 none 4 [.ref (gz G + (v0)), .ref (gz G + (v1))] σ none σ' := by
  refine met_v (by decide +kernel) (Nat.le_of_ble_eq_true rfl) rfl ?_
  intro p e s m args below meth c Q ls X hW hret hl
  have hx := X.1.1
  have hb := X.1.2.1
  have hl : lv_has ls 5 [(0, .ref (gz G + (v0))), (1, .ref (gz G + (v1)))] := hl
  have h := hf
  clear hf
  unfold pf_X4_readStock at h
  refine lv_aload_n hx hb dX4_readStock_0 rfl (lv_at hl 0 rfl) ?_
  refine gf_X4_tokens X hW h0 m_2_7 dX4_readStock_1 ?_
  obtain ⟨σ_1, hcl, h⟩ := bind_el h
  refine call_V0 X hW (kC_X6 (kf_X4_tokens h0)) m_4_62 m_4_63 m_4_64 mv_X6_skip (c_X6_skip (kf_X4_tokens h0) hcl) (by decide) rfl rfl (Nat.le_of_ble_eq_true rfl) hl.1 dX4_readStock_4 ?_
  clear hW hcl; intro H locs hW
  refine lv_iconst (v := 0) hx hb dX4_readStock_7 (by decide) ?_
  refine lv_istore_n (lv' := [(2, .int (0)), (0, .ref (gz G + (v0))), (1, .ref (gz G + (v1)))]) hx hb dX4_readStock_8 rfl hl (by decide) rfl ?_
  clear hl; intro ls hl
  exact bl_X4_readStock_L9 X hret (bl_X4_readStock_b114 X hret) FU v0 h0 v1 h1 0 σ_1 h _ _ _ hW (lv_sub hl [1, 2, 0] rfl)
set_option maxRecDepth 20000 in
set_option maxHeartbeats 4000000 in
theorem c_X4_readSeed {G : Gt} {l : Launch} {v0 : Nat} (h0 : kd v0 = 4) {v1 : Nat} (h1 : kd v1 = 2) {σ : St} {σ' : St} (hf : pf_X4_readSeed v0 v1 σ = some σ') : Ct G l yX4_readSeed cX4_readSeed 2 none 4 [.ref (gz G + (v0)), .ref (gz G + (v1))] σ none σ' := by
  refine met_v (by decide +kernel) (Nat.le_of_ble_eq_true rfl) rfl ?_
  intro p e s m args below meth c Q ls X hW hret hl
  have hx := X.1.1
  have hb := X.1.2.1
  have hl : lv_has ls 2 [(0, .ref (gz G + (v0))), (1, .ref (gz G + (v1)))] := hl
  have h := hf
  clear hf
  unfold pf_X4_readSeed at h
  refine lv_aload_n hx hb dX4_readSeed_0 rfl (lv_at hl 0 rfl) ?_
  refine gf_X4_tokens X hW h0 m_2_7 dX4_readSeed_1 ?_
  obtain ⟨σ_1, hcl, h⟩ := bind_el h
  refine call_V0 X hW (kC_X6 (kf_X4_tokens h0)) m_4_62 m_4_63 m_4_64 mv_X6_skip (c_X6_skip (kf_X4_tokens h0) hcl) (by decide) rfl rfl (Nat.le_of_ble_eq_true rfl) hl.1 dX4_readSeed_4 ?_
  clear hW hcl; intro H locs hW
  refine lv_aload_n hx hb dX4_readSeed_7 rfl (lv_at hl 1 rfl) ?_
  refine lv_aload_n hx hb dX4_readSeed_8 rfl (lv_at hl 0 rfl) ?_
  refine gf_X4_tokens X hW h0 m_2_7 dX4_readSeed_9 ?_
  refine lv_iconst (v := 0) hx hb dX4_readSeed_12 (by decide) ?_
  refine lv_sipush (v := 9999) hx hb dX4_readSeed_13 (by decide) ?_
  obtain ⟨r_2, σ_2, hcl, h⟩ := bnd2_el h
  refine call_V1 X hW (kC_X6 (kf_X4_tokens h0)) m_4_68 m_4_69 m_4_70 mv_X6_number (c_X6_number (kf_X4_tokens h0) hcl) (by decide) rfl rfl (Nat.le_of_ble_eq_true rfl) hl.1 dX4_readSeed_16 ?_
  clear hW hcl; intro H locs hW
  refine sf_X2_seed X hW h1 m_1_141 dX4_readSeed_19 ?_
  clear hW; intro H locs hW
  refine nm_s hW h ?_
  clear hW h; intro σ_3 hW h
  refine lv_aload_n hx hb dX4_readSeed_22 rfl (lv_at hl 0 rfl) ?_
  refine gf_X4_tokens X hW h0 m_2_7 dX4_readSeed_23 ?_
  refine r_gtok (k := 24) X hW (by decide) m_4_49 dX4_readSeed_26 ?_
  obtain ⟨σ_4, hcl, h⟩ := bind_el h
  refine call_V0 X hW (kC_X6 (kf_X4_tokens h0)) m_4_31 m_4_32 m_4_33 mv_X6_expect (c_X6_expect (kf_X4_tokens h0) hcl) (by decide) rfl rfl (Nat.le_of_ble_eq_true rfl) hl.1 dX4_readSeed_29 ?_
  clear hW hcl; intro H locs hW
  refine lv_aload_n hx hb dX4_readSeed_32 rfl (lv_at hl 0 rfl) ?_
  refine lv_iconst (v := 1) hx hb dX4_readSeed_33 (by decide) ?_
  refine sf_X4_seedTold X hW (by decide) h0 m_2_11 dX4_readSeed_34 ?_
  clear hW; intro H locs hW
  refine nm_s hW h ?_
  clear hW h; intro σ_5 hW h
  exact rv_end hret h dX4_readSeed_37 hW
set_option maxRecDepth 20000 in
set_option maxHeartbeats 4000000 in
theorem bl_X4_readAhead_b72 (X : Cx G p R s m args c cells slots cX4_readAhead 6 RX4 4) {σ' : St} (hret : R_V G p l e R s m args below meth c cells slots Q cX4_readAhead σ') {k2 : Nat → Nat → Int32 → Int32 → St → (Option St)}
    (hk2 : ∀ (v0 : Nat) (h0 : kd v0 = 4) (v1 : Nat) (h1 : kd v1 = 11) (v2 : Int32) (v3 : Int32) (σ : St) (_ : k2 v0 v1 v2 v3 σ = some σ') (H : Heap) (locs : List Loc) (ls : Array Slot) (_ : GW G σ s H locs) (_ : lv_has ls 6 [(0, .ref (gz G + (v0))), (1, .ref (gz G + (v1))), (2, .int (v2)), (3, .int (v3))]), W p l e R s m args below meth c H locs cells slots Q (F0 m 2 ls [])) :
    ∀ (v0 : Nat) (h0 : kd v0 = 4) (v1 : Nat) (h1 : kd v1 = 11) (v2 : Int32) (v3 : Int32) (v5 : Int32) (σ : St) (_ : pf_X4_readAhead_b72 k2 v0 v1 v2 v3 v5 σ = some σ') (H : Heap) (locs : List Loc) (ls : Array Slot) (_ : GW G σ s H locs) (_ : lv_has ls 6 [(0, .ref (gz G + (v0))), (1, .ref (gz G + (v1))), (2, .int (v2)), (3, .int (v3)), (5, .int (v5))]), W p l e R s m args below meth c H locs cells slots Q (F0 m 72 ls []) := by
  have hx := X.1.1
  have hb := X.1.2.1
  intro v0 h0 v1 h1 v2 v3 v5 σ h H locs ls hW hl
  unfold pf_X4_readAhead_b72 at h
  refine lv_aload_n hx hb dX4_readAhead_72 rfl (lv_at hl 1 rfl) ?_
  refine lv_iload_n hx hb dX4_readAhead_73 rfl (lv_at hl 2 rfl) ?_
  refine lv_aload_n hx hb dX4_readAhead_74 rfl (lv_at hl 1 rfl) ?_
  refine lv_iload_n hx hb dX4_readAhead_75 rfl (lv_at hl 2 rfl) ?_
  obtain ⟨r_1, hcl, h⟩ := bind_el h
  refine call_SN1 X hW m_4_173 m_2_132 mv_X10_at (c_X10_at h1 hcl) (by decide) rfl rfl (Nat.le_of_ble_eq_true rfl) hl.1 dX4_readAhead_76 ?_
  clear hW hcl; intro H locs hW
  refine lv_iconst (v := 1) hx hb dX4_readAhead_79 (by decide) ?_
  refine lv_iload hx hb dX4_readAhead_80 (lv_at hl 4 rfl) ?_
  refine w_ishl hx hb dX4_readAhead_82 ?_
  refine lv_ior hx hb dX4_readAhead_83 ?_
  obtain ⟨σ_2, hcl, h⟩ := bind_el h
  refine call_SN0 X hW m_4_73 m_2_98 mv_X10_put (c_X10_put h1 hcl) (by decide) rfl rfl (Nat.le_of_ble_eq_true rfl) hl.1 dX4_readAhead_84 ?_
  clear hW hcl; intro H locs hW
  refine w_iinc (v := 1) (lv' := fun y => [(3, .int (y)), (0, .ref (gz G + (v0))), (1, .ref (gz G + (v1))), (2, .int (v2)), (5, .int (v5))]) hx hb dX4_readAhead_87 hl (k := 3) rfl (by decide) (by decide) (fun _ => rfl) h ?_
  clear h hl; intro v3_3 h ls hl
  refine lv_goto (tgt := 2) hx hb dX4_readAhead_90 (by decide) ?_
  exact hk2 v0 h0 v1 h1 v2 v3_3 σ_2 h _ _ _ hW (lv_sub hl [1, 2, 3, 0] rfl)
set_option maxRecDepth 20000 in
set_option maxHeartbeats 4000000 in
theorem bl_X4_readAhead_b26 (X : Cx G p R s m args c cells slots cX4_readAhead 6 RX4 4) {σ' : St} (hret : R_V G p l e R s m args below meth c cells slots Q cX4_readAhead σ') {k2 : Nat → Nat → Int32 → Int32 → St → (Option St)}
    (hk2 : ∀ (v0 : Nat) (h0 : kd v0 = 4) (v1 : Nat) (h1 : kd v1 = 11) (v2 : Int32) (v3 : Int32) (σ : St) (_ : k2 v0 v1 v2 v3 σ = some σ') (H : Heap) (locs : List Loc) (ls : Array Slot) (_ : GW G σ s H locs) (_ : lv_has ls 6 [(0, .ref (gz G + (v0))), (1, .ref (gz G + (v1))), (2, .int (v2)), (3, .int (v3))]), W p l e R s m args below meth c H locs cells slots Q (F0 m 2 ls [])) :
    ∀ (v0 : Nat) (h0 : kd v0 = 4) (v1 : Nat) (h1 : kd v1 = 11) (v2 : Int32) (v3 : Int32) (σ : St) (_ : pf_X4_readAhead_b26 k2 v0 v1 v2 v3 σ = some σ') (H : Heap) (locs : List Loc) (ls : Array Slot) (_ : GW G σ s H locs) (_ : lv_has ls 6 [(0, .ref (gz G + (v0))), (1, .ref (gz G + (v1))), (2, .int (v2)), (3, .int (v3))]), W p l e R s m args below meth c H locs cells slots Q (F0 m 26 ls []) := by
  have hx := X.1.1
  have hb := X.1.2.1
  intro v0 h0 v1 h1 v2 v3 σ h H locs ls hW hl
  unfold pf_X4_readAhead_b26 at h
  refine lv_aload_n hx hb dX4_readAhead_26 rfl (lv_at hl 0 rfl) ?_
  refine gf_X4_tokens X hW h0 m_2_7 dX4_readAhead_27 ?_
  obtain ⟨r_1, hcl, h⟩ := bind_el h
  refine call_V1 X hW (kC_X6 (kf_X4_tokens h0)) m_4_67 m_4_42 m_4_43 mv_X6_start (c_X6_start (kf_X4_tokens h0) hcl) (by decide) rfl rfl (Nat.le_of_ble_eq_true rfl) hl.1 dX4_readAhead_30 ?_
  clear hW hcl; intro H locs hW
  refine lv_istore (lv' := [(4, .int (r_1)), (0, .ref (gz G + (v0))), (1, .ref (gz G + (v1))), (2, .int (v2)), (3, .int (v3))]) hx hb dX4_readAhead_33 hl (by decide) rfl ?_
  clear hl; intro ls hl
  refine lv_aload_n hx hb dX4_readAhead_35 rfl (lv_at hl 1 rfl) ?_
  refine gf_X4_tokens X hW h0 m_2_7 dX4_readAhead_36 ?_
  refine lv_iconst (v := 0) hx hb dX4_readAhead_39 (by decide) ?_
  refine lv_iload_n hx hb dX4_readAhead_40 rfl (lv_at hl 3 rfl) ?_
  refine lv_iconst (v := 1) hx hb dX4_readAhead_41 (by decide) ?_
  refine lv_isub hx hb dX4_readAhead_42 ?_
  obtain ⟨r_2, σ_2, hcl, h⟩ := bnd2_el h
  refine call_V1 X hW (kC_X6 (kf_X4_tokens h0)) m_4_68 m_4_69 m_4_70 mv_X6_number (c_X6_number (kf_X4_tokens h0) hcl) (by decide) rfl rfl (Nat.le_of_ble_eq_true rfl) hl.1 dX4_readAhead_43 ?_
  clear hW hcl; intro H locs hW
  refine lv_istore (lv' := [(5, .int (r_2)), (4, .int (r_1)), (0, .ref (gz G + (v0))), (1, .ref (gz G + (v1))), (2, .int (v2)), (3, .int (v3))]) hx hb dX4_readAhead_46 hl (by decide) rfl ?_
  clear hl; intro ls hl
  refine lv_aload_n hx hb dX4_readAhead_48 rfl (lv_at hl 3 rfl) ?_
  refine lv_iload_n hx hb dX4_readAhead_49 rfl (lv_at hl 4 rfl) ?_
  obtain ⟨r_3, hcl, h⟩ := bind_el h
  refine call_SN1 X hW m_4_173 m_2_132 mv_X10_at (c_X10_at h1 hcl) (by decide) rfl rfl (Nat.le_of_ble_eq_true rfl) hl.1 dX4_readAhead_50 ?_
  clear hW hcl; intro H locs hW
  refine lv_iload hx hb dX4_readAhead_53 (lv_at hl 0 rfl) ?_
  refine w_iushr hx hb dX4_readAhead_55 ?_
  refine lv_iconst (v := 1) hx hb dX4_readAhead_56 (by decide) ?_
  refine lv_iand hx hb dX4_readAhead_57 ?_
  refine lv_if_eq (tgt := 72) hx hb dX4_readAhead_58 (by decide) (fun hc => ?_) (fun hc => ?_)
  · replace h := if_t hc h
    exact bl_X4_readAhead_b72 X hret hk2 v0 h0 v1 h1 v2 v3 r_2 σ_2 h _ _ _ hW (lv_sub hl [2, 3, 4, 5, 0] rfl)
  · replace h := if_f hc h
    refine lv_aload_n hx hb dX4_readAhead_61 rfl (lv_at hl 2 rfl) ?_
    refine gf_X4_tokens X hW h0 m_2_7 dX4_readAhead_62 ?_
    refine lv_bipush (v := (-4)) hx hb dX4_readAhead_65 (by decide) ?_
    refine lv_iload hx hb dX4_readAhead_67 (lv_at hl 1 rfl) ?_
    obtain ⟨σ_4, hcl, h⟩ := bind_el h
    refine call_V0 X hW (kC_X6 (kf_X4_tokens h0)) m_4_72 m_4_46 m_4_47 mv_X6_fail (c_X6_fail (kf_X4_tokens h0) hcl) (by decide) rfl rfl (Nat.le_of_ble_eq_true rfl) hl.1 dX4_readAhead_69 ?_
    clear hW hcl; intro H locs hW
    exact bl_X4_readAhead_b72 X hret hk2 v0 h0 v1 h1 v2 v3 r_2 σ_4 h _ _ _ hW (lv_sub hl [2, 3, 4, 5, 0] rfl)
set_option maxRecDepth 20000 in
set_option maxHeartbeats 4000000 in
theorem bl_X4_readAhead_L2 (X : Cx G p R s m args c cells slots cX4_readAhead 6 RX4 4) {σ' : St} (hret : R_V G p l e R s m args below meth c cells slots Q cX4_readAhead σ') :
    ∀ (n : Nat), ∀ (v0 : Nat) (h0 : kd v0 = 4) (v1 : Nat) (h1 : kd v1 = 11) (v2 : Int32) (v3 : Int32) (σ : St) (_ : pf_X4_readAhead_L2 n v0 v1 v2 v3 σ = some σ') (H : Heap) (locs : List Loc) (ls : Array Slot) (_ : GW G σ s H locs) (_ : lv_has ls 6 [(0, .ref (gz G + (v0))), (1, .ref (gz G + (v1))), (2, .int (v2)), (3, .int (v3))]), W p l e R s m args below meth c H locs cells slots Q (F0 m 2 ls []) := by
  have hx := X.1.1
  have hb := X.1.2.1
  intro n
  induction n with
  | zero => intro v0 h0 v1 h1 v2 v3 σ h H locs ls hW hl; cases h
  | succ n ih =>
    intro v0 h0 v1 h1 v2 v3 σ h H locs ls hW hl
    rw [pf_X4_readAhead_L2.eq_2] at h
    refine lv_iload_n hx hb dX4_readAhead_2 rfl (lv_at hl 3 rfl) ?_
    refine lv_sipush (v := 800) hx hb dX4_readAhead_3 (by decide) ?_
    refine lv_icmp_ge (tgt := 93) hx hb dX4_readAhead_6 (by decide) (fun hc => ?_) (fun hc => ?_)
    · replace h := if_t hc h
      exact rv_end hret h dX4_readAhead_93 hW
    · replace h := if_f hc h
      refine lv_iload_n hx hb dX4_readAhead_9 rfl (lv_at hl 3 rfl) ?_
      refine lv_if_eq (tgt := 26) hx hb dX4_readAhead_10 (by decide) (fun hc => ?_) (fun hc => ?_)
      · replace h := if_t hc h
        exact bl_X4_readAhead_b26 X hret ih v0 h0 v1 h1 v2 v3 σ h _ _ _ hW (lv_sub hl [0, 1, 2, 3] rfl)
      · replace h := if_f hc h
        refine lv_aload_n hx hb dX4_readAhead_13 rfl (lv_at hl 0 rfl) ?_
        refine gf_X4_tokens X hW h0 m_2_7 dX4_readAhead_14 ?_
        obtain ⟨r_1, hcl, h⟩ := bind_el h
        refine call_V1 X hW (kC_X6 (kf_X4_tokens h0)) m_4_55 m_4_36 m_4_37 mv_X6_ahead (c_X6_ahead (kf_X4_tokens h0) hcl) (by decide) rfl rfl (Nat.le_of_ble_eq_true rfl) hl.1 dX4_readAhead_17 ?_
        clear hW hcl; intro H locs hW
        refine r_gtok (k := 0) X hW (by decide) m_4_66 dX4_readAhead_20 ?_
        refine r_acmp_ne (a := r_1) (b := some 0) (tgt := 93) X hx hb dX4_readAhead_23 (by decide) (fun hc => ?_) (fun hc => ?_)
        · replace h := if_f hc h
          exact rv_end hret h dX4_readAhead_93 hW
        · replace h := if_t hc h
          exact bl_X4_readAhead_b26 X hret ih v0 h0 v1 h1 v2 v3 σ h _ _ _ hW (lv_sub hl [0, 1, 2, 3] rfl)
set_option maxRecDepth 20000 in
set_option maxHeartbeats 4000000 in
theorem c_X4_readAhead {G : Gt} {l : Launch} {v0 : Nat} (h0 : kd v0 = 4) {v1 : Nat} (h1 : kd v1 = 11) {v2 : Int32} {σ : St} {σ' : St} (hf : pf_X4_readAhead v0 v1 v2 σ = some σ') : Ct G l yX4_readAhead cX4_readAhead 6 none 4 [.ref (gz G + (v0)), .ref (gz G + (v1)), .int (v2)] σ none σ' := by
  refine met_v (by decide +kernel) (Nat.le_of_ble_eq_true rfl) rfl ?_
  intro p e s m args below meth c Q ls X hW hret hl
  have hx := X.1.1
  have hb := X.1.2.1
  have hl : lv_has ls 6 [(0, .ref (gz G + (v0))), (1, .ref (gz G + (v1))), (2, .int (v2))] := hl
  have h := hf
  clear hf
  unfold pf_X4_readAhead at h
  refine lv_iconst (v := 0) hx hb dX4_readAhead_0 (by decide) ?_
  refine lv_istore_n (lv' := [(3, .int (0)), (0, .ref (gz G + (v0))), (1, .ref (gz G + (v1))), (2, .int (v2))]) hx hb dX4_readAhead_1 rfl hl (by decide) rfl ?_
  clear hl; intro ls hl
  exact bl_X4_readAhead_L2 X hret FU v0 h0 v1 h1 v2 0 σ h _ _ _ hW (lv_sub hl [1, 2, 3, 0] rfl)
set_option maxRecDepth 20000 in
set_option maxHeartbeats 4000000 in
theorem bl_X4_readAmounts_b72 (X : Cx G p R s m args c cells slots cX4_readAmounts 6 RX4 4) {σ' : St} (hret : R_V G p l e R s m args below meth c cells slots Q cX4_readAmounts σ') {k2 : Nat → Nat → Int32 → Int32 → St → (Option St)}
    (hk2 : ∀ (v0 : Nat) (h0 : kd v0 = 4) (v1 : Nat) (h1 : kd v1 = 11) (v2 : Int32) (v3 : Int32) (σ : St) (_ : k2 v0 v1 v2 v3 σ = some σ') (H : Heap) (locs : List Loc) (ls : Array Slot) (_ : GW G σ s H locs) (_ : lv_has ls 6 [(0, .ref (gz G + (v0))), (1, .ref (gz G + (v1))), (2, .int (v2)), (3, .int (v3))]), W p l e R s m args below meth c H locs cells slots Q (F0 m 2 ls [])) :
    ∀ (v0 : Nat) (h0 : kd v0 = 4) (v1 : Nat) (h1 : kd v1 = 11) (v2 : Int32) (v3 : Int32) (v5 : Int32) (σ : St) (_ : pf_X4_readAmounts_b72 k2 v0 v1 v2 v3 v5 σ = some σ') (H : Heap) (locs : List Loc) (ls : Array Slot) (_ : GW G σ s H locs) (_ : lv_has ls 6 [(0, .ref (gz G + (v0))), (1, .ref (gz G + (v1))), (2, .int (v2)), (3, .int (v3)), (5, .int (v5))]), W p l e R s m args below meth c H locs cells slots Q (F0 m 72 ls []) := by
  have hx := X.1.1
  have hb := X.1.2.1
  intro v0 h0 v1 h1 v2 v3 v5 σ h H locs ls hW hl
  unfold pf_X4_readAmounts_b72 at h
  refine lv_aload_n hx hb dX4_readAmounts_72 rfl (lv_at hl 1 rfl) ?_
  refine lv_iload hx hb dX4_readAmounts_73 (lv_at hl 4 rfl) ?_
  refine lv_aload_n hx hb dX4_readAmounts_75 rfl (lv_at hl 0 rfl) ?_
  refine gf_X4_tokens X hW h0 m_2_7 dX4_readAmounts_76 ?_
  refine lv_iconst (v := 1) hx hb dX4_readAmounts_79 (by decide) ?_
  refine lv_bipush (v := 99) hx hb dX4_readAmounts_80 (by decide) ?_
  obtain ⟨r_1, σ_1, hcl, h⟩ := bnd2_el h
  refine call_V1 X hW (kC_X6 (kf_X4_tokens h0)) m_4_68 m_4_69 m_4_70 mv_X6_number (c_X6_number (kf_X4_tokens h0) hcl) (by decide) rfl rfl (Nat.le_of_ble_eq_true rfl) hl.1 dX4_readAmounts_82 ?_
  clear hW hcl; intro H locs hW
  obtain ⟨σ_2, hcl, h⟩ := bind_el h
  refine call_SN0 X hW m_4_73 m_2_98 mv_X10_put (c_X10_put h1 hcl) (by decide) rfl rfl (Nat.le_of_ble_eq_true rfl) hl.1 dX4_readAmounts_85 ?_
  clear hW hcl; intro H locs hW
  refine w_iinc (v := 1) (lv' := fun y => [(3, .int (y)), (0, .ref (gz G + (v0))), (1, .ref (gz G + (v1))), (2, .int (v2)), (5, .int (v5))]) hx hb dX4_readAmounts_88 hl (k := 3) rfl (by decide) (by decide) (fun _ => rfl) h ?_
  clear h hl; intro v3_3 h ls hl
  refine lv_goto (tgt := 2) hx hb dX4_readAmounts_91 (by decide) ?_
  exact hk2 v0 h0 v1 h1 v2 v3_3 σ_2 h _ _ _ hW (lv_sub hl [1, 2, 3, 0] rfl)
set_option maxRecDepth 20000 in
set_option maxHeartbeats 4000000 in
theorem bl_X4_readAmounts_b26 (X : Cx G p R s m args c cells slots cX4_readAmounts 6 RX4 4) {σ' : St} (hret : R_V G p l e R s m args below meth c cells slots Q cX4_readAmounts σ') {k2 : Nat → Nat → Int32 → Int32 → St → (Option St)}
    (hk2 : ∀ (v0 : Nat) (h0 : kd v0 = 4) (v1 : Nat) (h1 : kd v1 = 11) (v2 : Int32) (v3 : Int32) (σ : St) (_ : k2 v0 v1 v2 v3 σ = some σ') (H : Heap) (locs : List Loc) (ls : Array Slot) (_ : GW G σ s H locs) (_ : lv_has ls 6 [(0, .ref (gz G + (v0))), (1, .ref (gz G + (v1))), (2, .int (v2)), (3, .int (v3))]), W p l e R s m args below meth c H locs cells slots Q (F0 m 2 ls [])) :
    ∀ (v0 : Nat) (h0 : kd v0 = 4) (v1 : Nat) (h1 : kd v1 = 11) (v2 : Int32) (v3 : Int32) (σ : St) (_ : pf_X4_readAmounts_b26 k2 v0 v1 v2 v3 σ = some σ') (H : Heap) (locs : List Loc) (ls : Array Slot) (_ : GW G σ s H locs) (_ : lv_has ls 6 [(0, .ref (gz G + (v0))), (1, .ref (gz G + (v1))), (2, .int (v2)), (3, .int (v3))]), W p l e R s m args below meth c H locs cells slots Q (F0 m 26 ls []) := by
  have hx := X.1.1
  have hb := X.1.2.1
  intro v0 h0 v1 h1 v2 v3 σ h H locs ls hW hl
  unfold pf_X4_readAmounts_b26 at h
  refine lv_aload_n hx hb dX4_readAmounts_26 rfl (lv_at hl 0 rfl) ?_
  refine gf_X4_tokens X hW h0 m_2_7 dX4_readAmounts_27 ?_
  obtain ⟨r_1, hcl, h⟩ := bind_el h
  refine call_V1 X hW (kC_X6 (kf_X4_tokens h0)) m_4_67 m_4_42 m_4_43 mv_X6_start (c_X6_start (kf_X4_tokens h0) hcl) (by decide) rfl rfl (Nat.le_of_ble_eq_true rfl) hl.1 dX4_readAmounts_30 ?_
  clear hW hcl; intro H locs hW
  refine lv_istore (lv' := [(4, .int (r_1)), (0, .ref (gz G + (v0))), (1, .ref (gz G + (v1))), (2, .int (v2)), (3, .int (v3))]) hx hb dX4_readAmounts_33 hl (by decide) rfl ?_
  clear hl; intro ls hl
  refine lv_iload_n hx hb dX4_readAmounts_35 rfl (lv_at hl 3 rfl) ?_
  refine lv_bipush (v := 8) hx hb dX4_readAmounts_36 (by decide) ?_
  refine lv_imul hx hb dX4_readAmounts_38 ?_
  refine lv_aload_n hx hb dX4_readAmounts_39 rfl (lv_at hl 1 rfl) ?_
  refine gf_X4_tokens X hW h0 m_2_7 dX4_readAmounts_40 ?_
  refine lv_iconst (v := 0) hx hb dX4_readAmounts_43 (by decide) ?_
  refine lv_bipush (v := 7) hx hb dX4_readAmounts_44 (by decide) ?_
  obtain ⟨r_2, σ_2, hcl, h⟩ := bnd2_el h
  refine call_V1 X hW (kC_X6 (kf_X4_tokens h0)) m_4_68 m_4_69 m_4_70 mv_X6_number (c_X6_number (kf_X4_tokens h0) hcl) (by decide) rfl rfl (Nat.le_of_ble_eq_true rfl) hl.1 dX4_readAmounts_46 ?_
  clear hW hcl; intro H locs hW
  refine lv_iadd hx hb dX4_readAmounts_49 ?_
  refine nm_i h ?_
  clear h; intro v5_3 h
  refine lv_istore (lv' := [(5, .int (v5_3)), (4, .int (r_1)), (0, .ref (gz G + (v0))), (1, .ref (gz G + (v1))), (2, .int (v2)), (3, .int (v3))]) hx hb dX4_readAmounts_50 hl (by decide) rfl ?_
  clear hl; intro ls hl
  refine lv_aload_n hx hb dX4_readAmounts_52 rfl (lv_at hl 3 rfl) ?_
  refine lv_iload hx hb dX4_readAmounts_53 (lv_at hl 0 rfl) ?_
  obtain ⟨r_4, hcl, h⟩ := bind_el h
  refine call_SN1 X hW m_4_173 m_2_132 mv_X10_at (c_X10_at h1 hcl) (by decide) rfl rfl (Nat.le_of_ble_eq_true rfl) hl.1 dX4_readAmounts_55 ?_
  clear hW hcl; intro H locs hW
  refine lv_if_le (tgt := 72) hx hb dX4_readAmounts_58 (by decide) (fun hc => ?_) (fun hc => ?_)
  · replace h := if_t hc h
    exact bl_X4_readAmounts_b72 X hret hk2 v0 h0 v1 h1 v2 v3 v5_3 σ_2 h _ _ _ hW (lv_sub hl [2, 3, 4, 5, 0] rfl)
  · replace h := if_f hc h
    refine lv_aload_n hx hb dX4_readAmounts_61 rfl (lv_at hl 2 rfl) ?_
    refine gf_X4_tokens X hW h0 m_2_7 dX4_readAmounts_62 ?_
    refine lv_bipush (v := (-4)) hx hb dX4_readAmounts_65 (by decide) ?_
    refine lv_iload hx hb dX4_readAmounts_67 (lv_at hl 1 rfl) ?_
    obtain ⟨σ_5, hcl, h⟩ := bind_el h
    refine call_V0 X hW (kC_X6 (kf_X4_tokens h0)) m_4_72 m_4_46 m_4_47 mv_X6_fail (c_X6_fail (kf_X4_tokens h0) hcl) (by decide) rfl rfl (Nat.le_of_ble_eq_true rfl) hl.1 dX4_readAmounts_69 ?_
    clear hW hcl; intro H locs hW
    exact bl_X4_readAmounts_b72 X hret hk2 v0 h0 v1 h1 v2 v3 v5_3 σ_5 h _ _ _ hW (lv_sub hl [2, 3, 4, 5, 0] rfl)
set_option maxRecDepth 20000 in
set_option maxHeartbeats 4000000 in
theorem bl_X4_readAmounts_L2 (X : Cx G p R s m args c cells slots cX4_readAmounts 6 RX4 4) {σ' : St} (hret : R_V G p l e R s m args below meth c cells slots Q cX4_readAmounts σ') :
    ∀ (n : Nat), ∀ (v0 : Nat) (h0 : kd v0 = 4) (v1 : Nat) (h1 : kd v1 = 11) (v2 : Int32) (v3 : Int32) (σ : St) (_ : pf_X4_readAmounts_L2 n v0 v1 v2 v3 σ = some σ') (H : Heap) (locs : List Loc) (ls : Array Slot) (_ : GW G σ s H locs) (_ : lv_has ls 6 [(0, .ref (gz G + (v0))), (1, .ref (gz G + (v1))), (2, .int (v2)), (3, .int (v3))]), W p l e R s m args below meth c H locs cells slots Q (F0 m 2 ls []) := by
  have hx := X.1.1
  have hb := X.1.2.1
  intro n
  induction n with
  | zero => intro v0 h0 v1 h1 v2 v3 σ h H locs ls hW hl; cases h
  | succ n ih =>
    intro v0 h0 v1 h1 v2 v3 σ h H locs ls hW hl
    rw [pf_X4_readAmounts_L2.eq_2] at h
    refine lv_iload_n hx hb dX4_readAmounts_2 rfl (lv_at hl 3 rfl) ?_
    refine lv_sipush (v := 800) hx hb dX4_readAmounts_3 (by decide) ?_
    refine lv_icmp_ge (tgt := 94) hx hb dX4_readAmounts_6 (by decide) (fun hc => ?_) (fun hc => ?_)
    · replace h := if_t hc h
      exact rv_end hret h dX4_readAmounts_94 hW
    · replace h := if_f hc h
      refine lv_iload_n hx hb dX4_readAmounts_9 rfl (lv_at hl 3 rfl) ?_
      refine lv_if_eq (tgt := 26) hx hb dX4_readAmounts_10 (by decide) (fun hc => ?_) (fun hc => ?_)
      · replace h := if_t hc h
        exact bl_X4_readAmounts_b26 X hret ih v0 h0 v1 h1 v2 v3 σ h _ _ _ hW (lv_sub hl [0, 1, 2, 3] rfl)
      · replace h := if_f hc h
        refine lv_aload_n hx hb dX4_readAmounts_13 rfl (lv_at hl 0 rfl) ?_
        refine gf_X4_tokens X hW h0 m_2_7 dX4_readAmounts_14 ?_
        obtain ⟨r_1, hcl, h⟩ := bind_el h
        refine call_V1 X hW (kC_X6 (kf_X4_tokens h0)) m_4_55 m_4_36 m_4_37 mv_X6_ahead (c_X6_ahead (kf_X4_tokens h0) hcl) (by decide) rfl rfl (Nat.le_of_ble_eq_true rfl) hl.1 dX4_readAmounts_17 ?_
        clear hW hcl; intro H locs hW
        refine r_gtok (k := 0) X hW (by decide) m_4_66 dX4_readAmounts_20 ?_
        refine r_acmp_ne (a := r_1) (b := some 0) (tgt := 94) X hx hb dX4_readAmounts_23 (by decide) (fun hc => ?_) (fun hc => ?_)
        · replace h := if_f hc h
          exact rv_end hret h dX4_readAmounts_94 hW
        · replace h := if_t hc h
          exact bl_X4_readAmounts_b26 X hret ih v0 h0 v1 h1 v2 v3 σ h _ _ _ hW (lv_sub hl [0, 1, 2, 3] rfl)
set_option maxRecDepth 20000 in
set_option maxHeartbeats 4000000 in
theorem c_X4_readAmounts {G : Gt} {l : Launch} {v0 : Nat} (h0 : kd v0 = 4) {v1 : Nat} (h1 : kd v1 = 11) {v2 : Int32} {σ : St} {σ' : St} (hf : pf_X4_readAmounts v0 v1 v2 σ = some σ') : Ct G l yX4_readAmounts cX4_readAmounts 6 none 4 [.ref (gz G + (v0)), .ref (gz G + (v1)), .int (v2)] σ none σ' := by
  refine met_v (by decide +kernel) (Nat.le_of_ble_eq_true rfl) rfl ?_
  intro p e s m args below meth c Q ls X hW hret hl
  have hx := X.1.1
  have hb := X.1.2.1
  have hl : lv_has ls 6 [(0, .ref (gz G + (v0))), (1, .ref (gz G + (v1))), (2, .int (v2))] := hl
  have h := hf
  clear hf
  unfold pf_X4_readAmounts at h
  refine lv_iconst (v := 0) hx hb dX4_readAmounts_0 (by decide) ?_
  refine lv_istore_n (lv' := [(3, .int (0)), (0, .ref (gz G + (v0))), (1, .ref (gz G + (v1))), (2, .int (v2))]) hx hb dX4_readAmounts_1 rfl hl (by decide) rfl ?_
  clear hl; intro ls hl
  exact bl_X4_readAmounts_L2 X hret FU v0 h0 v1 h1 v2 0 σ h _ _ _ hW (lv_sub hl [1, 2, 3, 0] rfl)
set_option maxRecDepth 20000 in
set_option maxHeartbeats 4000000 in
theorem c_X6_take {G : Gt} {l : Launch} {v0 : Nat} (h0 : kd v0 = 5) {v1 : Option Nat} {σ : St} {r : Int32} {σ' : St} (hf : pf_X6_take v0 v1 σ = some (r, σ')) : Ct G l yX6_take cX6_take 2 (some .boolean) 3 [.ref (gz G + (v0)), va_re (gad G) (v1)] σ (some (.int r)) σ' := by
  refine met_z (by decide +kernel) (by cases v1 <;> exact Nat.le_of_ble_eq_true rfl) rfl ?_
  intro p e s m args below meth c Q ls X hW hret hl
  have hx := X.1.1
  have hb := X.1.2.1
  have hl : lv_has ls 2 [(0, .ref (gz G + (v0))), (1, va_re (gad G) (v1))] := hl
  have h := hf
  clear hf
  unfold pf_X6_take at h
  refine lv_aload_n hx hb dX6_take_0 rfl (lv_at hl 0 rfl) ?_
  obtain ⟨r_1, hcl, h⟩ := bind_el h
  refine call_V1 X hW (kC_X6 h0) m_4_35 m_4_36 m_4_37 mv_X6_ahead (c_X6_ahead h0 hcl) (by decide) rfl rfl (Nat.le_of_ble_eq_true rfl) hl.1 dX6_take_1 ?_
  clear hW hcl; intro H locs hW
  refine lv_aload_nT hx hb dX6_take_4 rfl (lv_at hl 1 rfl) ?_
  refine r_acmp_eq (a := r_1) (b := v1) (tgt := 10) X hx hb dX6_take_5 (by decide) (fun hc => ?_) (fun hc => ?_)
  · replace h := if_t hc h
    refine lv_aload_n hx hb dX6_take_10 rfl (lv_at hl 0 rfl) ?_
    refine lv_dup hx hb dX6_take_11 rfl ?_
    refine gf_X6_place X hW h0 m_1_209 dX6_take_12 ?_
    refine lv_iconst (v := 1) hx hb dX6_take_15 (by decide) ?_
    refine lv_iadd hx hb dX6_take_16 ?_
    refine sf_X6_place X hW h0 m_1_209 dX6_take_17 ?_
    clear hW; intro H locs hW
    refine nm_s hW h ?_
    clear hW h; intro σ_2 hW h
    refine lv_iconst (v := 1) hx hb dX6_take_20 (by decide) ?_
    exact rz_end hret h (by decide) dX6_take_21 hW
  · replace h := if_f hc h
    refine lv_iconst (v := 0) hx hb dX6_take_8 (by decide) ?_
    exact rz_end hret h (by decide) dX6_take_9 hW
set_option maxRecDepth 20000 in
set_option maxHeartbeats 4000000 in
theorem bl_X4_readPart_b140 (X : Cx G p R s m args c cells slots cX4_readPart 4 RX4 5) {σ' : St} (hret : R_V G p l e R s m args below meth c cells slots Q cX4_readPart σ') :
    ∀ (v1 : Nat) (h1 : kd v1 = 3) (v2 : Int32) (σ : St) (_ : pf_X4_readPart_b140 v1 v2 σ = some σ') (H : Heap) (locs : List Loc) (ls : Array Slot) (_ : GW G σ s H locs) (_ : lv_has ls 4 [(1, .ref (gz G + (v1))), (2, .int (v2))]), W p l e R s m args below meth c H locs cells slots Q (F0 m 140 ls []) := by
  have hx := X.1.1
  have hb := X.1.2.1
  intro v1 h1 v2 σ h H locs ls hW hl
  unfold pf_X4_readPart_b140 at h
  refine lv_aload_n hx hb dX4_readPart_140 rfl (lv_at hl 0 rfl) ?_
  refine gf_X3_costly X hW h1 m_1_90 dX4_readPart_141 ?_
  refine lv_iload_n hx hb dX4_readPart_144 rfl (lv_at hl 1 rfl) ?_
  refine lv_iconst (v := 1) hx hb dX4_readPart_145 (by decide) ?_
  obtain ⟨σ_1, hcl, h⟩ := bind_el h
  refine call_SN0 X hW m_4_73 m_2_98 mv_X10_put (c_X10_put (kf_X3_costly h1) hcl) (by decide) rfl rfl (Nat.le_of_ble_eq_true rfl) hl.1 dX4_readPart_146 ?_
  clear hW hcl; intro H locs hW
  exact rv_end hret h dX4_readPart_149 hW
set_option maxRecDepth 20000 in
set_option maxHeartbeats 4000000 in
theorem c_X4_readPart {G : Gt} {l : Launch} {v0 : Nat} (h0 : kd v0 = 4) {v1 : Nat} (h1 : kd v1 = 3) {v2 : Int32} {σ : St} {σ' : St} (hf : pf_X4_readPart v0 v1 v2 σ = some σ') : Ct G l yX4_readPart cX4_readPart 4 none 5 [.ref (gz G + (v0)), .ref (gz G + (v1)), .int (v2)] σ none σ' := by
  refine met_v (by decide +kernel) (Nat.le_of_ble_eq_true rfl) rfl ?_
  intro p e s m args below meth c Q ls X hW hret hl
  have hx := X.1.1
  have hb := X.1.2.1
  have hl : lv_has ls 4 [(0, .ref (gz G + (v0))), (1, .ref (gz G + (v1))), (2, .int (v2))] := hl
  have h := hf
  clear hf
  unfold pf_X4_readPart at h
  refine lv_aload_n hx hb dX4_readPart_0 rfl (lv_at hl 0 rfl) ?_
  refine gf_X4_tokens X hW h0 m_2_7 dX4_readPart_1 ?_
  obtain ⟨r_1, hcl, h⟩ := bind_el h
  refine call_V1 X hW (kC_X6 (kf_X4_tokens h0)) m_4_67 m_4_42 m_4_43 mv_X6_start (c_X6_start (kf_X4_tokens h0) hcl) (by decide) rfl rfl (Nat.le_of_ble_eq_true rfl) hl.1 dX4_readPart_4 ?_
  clear hW hcl; intro H locs hW
  refine lv_istore_n (lv' := [(3, .int (r_1)), (0, .ref (gz G + (v0))), (1, .ref (gz G + (v1))), (2, .int (v2))]) hx hb dX4_readPart_7 rfl hl (by decide) rfl ?_
  clear hl; intro ls hl
  refine lv_aload_n hx hb dX4_readPart_8 rfl (lv_at hl 1 rfl) ?_
  refine gf_X4_tokens X hW h0 m_2_7 dX4_readPart_9 ?_
  refine r_gtok (k := 11) X hW (by decide) m_4_164 dX4_readPart_12 ?_
  obtain ⟨r_2, σ_2, hcl, h⟩ := bnd2_el h
  refine call_V1 X hW (kC_X6 (kf_X4_tokens h0)) m_4_165 m_4_166 m_4_167 mv_X6_take (c_X6_take (kf_X4_tokens h0) hcl) (by decide) rfl rfl (Nat.le_of_ble_eq_true rfl) hl.1 dX4_readPart_15 ?_
  clear hW hcl; intro H locs hW
  refine lv_if_eq (tgt := 33) hx hb dX4_readPart_18 (by decide) (fun hc => ?_) (fun hc => ?_)
  · replace h := if_t hc h
    refine lv_aload_n hx hb dX4_readPart_33 rfl (lv_at hl 1 rfl) ?_
    refine gf_X4_tokens X hW h0 m_2_7 dX4_readPart_34 ?_
    refine r_gtok (k := 12) X hW (by decide) m_4_174 dX4_readPart_37 ?_
    obtain ⟨r_3, σ_3, hcl, h⟩ := bnd2_el h
    refine call_V1 X hW (kC_X6 (kf_X4_tokens h0)) m_4_165 m_4_166 m_4_167 mv_X6_take (c_X6_take (kf_X4_tokens h0) hcl) (by decide) rfl rfl (Nat.le_of_ble_eq_true rfl) hl.1 dX4_readPart_40 ?_
    clear hW hcl; intro H locs hW
    refine lv_if_eq (tgt := 58) hx hb dX4_readPart_43 (by decide) (fun hc => ?_) (fun hc => ?_)
    · replace h := if_t hc h
      refine lv_aload_n hx hb dX4_readPart_58 rfl (lv_at hl 1 rfl) ?_
      refine gf_X4_tokens X hW h0 m_2_7 dX4_readPart_59 ?_
      refine r_gtok (k := 13) X hW (by decide) m_4_175 dX4_readPart_62 ?_
      obtain ⟨r_4, σ_4, hcl, h⟩ := bnd2_el h
      refine call_V1 X hW (kC_X6 (kf_X4_tokens h0)) m_4_165 m_4_166 m_4_167 mv_X6_take (c_X6_take (kf_X4_tokens h0) hcl) (by decide) rfl rfl (Nat.le_of_ble_eq_true rfl) hl.1 dX4_readPart_65 ?_
      clear hW hcl; intro H locs hW
      refine lv_if_eq (tgt := 83) hx hb dX4_readPart_68 (by decide) (fun hc => ?_) (fun hc => ?_)
      · replace h := if_t hc h
        refine lv_aload_n hx hb dX4_readPart_83 rfl (lv_at hl 1 rfl) ?_
        refine gf_X4_tokens X hW h0 m_2_7 dX4_readPart_84 ?_
        refine r_gtok (k := 14) X hW (by decide) m_4_176 dX4_readPart_87 ?_
        obtain ⟨r_5, σ_5, hcl, h⟩ := bnd2_el h
        refine call_V1 X hW (kC_X6 (kf_X4_tokens h0)) m_4_165 m_4_166 m_4_167 mv_X6_take (c_X6_take (kf_X4_tokens h0) hcl) (by decide) rfl rfl (Nat.le_of_ble_eq_true rfl) hl.1 dX4_readPart_90 ?_
        clear hW hcl; intro H locs hW
        refine lv_if_eq (tgt := 108) hx hb dX4_readPart_93 (by decide) (fun hc => ?_) (fun hc => ?_)
        · replace h := if_t hc h
          refine lv_aload_n hx hb dX4_readPart_108 rfl (lv_at hl 1 rfl) ?_
          refine gf_X4_tokens X hW h0 m_2_7 dX4_readPart_109 ?_
          refine r_gtok (k := 15) X hW (by decide) m_4_181 dX4_readPart_112 ?_
          obtain ⟨σ_6, hcl, h⟩ := bind_el h
          refine call_V0 X hW (kC_X6 (kf_X4_tokens h0)) m_4_31 m_4_32 m_4_33 mv_X6_expect (c_X6_expect (kf_X4_tokens h0) hcl) (by decide) rfl rfl (Nat.le_of_ble_eq_true rfl) hl.1 dX4_readPart_115 ?_
          clear hW hcl; intro H locs hW
          refine lv_aload_n hx hb dX4_readPart_118 rfl (lv_at hl 2 rfl) ?_
          refine gf_X3_costly X hW h1 m_1_90 dX4_readPart_119 ?_
          refine lv_iload_n hx hb dX4_readPart_122 rfl (lv_at hl 3 rfl) ?_
          obtain ⟨r_7, hcl, h⟩ := bind_el h
          refine call_SN1 X hW m_4_173 m_2_132 mv_X10_at (c_X10_at (kf_X3_costly h1) hcl) (by decide) rfl rfl (Nat.le_of_ble_eq_true rfl) hl.1 dX4_readPart_123 ?_
          clear hW hcl; intro H locs hW
          refine lv_iconst (v := 1) hx hb dX4_readPart_126 (by decide) ?_
          refine lv_icmp_ne (tgt := 140) hx hb dX4_readPart_127 (by decide) (fun hc => ?_) (fun hc => ?_)
          · replace h := if_f hc h
            exact bl_X4_readPart_b140 X hret v1 h1 v2 σ_6 h _ _ _ hW (lv_sub hl [2, 3] rfl)
          · replace h := if_t hc h
            refine lv_aload_n hx hb dX4_readPart_130 rfl (lv_at hl 1 rfl) ?_
            refine gf_X4_tokens X hW h0 m_2_7 dX4_readPart_131 ?_
            refine lv_bipush (v := (-2)) hx hb dX4_readPart_134 (by decide) ?_
            refine lv_iload_n hx hb dX4_readPart_136 rfl (lv_at hl 0 rfl) ?_
            obtain ⟨σ_8, hcl, h⟩ := bind_el h
            refine call_V0 X hW (kC_X6 (kf_X4_tokens h0)) m_4_72 m_4_46 m_4_47 mv_X6_fail (c_X6_fail (kf_X4_tokens h0) hcl) (by decide) rfl rfl (Nat.le_of_ble_eq_true rfl) hl.1 dX4_readPart_137 ?_
            clear hW hcl; intro H locs hW
            exact bl_X4_readPart_b140 X hret v1 h1 v2 σ_8 h _ _ _ hW (lv_sub hl [2, 3] rfl)
        · replace h := if_f hc h
          refine lv_aload_n hx hb dX4_readPart_96 rfl (lv_at hl 1 rfl) ?_
          refine lv_aload_n hx hb dX4_readPart_97 rfl (lv_at hl 2 rfl) ?_
          refine gf_X3_ahead X hW h1 m_1_86 dX4_readPart_98 ?_
          refine lv_iload_n hx hb dX4_readPart_101 rfl (lv_at hl 3 rfl) ?_
          obtain ⟨σ_9, hcl, h⟩ := bind_el h
          refine call_V0 X hW (kC_X4 h0) m_4_177 m_4_179 m_0_29 mv_X4_readAhead (c_X4_readAhead h0 (kf_X3_ahead h1) hcl) (by decide) rfl rfl (Nat.le_of_ble_eq_true rfl) hl.1 dX4_readPart_102 ?_
          clear hW hcl; intro H locs hW
          refine lv_goto (tgt := 149) hx hb dX4_readPart_105 (by decide) ?_
          exact rv_end hret h dX4_readPart_149 hW
      · replace h := if_f hc h
        refine lv_aload_n hx hb dX4_readPart_71 rfl (lv_at hl 1 rfl) ?_
        refine lv_aload_n hx hb dX4_readPart_72 rfl (lv_at hl 2 rfl) ?_
        refine gf_X3_gives X hW h1 m_1_102 dX4_readPart_73 ?_
        refine lv_iload_n hx hb dX4_readPart_76 rfl (lv_at hl 3 rfl) ?_
        obtain ⟨σ_10, hcl, h⟩ := bind_el h
        refine call_V0 X hW (kC_X4 h0) m_4_169 m_4_171 m_0_28 mv_X4_readAmounts (c_X4_readAmounts h0 (kf_X3_gives h1) hcl) (by decide) rfl rfl (Nat.le_of_ble_eq_true rfl) hl.1 dX4_readPart_77 ?_
        clear hW hcl; intro H locs hW
        refine lv_goto (tgt := 149) hx hb dX4_readPart_80 (by decide) ?_
        exact rv_end hret h dX4_readPart_149 hW
    · replace h := if_f hc h
      refine lv_aload_n hx hb dX4_readPart_46 rfl (lv_at hl 1 rfl) ?_
      refine lv_aload_n hx hb dX4_readPart_47 rfl (lv_at hl 2 rfl) ?_
      refine gf_X3_needs X hW h1 m_1_97 dX4_readPart_48 ?_
      refine lv_iload_n hx hb dX4_readPart_51 rfl (lv_at hl 3 rfl) ?_
      obtain ⟨σ_11, hcl, h⟩ := bind_el h
      refine call_V0 X hW (kC_X4 h0) m_4_169 m_4_171 m_0_28 mv_X4_readAmounts (c_X4_readAmounts h0 (kf_X3_needs h1) hcl) (by decide) rfl rfl (Nat.le_of_ble_eq_true rfl) hl.1 dX4_readPart_52 ?_
      clear hW hcl; intro H locs hW
      refine lv_goto (tgt := 149) hx hb dX4_readPart_55 (by decide) ?_
      exact rv_end hret h dX4_readPart_149 hW
  · replace h := if_f hc h
    refine lv_aload_n hx hb dX4_readPart_21 rfl (lv_at hl 1 rfl) ?_
    refine lv_aload_n hx hb dX4_readPart_22 rfl (lv_at hl 2 rfl) ?_
    refine gf_X3_uses X hW h1 m_1_94 dX4_readPart_23 ?_
    refine lv_iload_n hx hb dX4_readPart_26 rfl (lv_at hl 3 rfl) ?_
    obtain ⟨σ_12, hcl, h⟩ := bind_el h
    refine call_V0 X hW (kC_X4 h0) m_4_169 m_4_171 m_0_28 mv_X4_readAmounts (c_X4_readAmounts h0 (kf_X3_uses h1) hcl) (by decide) rfl rfl (Nat.le_of_ble_eq_true rfl) hl.1 dX4_readPart_27 ?_
    clear hW hcl; intro H locs hW
    refine lv_goto (tgt := 149) hx hb dX4_readPart_30 (by decide) ?_
    exact rv_end hret h dX4_readPart_149 hW
set_option maxRecDepth 20000 in
set_option maxHeartbeats 4000000 in
theorem bl_X5_beginsPart_b35 {σ : St} (X : Cx G p R s m args c cells slots cX5_beginsPart 1 RX5 2) {r : Int32} (hret : R_Z G p l e R s m args below meth c cells slots Q cX5_beginsPart r σ) :
    ∀ (_ : pf_X5_beginsPart_b35 σ = some r) (H : Heap) (locs : List Loc) (ls : Array Slot) (_ : GW G σ s H locs) (_ : lv_has ls 1 []), W p l e R s m args below meth c H locs cells slots Q (F0 m 35 ls []) := by
  have hx := X.1.1
  have hb := X.1.2.1
  intro h H locs ls hW hl
  unfold pf_X5_beginsPart_b35 at h
  refine lv_iconst (v := 1) hx hb dX5_beginsPart_35 (by decide) ?_
  refine lv_goto (tgt := 40) hx hb dX5_beginsPart_36 (by decide) ?_
  exact rz_end0 hret h (by decide) dX5_beginsPart_40 hW
set_option maxRecDepth 20000 in
set_option maxHeartbeats 4000000 in
theorem c_X5_beginsPart {G : Gt} {l : Launch} {v0 : Nat} (h0 : v0 < 32) {σ : St} {r : Int32} (hf : pf_X5_beginsPart v0 σ = some r) : Ct G l yX5_beginsPart cX5_beginsPart 1 (some .boolean) 2 [.ref (gad G (v0))] σ (some (.int r)) σ := by
  refine met_z (by decide +kernel) (Nat.le_of_ble_eq_true rfl) rfl ?_
  intro p e s m args below meth c Q ls X hW hret hl
  have hx := X.1.1
  have hb := X.1.2.1
  have hl : lv_has ls 1 [(0, .ref (gad G (v0)))] := hl
  have h := hf
  clear hf
  unfold pf_X5_beginsPart at h
  refine lv_aload_n hx hb dX5_beginsPart_0 rfl (lv_at hl 0 rfl) ?_
  refine r_gtok (k := 11) X hW (by decide) m_4_150 dX5_beginsPart_1 ?_
  refine r_acmp_eq (a := some v0) (b := some 11) (tgt := 35) X hx hb dX5_beginsPart_4 (by decide) (fun hc => ?_) (fun hc => ?_)
  · replace h := if_t hc h
    exact bl_X5_beginsPart_b35 X hret h _ _ _ hW (lv_sub hl [] rfl)
  · replace h := if_f hc h
    refine lv_aload_n hx hb dX5_beginsPart_7 rfl (lv_at hl 0 rfl) ?_
    refine r_gtok (k := 12) X hW (by decide) m_4_152 dX5_beginsPart_8 ?_
    refine r_acmp_eq (a := some v0) (b := some 12) (tgt := 35) X hx hb dX5_beginsPart_11 (by decide) (fun hc => ?_) (fun hc => ?_)
    · replace h := if_t hc h
      exact bl_X5_beginsPart_b35 X hret h _ _ _ hW (lv_sub hl [] rfl)
    · replace h := if_f hc h
      refine lv_aload_n hx hb dX5_beginsPart_14 rfl (lv_at hl 0 rfl) ?_
      refine r_gtok (k := 13) X hW (by decide) m_4_154 dX5_beginsPart_15 ?_
      refine r_acmp_eq (a := some v0) (b := some 13) (tgt := 35) X hx hb dX5_beginsPart_18 (by decide) (fun hc => ?_) (fun hc => ?_)
      · replace h := if_t hc h
        exact bl_X5_beginsPart_b35 X hret h _ _ _ hW (lv_sub hl [] rfl)
      · replace h := if_f hc h
        refine lv_aload_n hx hb dX5_beginsPart_21 rfl (lv_at hl 0 rfl) ?_
        refine r_gtok (k := 14) X hW (by decide) m_4_156 dX5_beginsPart_22 ?_
        refine r_acmp_eq (a := some v0) (b := some 14) (tgt := 35) X hx hb dX5_beginsPart_25 (by decide) (fun hc => ?_) (fun hc => ?_)
        · replace h := if_t hc h
          exact bl_X5_beginsPart_b35 X hret h _ _ _ hW (lv_sub hl [] rfl)
        · replace h := if_f hc h
          refine lv_aload_n hx hb dX5_beginsPart_28 rfl (lv_at hl 0 rfl) ?_
          refine r_gtok (k := 15) X hW (by decide) m_4_158 dX5_beginsPart_29 ?_
          refine r_acmp_ne (a := some v0) (b := some 15) (tgt := 39) X hx hb dX5_beginsPart_32 (by decide) (fun hc => ?_) (fun hc => ?_)
          · replace h := if_f hc h
            refine lv_iconst (v := 0) hx hb dX5_beginsPart_39 (by decide) ?_
            exact rz_end0 hret h (by decide) dX5_beginsPart_40 hW
          · replace h := if_t hc h
            exact bl_X5_beginsPart_b35 X hret h _ _ _ hW (lv_sub hl [] rfl)
set_option maxRecDepth 20000 in
set_option maxHeartbeats 4000000 in
theorem bl_X4_readStep_b108 (X : Cx G p R s m args c cells slots cX4_readStep 4 RX4 6) {σ' : St} (hret : R_V G p l e R s m args below meth c cells slots Q cX4_readStep σ') :
    ∀ (v0 : Nat) (h0 : kd v0 = 4) (v1 : Nat) (h1 : kd v1 = 3) (σ : St) (_ : pf_X4_readStep_b108 v0 v1 σ = some σ') (H : Heap) (locs : List Loc) (ls : Array Slot) (_ : GW G σ s H locs) (_ : lv_has ls 4 [(0, .ref (gz G + (v0))), (1, .ref (gz G + (v1)))]), W p l e R s m args below meth c H locs cells slots Q (F0 m 108 ls []) := by
  have hx := X.1.1
  have hb := X.1.2.1
  intro v0 h0 v1 h1 σ h H locs ls hW hl
  unfold pf_X4_readStep_b108 at h
  refine lv_aload_n hx hb dX4_readStep_108 rfl (lv_at hl 0 rfl) ?_
  refine gf_X4_tokens X hW h0 m_2_7 dX4_readStep_109 ?_
  refine r_gtok (k := 24) X hW (by decide) m_4_49 dX4_readStep_112 ?_
  obtain ⟨σ_1, hcl, h⟩ := bind_el h
  refine call_V0 X hW (kC_X6 (kf_X4_tokens h0)) m_4_31 m_4_32 m_4_33 mv_X6_expect (c_X6_expect (kf_X4_tokens h0) hcl) (by decide) rfl rfl (Nat.le_of_ble_eq_true rfl) hl.1 dX4_readStep_115 ?_
  clear hW hcl; intro H locs hW
  refine lv_aload_n hx hb dX4_readStep_118 rfl (lv_at hl 1 rfl) ?_
  refine lv_dup hx hb dX4_readStep_119 rfl ?_
  refine gf_X3_stepCount X hW h1 m_1_54 dX4_readStep_120 ?_
  refine lv_iconst (v := 1) hx hb dX4_readStep_123 (by decide) ?_
  refine lv_iadd hx hb dX4_readStep_124 ?_
  refine sf_X3_stepCount X hW h1 m_1_54 dX4_readStep_125 ?_
  clear hW; intro H locs hW
  refine nm_s hW h ?_
  clear hW h; intro σ_2 hW h
  exact rv_end hret h dX4_readStep_128 hW
set_option maxRecDepth 20000 in
set_option maxHeartbeats 4000000 in
theorem bl_X4_readStep_L76 (X : Cx G p R s m args c cells slots cX4_readStep 4 RX4 6) {σ' : St} (hret : R_V G p l e R s m args below meth c cells slots Q cX4_readStep σ') {k108 : Nat → Nat → St → (Option St)}
    (hk108 : ∀ (v0 : Nat) (h0 : kd v0 = 4) (v1 : Nat) (h1 : kd v1 = 3) (σ : St) (_ : k108 v0 v1 σ = some σ') (H : Heap) (locs : List Loc) (ls : Array Slot) (_ : GW G σ s H locs) (_ : lv_has ls 4 [(0, .ref (gz G + (v0))), (1, .ref (gz G + (v1)))]), W p l e R s m args below meth c H locs cells slots Q (F0 m 108 ls [])) :
    ∀ (n : Nat), ∀ (v0 : Nat) (h0 : kd v0 = 4) (v1 : Nat) (h1 : kd v1 = 3) (v2 : Int32) (v3 : Int32) (σ : St) (_ : pf_X4_readStep_L76 k108 n v0 v1 v2 v3 σ = some σ') (H : Heap) (locs : List Loc) (ls : Array Slot) (_ : GW G σ s H locs) (_ : lv_has ls 4 [(0, .ref (gz G + (v0))), (1, .ref (gz G + (v1))), (2, .int (v2)), (3, .int (v3))]), W p l e R s m args below meth c H locs cells slots Q (F0 m 76 ls []) := by
  have hx := X.1.1
  have hb := X.1.2.1
  intro n
  induction n with
  | zero => intro v0 h0 v1 h1 v2 v3 σ h H locs ls hW hl; cases h
  | succ n ih =>
    intro v0 h0 v1 h1 v2 v3 σ h H locs ls hW hl
    rw [pf_X4_readStep_L76.eq_2] at h
    refine lv_iload_n hx hb dX4_readStep_76 rfl (lv_at hl 3 rfl) ?_
    refine lv_sipush (v := 800) hx hb dX4_readStep_77 (by decide) ?_
    refine lv_icmp_ge (tgt := 108) hx hb dX4_readStep_80 (by decide) (fun hc => ?_) (fun hc => ?_)
    · replace h := if_t hc h
      exact hk108 v0 h0 v1 h1 σ h _ _ _ hW (lv_sub hl [0, 1] rfl)
    · replace h := if_f hc h
      refine lv_aload_n hx hb dX4_readStep_83 rfl (lv_at hl 0 rfl) ?_
      refine gf_X4_tokens X hW h0 m_2_7 dX4_readStep_84 ?_
      obtain ⟨r_1, hcl, h⟩ := bind_el h
      refine call_V1 X hW (kC_X6 (kf_X4_tokens h0)) m_4_55 m_4_36 m_4_37 mv_X6_ahead (c_X6_ahead (kf_X4_tokens h0) hcl) (by decide) rfl rfl (Nat.le_of_ble_eq_true rfl) hl.1 dX4_readStep_87 ?_
      clear hW hcl; intro H locs hW
      obtain ⟨t2, et, ht, h⟩ := ckT_el h
      obtain ⟨r_3, hcl, h⟩ := bind_el h
      refine call_T1 X hW et ht m_4_146 m_4_147 m_4_148 mv_X5_beginsPart (c_X5_beginsPart ht hcl) (by decide) rfl rfl (Nat.le_of_ble_eq_true rfl) hl.1 dX4_readStep_90 ?_
      clear hW hcl; intro H locs hW
      refine lv_if_eq (tgt := 108) hx hb dX4_readStep_93 (by decide) (fun hc => ?_) (fun hc => ?_)
      · replace h := if_t hc h
        exact hk108 v0 h0 v1 h1 σ h _ _ _ hW (lv_sub hl [0, 1] rfl)
      · replace h := if_f hc h
        refine lv_aload_n hx hb dX4_readStep_96 rfl (lv_at hl 0 rfl) ?_
        refine lv_aload_n hx hb dX4_readStep_97 rfl (lv_at hl 1 rfl) ?_
        refine lv_iload_n hx hb dX4_readStep_98 rfl (lv_at hl 2 rfl) ?_
        obtain ⟨σ_4, hcl, h⟩ := bind_el h
        refine call_V0 X hW (kC_X4 h0) m_4_160 m_4_162 m_0_27 mv_X4_readPart (c_X4_readPart h0 h1 hcl) (by decide) rfl rfl (Nat.le_of_ble_eq_true rfl) hl.1 dX4_readStep_99 ?_
        clear hW hcl; intro H locs hW
        refine w_iinc (v := 1) (lv' := fun y => [(3, .int (y)), (0, .ref (gz G + (v0))), (1, .ref (gz G + (v1))), (2, .int (v2))]) hx hb dX4_readStep_102 hl (k := 3) rfl (by decide) (by decide) (fun _ => rfl) h ?_
        clear h hl; intro v3_5 h ls hl
        refine lv_goto (tgt := 76) hx hb dX4_readStep_105 (by decide) ?_
        exact ih v0 h0 v1 h1 v2 v3_5 σ_4 h _ _ _ hW (lv_sub hl [1, 2, 3, 0] rfl)
set_option maxRecDepth 20000 in
set_option maxHeartbeats 4000000 in
theorem c_X4_readStep {G : Gt} {l : Launch} {v0 : Nat} (h0 : kd v0 = 4) {v1 : Nat} (h1 : kd v1 = 3) {σ : St} {σ' : St} (hf : pf_X4_readStep v0 v1 σ = some σ') : Ct G l yX4_readStep cX4_readStep 4 none 6 [.ref (gz G + (v0)), .ref (gz G + (v1))] σ none σ' := by
  refine met_v (by decide +kernel) (Nat.le_of_ble_eq_true rfl) rfl ?_
  intro p e s m args below meth c Q ls X hW hret hl
  have hx := X.1.1
  have hb := X.1.2.1
  have hl : lv_has ls 4 [(0, .ref (gz G + (v0))), (1, .ref (gz G + (v1)))] := hl
  have h := hf
  clear hf
  unfold pf_X4_readStep at h
  refine lv_aload_n hx hb dX4_readStep_0 rfl (lv_at hl 1 rfl) ?_
  refine gf_X3_stepCount X hW h1 m_1_54 dX4_readStep_1 ?_
  refine nm_i h ?_
  clear h; intro v2_1 h
  refine lv_istore_n (lv' := [(2, .int (v2_1)), (0, .ref (gz G + (v0))), (1, .ref (gz G + (v1)))]) hx hb dX4_readStep_4 rfl hl (by decide) rfl ?_
  clear hl; intro ls hl
  refine lv_iload_n hx hb dX4_readStep_5 rfl (lv_at hl 0 rfl) ?_
  refine lv_bipush (v := 6) hx hb dX4_readStep_6 (by decide) ?_
  refine lv_icmp_lt (tgt := 28) hx hb dX4_readStep_8 (by decide) (fun hc => ?_) (fun hc => ?_)
  · replace h := if_t hc h
    refine lv_aload_n hx hb dX4_readStep_28 rfl (lv_at hl 1 rfl) ?_
    refine gf_X4_tokens X hW h0 m_2_7 dX4_readStep_29 ?_
    refine r_gtok (k := 9) X hW (by decide) m_4_140 dX4_readStep_32 ?_
    obtain ⟨σ_2, hcl, h⟩ := bind_el h
    refine call_V0 X hW (kC_X6 (kf_X4_tokens h0)) m_4_31 m_4_32 m_4_33 mv_X6_expect (c_X6_expect (kf_X4_tokens h0) hcl) (by decide) rfl rfl (Nat.le_of_ble_eq_true rfl) hl.1 dX4_readStep_35 ?_
    clear hW hcl; intro H locs hW
    refine lv_aload_n hx hb dX4_readStep_38 rfl (lv_at hl 2 rfl) ?_
    refine gf_X3_risk X hW h1 m_1_76 dX4_readStep_39 ?_
    refine lv_iload_n hx hb dX4_readStep_42 rfl (lv_at hl 0 rfl) ?_
    refine lv_aload_n hx hb dX4_readStep_43 rfl (lv_at hl 1 rfl) ?_
    refine gf_X4_tokens X hW h0 m_2_7 dX4_readStep_44 ?_
    refine lv_iconst (v := 0) hx hb dX4_readStep_47 (by decide) ?_
    refine lv_bipush (v := 100) hx hb dX4_readStep_48 (by decide) ?_
    obtain ⟨r_3, σ_3, hcl, h⟩ := bnd2_el h
    refine call_V1 X hW (kC_X6 (kf_X4_tokens h0)) m_4_68 m_4_69 m_4_70 mv_X6_number (c_X6_number (kf_X4_tokens h0) hcl) (by decide) rfl rfl (Nat.le_of_ble_eq_true rfl) hl.1 dX4_readStep_50 ?_
    clear hW hcl; intro H locs hW
    obtain ⟨σ_4, hcl, h⟩ := bind_el h
    refine call_SN0 X hW m_4_73 m_2_98 mv_X10_put (c_X10_put (kf_X3_risk h1) hcl) (by decide) rfl rfl (Nat.le_of_ble_eq_true rfl) hl.1 dX4_readStep_53 ?_
    clear hW hcl; intro H locs hW
    refine lv_aload_n hx hb dX4_readStep_56 rfl (lv_at hl 2 rfl) ?_
    refine gf_X3_limit X hW h1 m_1_79 dX4_readStep_57 ?_
    refine lv_iload_n hx hb dX4_readStep_60 rfl (lv_at hl 0 rfl) ?_
    refine lv_aload_n hx hb dX4_readStep_61 rfl (lv_at hl 1 rfl) ?_
    refine gf_X4_tokens X hW h0 m_2_7 dX4_readStep_62 ?_
    refine lv_iconst (v := 1) hx hb dX4_readStep_65 (by decide) ?_
    refine lv_bipush (v := 9) hx hb dX4_readStep_66 (by decide) ?_
    obtain ⟨r_5, σ_5, hcl, h⟩ := bnd2_el h
    refine call_V1 X hW (kC_X6 (kf_X4_tokens h0)) m_4_68 m_4_69 m_4_70 mv_X6_number (c_X6_number (kf_X4_tokens h0) hcl) (by decide) rfl rfl (Nat.le_of_ble_eq_true rfl) hl.1 dX4_readStep_68 ?_
    clear hW hcl; intro H locs hW
    obtain ⟨σ_6, hcl, h⟩ := bind_el h
    refine call_SN0 X hW m_4_73 m_2_98 mv_X10_put (c_X10_put (kf_X3_limit h1) hcl) (by decide) rfl rfl (Nat.le_of_ble_eq_true rfl) hl.1 dX4_readStep_71 ?_
    clear hW hcl; intro H locs hW
    refine lv_iconst (v := 0) hx hb dX4_readStep_74 (by decide) ?_
    refine lv_istore_n (lv' := [(3, .int (0)), (2, .int (v2_1)), (0, .ref (gz G + (v0))), (1, .ref (gz G + (v1)))]) hx hb dX4_readStep_75 rfl hl (by decide) rfl ?_
    clear hl; intro ls hl
    exact bl_X4_readStep_L76 X hret (bl_X4_readStep_b108 X hret) FU v0 h0 v1 h1 v2_1 0 σ_6 h _ _ _ hW (lv_sub hl [2, 3, 1, 0] rfl)
  · replace h := if_f hc h
    refine lv_aload_n hx hb dX4_readStep_11 rfl (lv_at hl 1 rfl) ?_
    refine gf_X4_tokens X hW h0 m_2_7 dX4_readStep_12 ?_
    refine lv_bipush (v := (-5)) hx hb dX4_readStep_15 (by decide) ?_
    refine lv_aload_n hx hb dX4_readStep_17 rfl (lv_at hl 1 rfl) ?_
    refine gf_X4_tokens X hW h0 m_2_7 dX4_readStep_18 ?_
    obtain ⟨r_7, hcl, h⟩ := bind_el h
    refine call_V1 X hW (kC_X6 (kf_X4_tokens h0)) m_4_67 m_4_42 m_4_43 mv_X6_start (c_X6_start (kf_X4_tokens h0) hcl) (by decide) rfl rfl (Nat.le_of_ble_eq_true rfl) hl.1 dX4_readStep_21 ?_
    clear hW hcl; intro H locs hW
    obtain ⟨σ_8, hcl, h⟩ := bind_el h
    refine call_V0 X hW (kC_X6 (kf_X4_tokens h0)) m_4_72 m_4_46 m_4_47 mv_X6_fail (c_X6_fail (kf_X4_tokens h0) hcl) (by decide) rfl rfl (Nat.le_of_ble_eq_true rfl) hl.1 dX4_readStep_24 ?_
    clear hW hcl; intro H locs hW
    exact rv_end hret h dX4_readStep_27 hW
set_option maxRecDepth 20000 in
set_option maxHeartbeats 4000000 in
theorem bl_X5_isVariable_b20 {σ : St} (X : Cx G p R s m args c cells slots cX5_isVariable 1 RX5 2) {r : Int32} (hret : R_Z G p l e R s m args below meth c cells slots Q cX5_isVariable r σ) :
    ∀ (_ : pf_X5_isVariable_b20 σ = some r) (H : Heap) (locs : List Loc) (ls : Array Slot) (_ : GW G σ s H locs) (_ : lv_has ls 1 []), W p l e R s m args below meth c H locs cells slots Q (F0 m 20 ls []) := by
  have hx := X.1.1
  have hb := X.1.2.1
  intro h H locs ls hW hl
  unfold pf_X5_isVariable_b20 at h
  refine lv_iconst (v := 0) hx hb dX5_isVariable_20 (by decide) ?_
  exact rz_end0 hret h (by decide) dX5_isVariable_21 hW
set_option maxRecDepth 20000 in
set_option maxHeartbeats 4000000 in
theorem c_X5_isVariable {G : Gt} {l : Launch} {v0 : Nat} (h0 : v0 < 32) {σ : St} {r : Int32} (hf : pf_X5_isVariable v0 σ = some r) : Ct G l yX5_isVariable cX5_isVariable 1 (some .boolean) 2 [.ref (gad G (v0))] σ (some (.int r)) σ := by
  refine met_z (by decide +kernel) (Nat.le_of_ble_eq_true rfl) rfl ?_
  intro p e s m args below meth c Q ls X hW hret hl
  have hx := X.1.1
  have hb := X.1.2.1
  have hl : lv_has ls 1 [(0, .ref (gad G (v0)))] := hl
  have h := hf
  clear hf
  unfold pf_X5_isVariable at h
  refine lv_aload_n hx hb dX5_isVariable_0 rfl (lv_at hl 0 rfl) ?_
  refine r_tokCode X hW h0 m_8_76 dX5_isVariable_1 ?_
  refine lv_if_ge (tgt := 20) hx hb dX5_isVariable_4 (by decide) (fun hc => ?_) (fun hc => ?_)
  · replace h := if_t hc h
    exact bl_X5_isVariable_b20 X hret h _ _ _ hW (lv_sub hl [] rfl)
  · replace h := if_f hc h
    refine lv_aload_n hx hb dX5_isVariable_7 rfl (lv_at hl 0 rfl) ?_
    refine r_tokCode X hW h0 m_8_76 dX5_isVariable_8 ?_
    refine lv_bipush (v := (-6)) hx hb dX5_isVariable_11 (by decide) ?_
    refine lv_icmp_lt (tgt := 20) hx hb dX5_isVariable_13 (by decide) (fun hc => ?_) (fun hc => ?_)
    · replace h := if_t hc h
      exact bl_X5_isVariable_b20 X hret h _ _ _ hW (lv_sub hl [] rfl)
    · replace h := if_f hc h
      refine lv_iconst (v := 1) hx hb dX5_isVariable_16 (by decide) ?_
      refine lv_goto (tgt := 21) hx hb dX5_isVariable_17 (by decide) ?_
      exact rz_end0 hret h (by decide) dX5_isVariable_21 hW
set_option maxRecDepth 20000 in
set_option maxHeartbeats 4000000 in
theorem bl_X6_kindOf_b38 {σ : St} (X : Cx G p R s m args c cells slots cX6_kindOf 1 RX6 2) {r : Int32} (hret : R_I G p l e R s m args below meth c cells slots Q cX6_kindOf r σ) :
    ∀ (_ : pf_X6_kindOf_b38 σ = some r) (H : Heap) (locs : List Loc) (ls : Array Slot) (_ : GW G σ s H locs) (_ : lv_has ls 1 []), W p l e R s m args below meth c H locs cells slots Q (F0 m 38 ls []) := by
  have hx := X.1.1
  have hb := X.1.2.1
  intro h H locs ls hW hl
  unfold pf_X6_kindOf_b38 at h
  refine lv_iconst (v := 3) hx hb dX6_kindOf_38 (by decide) ?_
  exact ri_end0 hret h dX6_kindOf_39 hW
set_option maxRecDepth 20000 in
set_option maxHeartbeats 4000000 in
theorem bl_X6_kindOf_b22 {σ : St} (X : Cx G p R s m args c cells slots cX6_kindOf 1 RX6 2) {r : Int32} (hret : R_I G p l e R s m args below meth c cells slots Q cX6_kindOf r σ) :
    ∀ (v0 : Int32) (_ : pf_X6_kindOf_b22 σ v0 = some r) (H : Heap) (locs : List Loc) (ls : Array Slot) (_ : GW G σ s H locs) (_ : lv_has ls 1 [(0, .int (v0))]), W p l e R s m args below meth c H locs cells slots Q (F0 m 22 ls []) := by
  have hx := X.1.1
  have hb := X.1.2.1
  intro v0 h H locs ls hW hl
  unfold pf_X6_kindOf_b22 at h
  refine lv_iload_n hx hb dX6_kindOf_22 rfl (lv_at hl 0 rfl) ?_
  refine lv_bipush (v := 97) hx hb dX6_kindOf_23 (by decide) ?_
  refine lv_icmp_lt (tgt := 38) hx hb dX6_kindOf_25 (by decide) (fun hc => ?_) (fun hc => ?_)
  · replace h := if_t hc h
    exact bl_X6_kindOf_b38 X hret h _ _ _ hW (lv_sub hl [] rfl)
  · replace h := if_f hc h
    refine lv_iload_n hx hb dX6_kindOf_28 rfl (lv_at hl 0 rfl) ?_
    refine lv_bipush (v := 122) hx hb dX6_kindOf_29 (by decide) ?_
    refine lv_icmp_gt (tgt := 38) hx hb dX6_kindOf_31 (by decide) (fun hc => ?_) (fun hc => ?_)
    · replace h := if_t hc h
      exact bl_X6_kindOf_b38 X hret h _ _ _ hW (lv_sub hl [] rfl)
    · replace h := if_f hc h
      refine lv_iconst (v := 2) hx hb dX6_kindOf_34 (by decide) ?_
      refine lv_goto (tgt := 39) hx hb dX6_kindOf_35 (by decide) ?_
      exact ri_end0 hret h dX6_kindOf_39 hW
set_option maxRecDepth 20000 in
set_option maxHeartbeats 4000000 in
theorem c_X6_kindOf {G : Gt} {l : Launch} {v0 : Int32} {σ : St} {r : Int32} (hf : pf_X6_kindOf v0 σ = some r) : Ct G l yX6_kindOf cX6_kindOf 1 (some .int) 2 [.int (v0)] σ (some (.int r)) σ := by
  refine met_i (by decide +kernel) (Nat.le_of_ble_eq_true rfl) rfl ?_
  intro p e s m args below meth c Q ls X hW hret hl
  have hx := X.1.1
  have hb := X.1.2.1
  have hl : lv_has ls 1 [(0, .int (v0))] := hl
  have h := hf
  clear hf
  unfold pf_X6_kindOf at h
  refine lv_iload_n hx hb dX6_kindOf_0 rfl (lv_at hl 0 rfl) ?_
  refine lv_bipush (v := 32) hx hb dX6_kindOf_1 (by decide) ?_
  refine lv_icmp_ne (tgt := 8) hx hb dX6_kindOf_3 (by decide) (fun hc => ?_) (fun hc => ?_)
  · replace h := if_f hc h
    refine lv_iload_n hx hb dX6_kindOf_8 rfl (lv_at hl 0 rfl) ?_
    refine lv_bipush (v := 48) hx hb dX6_kindOf_9 (by decide) ?_
    refine lv_icmp_lt (tgt := 22) hx hb dX6_kindOf_11 (by decide) (fun hc => ?_) (fun hc => ?_)
    · replace h := if_t hc h
      exact bl_X6_kindOf_b22 X hret v0 h _ _ _ hW (lv_sub hl [0] rfl)
    · replace h := if_f hc h
      refine lv_iload_n hx hb dX6_kindOf_14 rfl (lv_at hl 0 rfl) ?_
      refine lv_bipush (v := 57) hx hb dX6_kindOf_15 (by decide) ?_
      refine lv_icmp_gt (tgt := 22) hx hb dX6_kindOf_17 (by decide) (fun hc => ?_) (fun hc => ?_)
      · replace h := if_t hc h
        exact bl_X6_kindOf_b22 X hret v0 h _ _ _ hW (lv_sub hl [0] rfl)
      · replace h := if_f hc h
        refine lv_iconst (v := 1) hx hb dX6_kindOf_20 (by decide) ?_
        exact ri_end0 hret h dX6_kindOf_21 hW
  · replace h := if_t hc h
    refine lv_iconst (v := 0) hx hb dX6_kindOf_6 (by decide) ?_
    exact ri_end0 hret h dX6_kindOf_7 hW
set_option maxRecDepth 20000 in
set_option maxHeartbeats 4000000 in
theorem bl_X6_goesOn_b17 {σ : St} (X : Cx G p R s m args c cells slots cX6_goesOn 2 RX6 3) {r : Int32} (hret : R_Z G p l e R s m args below meth c cells slots Q cX6_goesOn r σ) :
    ∀ (_ : pf_X6_goesOn_b17 σ = some r) (H : Heap) (locs : List Loc) (ls : Array Slot) (_ : GW G σ s H locs) (_ : lv_has ls 2 []), W p l e R s m args below meth c H locs cells slots Q (F0 m 17 ls []) := by
  have hx := X.1.1
  have hb := X.1.2.1
  intro h H locs ls hW hl
  unfold pf_X6_goesOn_b17 at h
  refine lv_iconst (v := 0) hx hb dX6_goesOn_17 (by decide) ?_
  exact rz_end0 hret h (by decide) dX6_goesOn_18 hW
set_option maxRecDepth 20000 in
set_option maxHeartbeats 4000000 in
theorem c_X6_goesOn {G : Gt} {l : Launch} {v0 : Int32} {v1 : Int32} {σ : St} {r : Int32} (hf : pf_X6_goesOn v0 v1 σ = some r) : Ct G l yX6_goesOn cX6_goesOn 2 (some .boolean) 3 [.int (v0), .int (v1)] σ (some (.int r)) σ := by
  refine met_z (by decide +kernel) (Nat.le_of_ble_eq_true rfl) rfl ?_
  intro p e s m args below meth c Q ls X hW hret hl
  have hx := X.1.1
  have hb := X.1.2.1
  have hl : lv_has ls 2 [(0, .int (v0)), (1, .int (v1))] := hl
  have h := hf
  clear hf
  unfold pf_X6_goesOn at h
  refine lv_iload_n hx hb dX6_goesOn_0 rfl (lv_at hl 0 rfl) ?_
  refine lv_iconst (v := 3) hx hb dX6_goesOn_1 (by decide) ?_
  refine lv_icmp_eq (tgt := 17) hx hb dX6_goesOn_2 (by decide) (fun hc => ?_) (fun hc => ?_)
  · replace h := if_t hc h
    exact bl_X6_goesOn_b17 X hret h _ _ _ hW (lv_sub hl [] rfl)
  · replace h := if_f hc h
    refine lv_iload_n hx hb dX6_goesOn_5 rfl (lv_at hl 0 rfl) ?_
    refine lv_iload_n hx hb dX6_goesOn_6 rfl (lv_at hl 1 rfl) ?_
    obtain ⟨r_1, hcl, h⟩ := bind_el h
    refine call_S1 X hW m_3_174 m_3_175 mv_X6_kindOf (c_X6_kindOf hcl) (by decide) rfl rfl (Nat.le_of_ble_eq_true rfl) hl.1 dX6_goesOn_7 ?_
    clear hW hcl; intro H locs hW
    refine lv_icmp_ne (tgt := 17) hx hb dX6_goesOn_10 (by decide) (fun hc => ?_) (fun hc => ?_)
    · replace h := if_f hc h
      exact bl_X6_goesOn_b17 X hret h _ _ _ hW (lv_sub hl [] rfl)
    · replace h := if_t hc h
      refine lv_iconst (v := 1) hx hb dX6_goesOn_13 (by decide) ?_
      refine lv_goto (tgt := 18) hx hb dX6_goesOn_14 (by decide) ?_
      exact rz_end0 hret h (by decide) dX6_goesOn_18 hW
set_option maxRecDepth 20000 in
set_option maxHeartbeats 4000000 in
theorem bl_X6_endOfRun_L14 {σ : St} (X : Cx G p R s m args c cells slots cX6_endOfRun 5 RX6 4) {r : Int32} (hret : R_I G p l e R s m args below meth c cells slots Q cX6_endOfRun r σ) :
    ∀ (n : Nat), ∀ (v0 : Nat) (h0 : kd v0 = 11) (v2 : Int32) (v3 : Int32) (v4 : Int32) (_ : pf_X6_endOfRun_L14 σ n v0 v2 v3 v4 = some r) (H : Heap) (locs : List Loc) (ls : Array Slot) (_ : GW G σ s H locs) (_ : lv_has ls 5 [(0, .ref (gz G + (v0))), (2, .int (v2)), (3, .int (v3)), (4, .int (v4))]), W p l e R s m args below meth c H locs cells slots Q (F0 m 14 ls []) := by
  have hx := X.1.1
  have hb := X.1.2.1
  intro n
  induction n with
  | zero => intro v0 h0 v2 v3 v4 h H locs ls hW hl; cases h
  | succ n ih =>
    intro v0 h0 v2 v3 v4 h H locs ls hW hl
    rw [pf_X6_endOfRun_L14.eq_2] at h
    refine lv_iload hx hb dX6_endOfRun_14 (lv_at hl 3 rfl) ?_
    refine lv_iload_n hx hb dX6_endOfRun_16 rfl (lv_at hl 1 rfl) ?_
    refine lv_icmp_ge (tgt := 42) hx hb dX6_endOfRun_17 (by decide) (fun hc => ?_) (fun hc => ?_)
    · replace h := if_t hc h
      refine lv_iload_n hx hb dX6_endOfRun_42 rfl (lv_at hl 1 rfl) ?_
      exact ri_end0 hret h dX6_endOfRun_43 hW
    · replace h := if_f hc h
      refine lv_iload_n hx hb dX6_endOfRun_20 rfl (lv_at hl 2 rfl) ?_
      refine lv_aload_n hx hb dX6_endOfRun_21 rfl (lv_at hl 0 rfl) ?_
      refine lv_iload hx hb dX6_endOfRun_22 (lv_at hl 3 rfl) ?_
      obtain ⟨r_1, hcl, h⟩ := bind_el h
      refine call_SN1 X hW m_3_173 m_2_132 mv_X10_at (c_X10_at h0 hcl) (by decide) rfl rfl (Nat.le_of_ble_eq_true rfl) hl.1 dX6_endOfRun_24 ?_
      clear hW hcl; intro H locs hW
      obtain ⟨r_2, hcl, h⟩ := bind_el h
      refine call_S1 X hW m_3_177 m_3_178 mv_X6_goesOn (c_X6_goesOn hcl) (by decide) rfl rfl (Nat.le_of_ble_eq_true rfl) hl.1 dX6_endOfRun_27 ?_
      clear hW hcl; intro H locs hW
      refine lv_if_ne (tgt := 36) hx hb dX6_endOfRun_30 (by decide) (fun hc => ?_) (fun hc => ?_)
      · replace h := if_f hc h
        refine w_iinc (v := 1) (lv' := fun y => [(4, .int (y)), (0, .ref (gz G + (v0))), (2, .int (v2)), (3, .int (v3))]) hx hb dX6_endOfRun_36 hl (k := 3) rfl (by decide) (by decide) (fun _ => rfl) h ?_
        clear h hl; intro v4_3 h ls hl
        refine lv_goto (tgt := 14) hx hb dX6_endOfRun_39 (by decide) ?_
        exact ih v0 h0 v2 v3 v4_3 h _ _ _ hW (lv_sub hl [1, 2, 3, 0] rfl)
      · replace h := if_t hc h
        refine lv_iload hx hb dX6_endOfRun_33 (lv_at hl 3 rfl) ?_
        exact ri_end0 hret h dX6_endOfRun_35 hW
set_option maxRecDepth 20000 in
set_option maxHeartbeats 4000000 in
theorem c_X6_endOfRun {G : Gt} {l : Launch} {v0 : Nat} (h0 : kd v0 = 11) {v1 : Int32} {v2 : Int32} {σ : St} {r : Int32} (hf : pf_X6_endOfRun v0 v1 v2 σ = some r) : Ct G l yX6_endOfRun cX6_endOfRun 5 (some .int) 4 [.ref (gz G + (v0)), .int (v1), .int (v2)] σ (some (.int r)) σ := by
  refine met_i (by decide +kernel) (Nat.le_of_ble_eq_true rfl) rfl ?_
  intro p e s m args below meth c Q ls X hW hret hl
  have hx := X.1.1
  have hb := X.1.2.1
  have hl : lv_has ls 5 [(0, .ref (gz G + (v0))), (1, .int (v1)), (2, .int (v2))] := hl
  have h := hf
  clear hf
  unfold pf_X6_endOfRun at h
  refine lv_aload_n hx hb dX6_endOfRun_0 rfl (lv_at hl 0 rfl) ?_
  refine lv_iload_n hx hb dX6_endOfRun_1 rfl (lv_at hl 1 rfl) ?_
  obtain ⟨r_1, hcl, h⟩ := bind_el h
  refine call_SN1 X hW m_3_173 m_2_132 mv_X10_at (c_X10_at h0 hcl) (by decide) rfl rfl (Nat.le_of_ble_eq_true rfl) hl.1 dX6_endOfRun_2 ?_
  clear hW hcl; intro H locs hW
  obtain ⟨r_2, hcl, h⟩ := bind_el h
  refine call_S1 X hW m_3_174 m_3_175 mv_X6_kindOf (c_X6_kindOf hcl) (by decide) rfl rfl (Nat.le_of_ble_eq_true rfl) hl.1 dX6_endOfRun_5 ?_
  clear hW hcl; intro H locs hW
  refine lv_istore_n (lv' := [(3, .int (r_2)), (0, .ref (gz G + (v0))), (1, .int (v1)), (2, .int (v2))]) hx hb dX6_endOfRun_8 rfl hl (by decide) rfl ?_
  clear hl; intro ls hl
  refine lv_iload_n hx hb dX6_endOfRun_9 rfl (lv_at hl 2 rfl) ?_
  refine lv_iconst (v := 1) hx hb dX6_endOfRun_10 (by decide) ?_
  refine lv_iadd hx hb dX6_endOfRun_11 ?_
  refine nm_i h ?_
  clear h; intro v4_3 h
  refine lv_istore (lv' := [(4, .int (v4_3)), (3, .int (r_2)), (0, .ref (gz G + (v0))), (1, .int (v1)), (2, .int (v2))]) hx hb dX6_endOfRun_12 hl (by decide) rfl ?_
  clear hl; intro ls hl
  exact bl_X6_endOfRun_L14 X hret FU v0 h0 v2 r_2 v4_3 h _ _ _ hW (lv_sub hl [2, 4, 1, 0] rfl)
end
