section
variable {G : Gt} {p : Program} {l : Launch} {e : Env} {R : Room} {s : State} {m : MethodId} {args : Array Value} {below : List Frame} {meth : Method} {c : Code} {cells slots : Nat} {Q : State → Prop}
set_option maxRecDepth 20000 in
set_option maxHeartbeats 4000000 in
theorem c_X7_countEndings {G : Gt} {l : Launch} {v0 : Nat} (h0 : kd v0 = 6) {v1 : Nat} (h1 : kd v1 = 3) {σ : St} {r : Int32} (hf : pf_X7_countEndings v0 v1 σ = some r) : Ct G l yX7_countEndings cX7_countEndings 2 (some .int) 3 [.ref (gz G + (v0)), .ref (gz G + (v1))] σ (some (.int r)) σ := by
  refine met_i (by decide +kernel) (Nat.le_of_ble_eq_true rfl) rfl ?_
  intro p e s m args below meth c Q ls X hW hret hl
  have hx := X.1.1
  have hb := X.1.2.1
  have hl : lv_has ls 2 [(0, .ref (gz G + (v0))), (1, .ref (gz G + (v1)))] := hl
  have h := hf
  clear hf
  unfold pf_X7_countEndings at h
  refine lv_aload_n hx hb dX7_countEndings_0 rfl (lv_at hl 0 rfl) ?_
  refine gf_X7_reached X hW h0 m_2_40 dX7_countEndings_1 ?_
  refine lv_aload_n hx hb dX7_countEndings_4 rfl (lv_at hl 1 rfl) ?_
  refine gf_X3_goal X hW h1 m_1_82 dX7_countEndings_5 ?_
  refine lv_land hx hb dX7_countEndings_8 ?_
  obtain ⟨r_1, hcl, h⟩ := bind_el h
  refine call_S1 X hW m_5_14 m_5_15 mv_J13_bitCount_95d88 (c_J13_bitCount_95d88 hcl) (by decide) rfl rfl (Nat.le_of_ble_eq_true rfl) hl.1 dX7_countEndings_9 ?_
  clear hW hcl; intro H locs hW
  exact ri_end0 hret h dX7_countEndings_12 hW
set_option maxRecDepth 20000 in
set_option maxHeartbeats 4000000 in
theorem c_X8_see {G : Gt} {l : Launch} {v0 : Nat} (h0 : kd v0 = 7) {v1 : Int32} {v2 : Int32} {σ : St} {σ' : St} (hf : pf_X8_see v0 v1 v2 σ = some σ') : Ct G l yX8_see cX8_see 3 none 3 [.ref (gz G + (v0)), .int (v1), .int (v2)] σ none σ' := by
  refine met_v (by decide +kernel) (Nat.le_of_ble_eq_true rfl) rfl ?_
  intro p e s m args below meth c Q ls X hW hret hl
  have hx := X.1.1
  have hb := X.1.2.1
  have hl : lv_has ls 3 [(0, .ref (gz G + (v0))), (1, .int (v1)), (2, .int (v2))] := hl
  have h := hf
  clear hf
  unfold pf_X8_see at h
  refine lv_aload_n hx hb dX8_see_0 rfl (lv_at hl 0 rfl) ?_
  refine gf_X8_seen X hW h0 m_2_58 dX8_see_1 ?_
  refine lv_iconst (v := (-1)) hx hb dX8_see_4 (by decide) ?_
  refine lv_iload_n hx hb dX8_see_5 rfl (lv_at hl 1 rfl) ?_
  refine lv_isub hx hb dX8_see_6 ?_
  refine lv_iload_n hx hb dX8_see_7 rfl (lv_at hl 2 rfl) ?_
  obtain ⟨σ_1, hcl, h⟩ := bind_el h
  refine call_SN0 X hW m_4_208 m_2_189 mv_X10_put (c_X10_put (kf_X8_seen h0) hcl) (by decide) rfl rfl (Nat.le_of_ble_eq_true rfl) hl.1 dX8_see_8 ?_
  clear hW hcl; intro H locs hW
  exact rv_end hret h dX8_see_11 hW
set_option maxRecDepth 20000 in
set_option maxHeartbeats 4000000 in
theorem c_J9_max_f86c9 {G : Gt} {l : Launch} {v0 : Int64} {v2 : Int64} {σ : St} {r : Int64} (hf : pf_J9_max_f86c9 v0 v2 σ = some r) : Ct G l yJ9_max_f86c9 cJ9_max_f86c9 4 (some .long) 2 [.long (v0), .long (v2)] σ (some (.long r)) σ := by
  refine met_l (by decide +kernel) (Nat.le_of_ble_eq_true rfl) rfl ?_
  intro p e s m args below meth c Q ls X hW hret hl
  have hx := X.1.1
  have hb := X.1.2.1
  have hl : lv_has ls 4 [(0, .long (v0)), (2, .long (v2))] := hl
  have h := hf
  clear hf
  unfold pf_J9_max_f86c9 at h
  refine lv_lload_n hx hb dJ9_max_f86c9_0 rfl (lv_at hl 0 rfl) ?_
  refine lv_lload_n hx hb dJ9_max_f86c9_1 rfl (lv_at hl 1 rfl) ?_
  refine W.lcmp hx hb dJ9_max_f86c9_2 ?_
  refine lv_if_lt (tgt := 10) hx hb dJ9_max_f86c9_3 (by decide) (fun hc => ?_) (fun hc => ?_)
  · replace h := if_t (lcmp_lt.mp hc) h
    refine lv_lload_n hx hb dJ9_max_f86c9_10 rfl (lv_at hl 1 rfl) ?_
    exact rl_end0 hret h dJ9_max_f86c9_11 hW
  · replace h := if_f (fun q => hc (lcmp_lt.mpr q)) h
    refine lv_lload_n hx hb dJ9_max_f86c9_6 rfl (lv_at hl 0 rfl) ?_
    refine lv_goto (tgt := 11) hx hb dJ9_max_f86c9_7 (by decide) ?_
    exact rl_end0 hret h dJ9_max_f86c9_11 hW
set_option maxRecDepth 20000 in
set_option maxHeartbeats 4000000 in
theorem c_J9_min_f86c9 {G : Gt} {l : Launch} {v0 : Int64} {v2 : Int64} {σ : St} {r : Int64} (hf : pf_J9_min_f86c9 v0 v2 σ = some r) : Ct G l yJ9_min_f86c9 cJ9_min_f86c9 4 (some .long) 2 [.long (v0), .long (v2)] σ (some (.long r)) σ := by
  refine met_l (by decide +kernel) (Nat.le_of_ble_eq_true rfl) rfl ?_
  intro p e s m args below meth c Q ls X hW hret hl
  have hx := X.1.1
  have hb := X.1.2.1
  have hl : lv_has ls 4 [(0, .long (v0)), (2, .long (v2))] := hl
  have h := hf
  clear hf
  unfold pf_J9_min_f86c9 at h
  refine lv_lload_n hx hb dJ9_min_f86c9_0 rfl (lv_at hl 0 rfl) ?_
  refine lv_lload_n hx hb dJ9_min_f86c9_1 rfl (lv_at hl 1 rfl) ?_
  refine W.lcmp hx hb dJ9_min_f86c9_2 ?_
  refine lv_if_gt (tgt := 10) hx hb dJ9_min_f86c9_3 (by decide) (fun hc => ?_) (fun hc => ?_)
  · replace h := if_t (lcmp_gt.mp hc) h
    refine lv_lload_n hx hb dJ9_min_f86c9_10 rfl (lv_at hl 1 rfl) ?_
    exact rl_end0 hret h dJ9_min_f86c9_11 hW
  · replace h := if_f (fun q => hc (lcmp_gt.mpr q)) h
    refine lv_lload_n hx hb dJ9_min_f86c9_6 rfl (lv_at hl 0 rfl) ?_
    refine lv_goto (tgt := 11) hx hb dJ9_min_f86c9_7 (by decide) ?_
    exact rl_end0 hret h dJ9_min_f86c9_11 hW
set_option maxRecDepth 20000 in
set_option maxHeartbeats 4000000 in
theorem bl_X8_join_b59 {σ : St} (X : Cx G p R s m args c cells slots cX8_join 5 RX8 3) {r : Int32} (hret : R_I G p l e R s m args below meth c cells slots Q cX8_join r σ) :
    ∀ (v3 : Int64) (_ : pf_X8_join_b59 σ v3 = some r) (H : Heap) (locs : List Loc) (ls : Array Slot) (_ : GW G σ s H locs) (_ : lv_has ls 5 [(3, .long (v3))]), W p l e R s m args below meth c H locs cells slots Q (F0 m 59 ls []) := by
  have hx := X.1.1
  have hb := X.1.2.1
  intro v3 h H locs ls hW hl
  unfold pf_X8_join_b59 at h
  refine lv_ldc2 (v := (-1000000)) hx hb X.1.2.2.2.1 (X.1.2.2.2.2 _ m_4_238) dX8_join_59 ?_
  refine lv_ldc2 (v := 1000000) hx hb X.1.2.2.2.1 (X.1.2.2.2.2 _ m_4_239) dX8_join_62 ?_
  refine lv_lload_n hx hb dX8_join_65 rfl (lv_at hl 0 rfl) ?_
  obtain ⟨r_1, hcl, h⟩ := bind_el h
  refine call_S1 X hW m_5_0 m_5_1 mv_J9_min_f86c9 (c_J9_min_f86c9 hcl) (by decide) rfl rfl (Nat.le_of_ble_eq_true rfl) hl.1 dX8_join_66 ?_
  clear hW hcl; intro H locs hW
  obtain ⟨r_2, hcl, h⟩ := bind_el h
  refine call_S1 X hW m_5_3 m_5_4 mv_J9_max_f86c9 (c_J9_max_f86c9 hcl) (by decide) rfl rfl (Nat.le_of_ble_eq_true rfl) hl.1 dX8_join_69 ?_
  clear hW hcl; intro H locs hW
  refine lv_l2i hx hb dX8_join_72 rfl ?_
  exact ri_end0 hret h dX8_join_73 hW
set_option maxRecDepth 20000 in
set_option maxHeartbeats 4000000 in
theorem bl_X8_join_b58 {σ : St} (X : Cx G p R s m args c cells slots cX8_join 5 RX8 3) {r : Int32} (hret : R_I G p l e R s m args below meth c cells slots Q cX8_join r σ) :
    ∀ (s0 : Int64) (_ : pf_X8_join_b58 σ s0 = some r) (H : Heap) (locs : List Loc) (ls : Array Slot) (_ : GW G σ s H locs) (_ : lv_has ls 5 []), W p l e R s m args below meth c H locs cells slots Q (F0 m 58 ls [.long (s0)]) := by
  have hx := X.1.1
  have hb := X.1.2.1
  intro s0 h H locs ls hW hl
  unfold pf_X8_join_b58 at h
  refine lv_lstore_n (lv' := [(3, .long (s0))]) hx hb dX8_join_58 rfl hl (by decide) rfl ?_
  clear hl; intro ls hl
  exact bl_X8_join_b59 X hret s0 h _ _ _ hW (lv_sub hl [0] rfl)
set_option maxRecDepth 20000 in
set_option maxHeartbeats 4000000 in
theorem c_X8_join {G : Gt} {l : Launch} {v0 : Int32} {v1 : Int32} {v2 : Int32} {σ : St} {r : Int32} (hf : pf_X8_join v0 v1 v2 σ = some r) : Ct G l yX8_join cX8_join 5 (some .int) 3 [.int (v0), .int (v1), .int (v2)] σ (some (.int r)) σ := by
  refine met_i (by decide +kernel) (Nat.le_of_ble_eq_true rfl) rfl ?_
  intro p e s m args below meth c Q ls X hW hret hl
  have hx := X.1.1
  have hb := X.1.2.1
  have hl : lv_has ls 5 [(0, .int (v0)), (1, .int (v1)), (2, .int (v2))] := hl
  have h := hf
  clear hf
  unfold pf_X8_join at h
  refine lv_iload_n hx hb dX8_join_0 rfl (lv_at hl 1 rfl) ?_
  refine lv_bipush (v := (-7)) hx hb dX8_join_1 (by decide) ?_
  refine lv_icmp_ne (tgt := 15) hx hb dX8_join_3 (by decide) (fun hc => ?_) (fun hc => ?_)
  · replace h := if_f hc h
    refine lv_iload_n hx hb dX8_join_15 rfl (lv_at hl 1 rfl) ?_
    refine lv_bipush (v := (-8)) hx hb dX8_join_16 (by decide) ?_
    refine lv_icmp_ne (tgt := 30) hx hb dX8_join_18 (by decide) (fun hc => ?_) (fun hc => ?_)
    · replace h := if_f hc h
      refine lv_iload_n hx hb dX8_join_30 rfl (lv_at hl 1 rfl) ?_
      refine lv_bipush (v := (-9)) hx hb dX8_join_31 (by decide) ?_
      refine lv_icmp_ne (tgt := 45) hx hb dX8_join_33 (by decide) (fun hc => ?_) (fun hc => ?_)
      · replace h := if_f hc h
        refine lv_iload_n hx hb dX8_join_45 rfl (lv_at hl 2 rfl) ?_
        refine lv_if_ne (tgt := 53) hx hb dX8_join_46 (by decide) (fun hc => ?_) (fun hc => ?_)
        · replace h := if_f hc h
          refine lv_iload_n hx hb dX8_join_53 rfl (lv_at hl 0 rfl) ?_
          refine lv_i2l hx hb dX8_join_54 rfl ?_
          refine lv_iload_n hx hb dX8_join_55 rfl (lv_at hl 2 rfl) ?_
          refine lv_i2l hx hb dX8_join_56 rfl ?_
          obtain ⟨hn, h⟩ := ckL_el h
          refine lv_ldiv hx hb dX8_join_57 hn ?_
          exact bl_X8_join_b58 X hret (((v0).toInt64) / ((v2).toInt64)) h _ _ _ hW (lv_sub hl [] rfl)
        · replace h := if_t hc h
          refine lv_lconst (v := 0) hx hb dX8_join_49 (by decide) ?_
          refine lv_goto (tgt := 58) hx hb dX8_join_50 (by decide) ?_
          exact bl_X8_join_b58 X hret 0 h _ _ _ hW (lv_sub hl [] rfl)
      · replace h := if_t hc h
        refine lv_iload_n hx hb dX8_join_36 rfl (lv_at hl 0 rfl) ?_
        refine lv_i2l hx hb dX8_join_37 rfl ?_
        refine lv_iload_n hx hb dX8_join_38 rfl (lv_at hl 2 rfl) ?_
        refine lv_i2l hx hb dX8_join_39 rfl ?_
        refine lv_lmul hx hb dX8_join_40 ?_
        refine nm_l h ?_
        clear h; intro v3_3 h
        refine lv_lstore_n (lv' := [(3, .long (v3_3)), (0, .int (v0)), (1, .int (v1)), (2, .int (v2))]) hx hb dX8_join_41 rfl hl (by decide) rfl ?_
        clear hl; intro ls hl
        refine lv_goto (tgt := 59) hx hb dX8_join_42 (by decide) ?_
        exact bl_X8_join_b59 X hret v3_3 h _ _ _ hW (lv_sub hl [0] rfl)
    · replace h := if_t hc h
      refine lv_iload_n hx hb dX8_join_21 rfl (lv_at hl 0 rfl) ?_
      refine lv_i2l hx hb dX8_join_22 rfl ?_
      refine lv_iload_n hx hb dX8_join_23 rfl (lv_at hl 2 rfl) ?_
      refine lv_i2l hx hb dX8_join_24 rfl ?_
      refine lv_lsub hx hb dX8_join_25 ?_
      refine nm_l h ?_
      clear h; intro v3_2 h
      refine lv_lstore_n (lv' := [(3, .long (v3_2)), (0, .int (v0)), (1, .int (v1)), (2, .int (v2))]) hx hb dX8_join_26 rfl hl (by decide) rfl ?_
      clear hl; intro ls hl
      refine lv_goto (tgt := 59) hx hb dX8_join_27 (by decide) ?_
      exact bl_X8_join_b59 X hret v3_2 h _ _ _ hW (lv_sub hl [0] rfl)
  · replace h := if_t hc h
    refine lv_iload_n hx hb dX8_join_6 rfl (lv_at hl 0 rfl) ?_
    refine lv_i2l hx hb dX8_join_7 rfl ?_
    refine lv_iload_n hx hb dX8_join_8 rfl (lv_at hl 2 rfl) ?_
    refine lv_i2l hx hb dX8_join_9 rfl ?_
    refine lv_ladd hx hb dX8_join_10 ?_
    refine nm_l h ?_
    clear h; intro v3_1 h
    refine lv_lstore_n (lv' := [(3, .long (v3_1)), (0, .int (v0)), (1, .int (v1)), (2, .int (v2))]) hx hb dX8_join_11 rfl hl (by decide) rfl ?_
    clear hl; intro ls hl
    refine lv_goto (tgt := 59) hx hb dX8_join_12 (by decide) ?_
    exact bl_X8_join_b59 X hret v3_1 h _ _ _ hW (lv_sub hl [0] rfl)
set_option maxRecDepth 20000 in
set_option maxHeartbeats 4000000 in
theorem c_X8_pop {G : Gt} {l : Launch} {v0 : Nat} (h0 : kd v0 = 7) {σ : St} {r : Int32} {σ' : St} (hf : pf_X8_pop v0 σ = some (r, σ')) : Ct G l yX8_pop cX8_pop 1 (some .int) 3 [.ref (gz G + (v0))] σ (some (.int r)) σ' := by
  refine met_i (by decide +kernel) (Nat.le_of_ble_eq_true rfl) rfl ?_
  intro p e s m args below meth c Q ls X hW hret hl
  have hx := X.1.1
  have hb := X.1.2.1
  have hl : lv_has ls 1 [(0, .ref (gz G + (v0)))] := hl
  have h := hf
  clear hf
  unfold pf_X8_pop at h
  refine lv_aload_n hx hb dX8_pop_0 rfl (lv_at hl 0 rfl) ?_
  refine lv_dup hx hb dX8_pop_1 rfl ?_
  refine gf_X8_height X hW h0 m_2_57 dX8_pop_2 ?_
  refine lv_iconst (v := 1) hx hb dX8_pop_5 (by decide) ?_
  refine lv_isub hx hb dX8_pop_6 ?_
  refine sf_X8_height X hW h0 m_2_57 dX8_pop_7 ?_
  clear hW; intro H locs hW
  refine nm_s hW h ?_
  clear hW h; intro σ_1 hW h
  refine lv_aload_n hx hb dX8_pop_10 rfl (lv_at hl 0 rfl) ?_
  refine gf_X8_stack X hW h0 m_2_56 dX8_pop_11 ?_
  refine lv_aload_n hx hb dX8_pop_14 rfl (lv_at hl 0 rfl) ?_
  refine gf_X8_height X hW h0 m_2_57 dX8_pop_15 ?_
  obtain ⟨r_2, hcl, h⟩ := bind_el h
  refine call_SN1 X hW m_4_226 m_2_178 mv_X10_at (c_X10_at (kf_X8_stack h0) hcl) (by decide) rfl rfl (Nat.le_of_ble_eq_true rfl) hl.1 dX8_pop_18 ?_
  clear hW hcl; intro H locs hW
  exact ri_end hret h dX8_pop_21 hW
set_option maxRecDepth 20000 in
set_option maxHeartbeats 4000000 in
theorem c_X8_push {G : Gt} {l : Launch} {v0 : Nat} (h0 : kd v0 = 7) {v1 : Int32} {σ : St} {σ' : St} (hf : pf_X8_push v0 v1 σ = some σ') : Ct G l yX8_push cX8_push 2 none 3 [.ref (gz G + (v0)), .int (v1)] σ none σ' := by
  refine met_v (by decide +kernel) (Nat.le_of_ble_eq_true rfl) rfl ?_
  intro p e s m args below meth c Q ls X hW hret hl
  have hx := X.1.1
  have hb := X.1.2.1
  have hl : lv_has ls 2 [(0, .ref (gz G + (v0))), (1, .int (v1))] := hl
  have h := hf
  clear hf
  unfold pf_X8_push at h
  refine lv_aload_n hx hb dX8_push_0 rfl (lv_at hl 0 rfl) ?_
  refine gf_X8_stack X hW h0 m_2_56 dX8_push_1 ?_
  refine lv_aload_n hx hb dX8_push_4 rfl (lv_at hl 0 rfl) ?_
  refine gf_X8_height X hW h0 m_2_57 dX8_push_5 ?_
  refine lv_iload_n hx hb dX8_push_8 rfl (lv_at hl 1 rfl) ?_
  obtain ⟨σ_1, hcl, h⟩ := bind_el h
  refine call_SN0 X hW m_4_208 m_2_189 mv_X10_put (c_X10_put (kf_X8_stack h0) hcl) (by decide) rfl rfl (Nat.le_of_ble_eq_true rfl) hl.1 dX8_push_9 ?_
  clear hW hcl; intro H locs hW
  refine lv_aload_n hx hb dX8_push_12 rfl (lv_at hl 0 rfl) ?_
  refine lv_dup hx hb dX8_push_13 rfl ?_
  refine gf_X8_height X hW h0 m_2_57 dX8_push_14 ?_
  refine lv_iconst (v := 1) hx hb dX8_push_17 (by decide) ?_
  refine lv_iadd hx hb dX8_push_18 ?_
  refine sf_X8_height X hW h0 m_2_57 dX8_push_19 ?_
  clear hW; intro H locs hW
  refine nm_s hW h ?_
  clear hW h; intro σ_2 hW h
  exact rv_end hret h dX8_push_22 hW
set_option maxRecDepth 20000 in
set_option maxHeartbeats 4000000 in
theorem bl_X8_measure_b83 (X : Cx G p R s m args c cells slots cX8_measure 7 RX8 4) {r : Int32} {σ' : St} (hret : R_I G p l e R s m args below meth c cells slots Q cX8_measure r σ') {k7 : Nat → Nat → Int32 → Int32 → St → (Option (Int32 × St))}
    (hk7 : ∀ (v0 : Nat) (h0 : kd v0 = 7) (v1 : Nat) (h1 : kd v1 = 11) (v2 : Int32) (v3 : Int32) (σ : St) (_ : k7 v0 v1 v2 v3 σ = some (r, σ')) (H : Heap) (locs : List Loc) (ls : Array Slot) (_ : GW G σ s H locs) (_ : lv_has ls 7 [(0, .ref (gz G + (v0))), (1, .ref (gz G + (v1))), (2, .int (v2)), (3, .int (v3))]), W p l e R s m args below meth c H locs cells slots Q (F0 m 7 ls [])) :
    ∀ (v0 : Nat) (h0 : kd v0 = 7) (v1 : Nat) (h1 : kd v1 = 11) (v2 : Int32) (v3 : Int32) (σ : St) (_ : pf_X8_measure_b83 k7 v0 v1 v2 v3 σ = some (r, σ')) (H : Heap) (locs : List Loc) (ls : Array Slot) (_ : GW G σ s H locs) (_ : lv_has ls 7 [(0, .ref (gz G + (v0))), (1, .ref (gz G + (v1))), (2, .int (v2)), (3, .int (v3))]), W p l e R s m args below meth c H locs cells slots Q (F0 m 83 ls []) := by
  have hx := X.1.1
  have hb := X.1.2.1
  intro v0 h0 v1 h1 v2 v3 σ h H locs ls hW hl
  unfold pf_X8_measure_b83 at h
  refine w_iinc (v := 1) (lv' := fun y => [(3, .int (y)), (0, .ref (gz G + (v0))), (1, .ref (gz G + (v1))), (2, .int (v2))]) hx hb dX8_measure_83 hl (k := 3) rfl (by decide) (by decide) (fun _ => rfl) h ?_
  clear h hl; intro v3_1 h ls hl
  refine lv_goto (tgt := 7) hx hb dX8_measure_86 (by decide) ?_
  exact hk7 v0 h0 v1 h1 v2 v3_1 σ h _ _ _ hW (lv_sub hl [1, 2, 3, 0] rfl)
set_option maxRecDepth 20000 in
set_option maxHeartbeats 4000000 in
theorem bl_X8_measure_b89 (X : Cx G p R s m args c cells slots cX8_measure 7 RX8 4) {r : Int32} {σ' : St} (hret : R_I G p l e R s m args below meth c cells slots Q cX8_measure r σ') :
    ∀ (v0 : Nat) (h0 : kd v0 = 7) (σ : St) (_ : pf_X8_measure_b89 v0 σ = some (r, σ')) (H : Heap) (locs : List Loc) (ls : Array Slot) (_ : GW G σ s H locs) (_ : lv_has ls 7 [(0, .ref (gz G + (v0)))]), W p l e R s m args below meth c H locs cells slots Q (F0 m 89 ls []) := by
  have hx := X.1.1
  have hb := X.1.2.1
  intro v0 h0 σ h H locs ls hW hl
  unfold pf_X8_measure_b89 at h
  refine lv_aload_n hx hb dX8_measure_89 rfl (lv_at hl 0 rfl) ?_
  obtain ⟨r_1, σ_1, hcl, h⟩ := bnd2_el h
  refine call_V1 X hW (kC_X8 h0) m_4_231 m_4_233 m_0_13 mv_X8_pop (c_X8_pop h0 hcl) (by decide) rfl rfl (Nat.le_of_ble_eq_true rfl) hl.1 dX8_measure_90 ?_
  clear hW hcl; intro H locs hW
  exact ri_end hret h dX8_measure_93 hW
set_option maxRecDepth 20000 in
set_option maxHeartbeats 4000000 in
theorem bl_X8_measure_L7 (X : Cx G p R s m args c cells slots cX8_measure 7 RX8 4) {r : Int32} {σ' : St} (hret : R_I G p l e R s m args below meth c cells slots Q cX8_measure r σ') {k89 : Nat → St → (Option (Int32 × St))}
    (hk89 : ∀ (v0 : Nat) (h0 : kd v0 = 7) (σ : St) (_ : k89 v0 σ = some (r, σ')) (H : Heap) (locs : List Loc) (ls : Array Slot) (_ : GW G σ s H locs) (_ : lv_has ls 7 [(0, .ref (gz G + (v0)))]), W p l e R s m args below meth c H locs cells slots Q (F0 m 89 ls [])) :
    ∀ (n : Nat), ∀ (v0 : Nat) (h0 : kd v0 = 7) (v1 : Nat) (h1 : kd v1 = 11) (v2 : Int32) (v3 : Int32) (σ : St) (_ : pf_X8_measure_L7 k89 n v0 v1 v2 v3 σ = some (r, σ')) (H : Heap) (locs : List Loc) (ls : Array Slot) (_ : GW G σ s H locs) (_ : lv_has ls 7 [(0, .ref (gz G + (v0))), (1, .ref (gz G + (v1))), (2, .int (v2)), (3, .int (v3))]), W p l e R s m args below meth c H locs cells slots Q (F0 m 7 ls []) := by
  have hx := X.1.1
  have hb := X.1.2.1
  intro n
  induction n with
  | zero => intro v0 h0 v1 h1 v2 v3 σ h H locs ls hW hl; cases h
  | succ n ih =>
    intro v0 h0 v1 h1 v2 v3 σ h H locs ls hW hl
    rw [pf_X8_measure_L7.eq_2] at h
    refine lv_iload_n hx hb dX8_measure_7 rfl (lv_at hl 3 rfl) ?_
    refine lv_iload_n hx hb dX8_measure_8 rfl (lv_at hl 2 rfl) ?_
    refine lv_icmp_ge (tgt := 89) hx hb dX8_measure_9 (by decide) (fun hc => ?_) (fun hc => ?_)
    · replace h := if_t hc h
      exact hk89 v0 h0 σ h _ _ _ hW (lv_sub hl [0] rfl)
    · replace h := if_f hc h
      refine lv_aload_n hx hb dX8_measure_12 rfl (lv_at hl 1 rfl) ?_
      refine lv_iload_n hx hb dX8_measure_13 rfl (lv_at hl 3 rfl) ?_
      obtain ⟨r_1, hcl, h⟩ := bind_el h
      refine call_SN1 X hW m_4_226 m_2_178 mv_X10_at (c_X10_at h1 hcl) (by decide) rfl rfl (Nat.le_of_ble_eq_true rfl) hl.1 dX8_measure_14 ?_
      clear hW hcl; intro H locs hW
      refine lv_istore (lv' := [(4, .int (r_1)), (0, .ref (gz G + (v0))), (1, .ref (gz G + (v1))), (2, .int (v2)), (3, .int (v3))]) hx hb dX8_measure_17 hl (by decide) rfl ?_
      clear hl; intro ls hl
      refine lv_iload hx hb dX8_measure_19 (lv_at hl 0 rfl) ?_
      refine lv_if_lt (tgt := 33) hx hb dX8_measure_21 (by decide) (fun hc => ?_) (fun hc => ?_)
      · replace h := if_t hc h
        refine lv_iload hx hb dX8_measure_33 (lv_at hl 0 rfl) ?_
        refine lv_bipush (v := (-6)) hx hb dX8_measure_35 (by decide) ?_
        refine lv_icmp_lt (tgt := 58) hx hb dX8_measure_37 (by decide) (fun hc => ?_) (fun hc => ?_)
        · replace h := if_t hc h
          refine lv_aload_n hx hb dX8_measure_58 rfl (lv_at hl 1 rfl) ?_
          obtain ⟨r_2, σ_2, hcl, h⟩ := bnd2_el h
          refine call_V1 X hW (kC_X8 h0) m_4_231 m_4_233 m_0_13 mv_X8_pop (c_X8_pop h0 hcl) (by decide) rfl rfl (Nat.le_of_ble_eq_true rfl) hl.1 dX8_measure_59 ?_
          clear hW hcl; intro H locs hW
          refine lv_istore (lv' := [(5, .int (r_2)), (4, .int (r_1)), (0, .ref (gz G + (v0))), (1, .ref (gz G + (v1))), (2, .int (v2)), (3, .int (v3))]) hx hb dX8_measure_62 hl (by decide) rfl ?_
          clear hl; intro ls hl
          refine lv_aload_n hx hb dX8_measure_64 rfl (lv_at hl 2 rfl) ?_
          obtain ⟨r_3, σ_3, hcl, h⟩ := bnd2_el h
          refine call_V1 X hW (kC_X8 h0) m_4_231 m_4_233 m_0_13 mv_X8_pop (c_X8_pop h0 hcl) (by decide) rfl rfl (Nat.le_of_ble_eq_true rfl) hl.1 dX8_measure_65 ?_
          clear hW hcl; intro H locs hW
          refine lv_istore (lv' := [(6, .int (r_3)), (5, .int (r_2)), (4, .int (r_1)), (0, .ref (gz G + (v0))), (1, .ref (gz G + (v1))), (2, .int (v2)), (3, .int (v3))]) hx hb dX8_measure_68 hl (by decide) rfl ?_
          clear hl; intro ls hl
          refine lv_aload_n hx hb dX8_measure_70 rfl (lv_at hl 3 rfl) ?_
          refine lv_iload hx hb dX8_measure_71 (lv_at hl 0 rfl) ?_
          refine lv_iload hx hb dX8_measure_73 (lv_at hl 2 rfl) ?_
          refine lv_iload hx hb dX8_measure_75 (lv_at hl 1 rfl) ?_
          obtain ⟨r_4, hcl, h⟩ := bind_el h
          refine call_S1 X hW m_4_235 m_4_236 mv_X8_join (c_X8_join hcl) (by decide) rfl rfl (Nat.le_of_ble_eq_true rfl) hl.1 dX8_measure_77 ?_
          clear hW hcl; intro H locs hW
          obtain ⟨σ_5, hcl, h⟩ := bind_el h
          refine call_V0 X hW (kC_X8 h0) m_4_227 m_4_229 m_0_12 mv_X8_push (c_X8_push h0 hcl) (by decide) rfl rfl (Nat.le_of_ble_eq_true rfl) hl.1 dX8_measure_80 ?_
          clear hW hcl; intro H locs hW
          exact bl_X8_measure_b83 X hret ih v0 h0 v1 h1 v2 v3 σ_5 h _ _ _ hW (lv_sub hl [3, 4, 5, 6] rfl)
        · replace h := if_f hc h
          refine lv_aload_n hx hb dX8_measure_40 rfl (lv_at hl 1 rfl) ?_
          refine lv_aload_n hx hb dX8_measure_41 rfl (lv_at hl 1 rfl) ?_
          refine gf_X8_seen X hW h0 m_2_58 dX8_measure_42 ?_
          refine lv_iconst (v := (-1)) hx hb dX8_measure_45 (by decide) ?_
          refine lv_iload hx hb dX8_measure_46 (lv_at hl 0 rfl) ?_
          refine lv_isub hx hb dX8_measure_48 ?_
          obtain ⟨r_6, hcl, h⟩ := bind_el h
          refine call_SN1 X hW m_4_226 m_2_178 mv_X10_at (c_X10_at (kf_X8_seen h0) hcl) (by decide) rfl rfl (Nat.le_of_ble_eq_true rfl) hl.1 dX8_measure_49 ?_
          clear hW hcl; intro H locs hW
          obtain ⟨σ_7, hcl, h⟩ := bind_el h
          refine call_V0 X hW (kC_X8 h0) m_4_227 m_4_229 m_0_12 mv_X8_push (c_X8_push h0 hcl) (by decide) rfl rfl (Nat.le_of_ble_eq_true rfl) hl.1 dX8_measure_52 ?_
          clear hW hcl; intro H locs hW
          refine lv_goto (tgt := 83) hx hb dX8_measure_55 (by decide) ?_
          exact bl_X8_measure_b83 X hret ih v0 h0 v1 h1 v2 v3 σ_7 h _ _ _ hW (lv_sub hl [1, 2, 3, 4] rfl)
      · replace h := if_f hc h
        refine lv_aload_n hx hb dX8_measure_24 rfl (lv_at hl 1 rfl) ?_
        refine lv_iload hx hb dX8_measure_25 (lv_at hl 0 rfl) ?_
        obtain ⟨σ_8, hcl, h⟩ := bind_el h
        refine call_V0 X hW (kC_X8 h0) m_4_227 m_4_229 m_0_12 mv_X8_push (c_X8_push h0 hcl) (by decide) rfl rfl (Nat.le_of_ble_eq_true rfl) hl.1 dX8_measure_27 ?_
        clear hW hcl; intro H locs hW
        refine lv_goto (tgt := 83) hx hb dX8_measure_30 (by decide) ?_
        exact bl_X8_measure_b83 X hret ih v0 h0 v1 h1 v2 v3 σ_8 h _ _ _ hW (lv_sub hl [1, 2, 3, 4] rfl)
set_option maxRecDepth 20000 in
set_option maxHeartbeats 4000000 in
theorem c_X8_measure {G : Gt} {l : Launch} {v0 : Nat} (h0 : kd v0 = 7) {v1 : Nat} (h1 : kd v1 = 11) {v2 : Int32} {σ : St} {r : Int32} {σ' : St} (hf : pf_X8_measure v0 v1 v2 σ = some (r, σ')) : Ct G l yX8_measure cX8_measure 7 (some .int) 4 [.ref (gz G + (v0)), .ref (gz G + (v1)), .int (v2)] σ (some (.int r)) σ' := by
  refine met_i (by decide +kernel) (Nat.le_of_ble_eq_true rfl) rfl ?_
  intro p e s m args below meth c Q ls X hW hret hl
  have hx := X.1.1
  have hb := X.1.2.1
  have hl : lv_has ls 7 [(0, .ref (gz G + (v0))), (1, .ref (gz G + (v1))), (2, .int (v2))] := hl
  have h := hf
  clear hf
  unfold pf_X8_measure at h
  refine lv_aload_n hx hb dX8_measure_0 rfl (lv_at hl 0 rfl) ?_
  refine lv_iconst (v := 0) hx hb dX8_measure_1 (by decide) ?_
  refine sf_X8_height X hW h0 m_2_57 dX8_measure_2 ?_
  clear hW; intro H locs hW
  refine nm_s hW h ?_
  clear hW h; intro σ_1 hW h
  refine lv_iconst (v := 0) hx hb dX8_measure_5 (by decide) ?_
  refine lv_istore_n (lv' := [(3, .int (0)), (0, .ref (gz G + (v0))), (1, .ref (gz G + (v1))), (2, .int (v2))]) hx hb dX8_measure_6 rfl hl (by decide) rfl ?_
  clear hl; intro ls hl
  exact bl_X8_measure_L7 X hret (bl_X8_measure_b89 X hret) FU v0 h0 v1 h1 v2 0 σ_1 h _ _ _ hW (lv_sub hl [1, 2, 3, 0] rfl)
set_option maxRecDepth 20000 in
set_option maxHeartbeats 4000000 in
theorem bl_X10_appendWord_L3 (X : Cx G p R s m args c cells slots cX10_appendWord 3 RX10 3) {σ' : St} (hret : R_V G p l e R s m args below meth c cells slots Q cX10_appendWord σ') :
    ∀ (n : Nat), ∀ (v0 : Nat) (h0 : kd v0 = 9) (v1 : Int32) (v2 : Int32) (σ : St) (_ : pf_X10_appendWord_L3 n v0 v1 v2 σ = some σ') (H : Heap) (locs : List Loc) (ls : Array Slot) (_ : GW G σ s H locs) (_ : lv_has ls 3 [(0, .ref (gz G + (v0))), (1, .int (v1)), (2, .int (v2))]), W p l e R s m args below meth c H locs cells slots Q (F0 m 3 ls []) := by
  have hx := X.1.1
  have hb := X.1.2.1
  intro n
  induction n with
  | zero => intro v0 h0 v1 v2 σ h H locs ls hW hl; cases h
  | succ n ih =>
    intro v0 h0 v1 v2 σ h H locs ls hW hl
    rw [pf_X10_appendWord_L3.eq_2] at h
    refine lv_iload_n hx hb dX10_appendWord_3 rfl (lv_at hl 2 rfl) ?_
    refine lv_if_lt (tgt := 41) hx hb dX10_appendWord_4 (by decide) (fun hc => ?_) (fun hc => ?_)
    · replace h := if_t hc h
      exact rv_end hret h dX10_appendWord_41 hW
    · replace h := if_f hc h
      refine lv_aload_n hx hb dX10_appendWord_7 rfl (lv_at hl 0 rfl) ?_
      refine gf_X10_buffer X hW h0 m_2_66 dX10_appendWord_8 ?_
      refine lv_aload_n hx hb dX10_appendWord_11 rfl (lv_at hl 0 rfl) ?_
      refine gf_X10_bufferLength X hW h0 m_2_67 dX10_appendWord_12 ?_
      refine lv_iload_n hx hb dX10_appendWord_15 rfl (lv_at hl 1 rfl) ?_
      refine lv_iload_n hx hb dX10_appendWord_16 rfl (lv_at hl 2 rfl) ?_
      refine w_iushr hx hb dX10_appendWord_17 ?_
      refine lv_sipush (v := 255) hx hb dX10_appendWord_18 (by decide) ?_
      refine lv_iand hx hb dX10_appendWord_21 ?_
      obtain ⟨σ_1, hcl, h⟩ := bind_el h
      refine call_S0 X hW m_5_177 m_2_189 mv_X10_put (c_X10_put (kf_X10_buffer h0) hcl) (by decide) rfl rfl (Nat.le_of_ble_eq_true rfl) hl.1 dX10_appendWord_22 ?_
      clear hW hcl; intro H locs hW
      refine lv_aload_n hx hb dX10_appendWord_25 rfl (lv_at hl 0 rfl) ?_
      refine lv_dup hx hb dX10_appendWord_26 rfl ?_
      refine gf_X10_bufferLength X hW h0 m_2_67 dX10_appendWord_27 ?_
      refine lv_iconst (v := 1) hx hb dX10_appendWord_30 (by decide) ?_
      refine lv_iadd hx hb dX10_appendWord_31 ?_
      refine sf_X10_bufferLength X hW h0 m_2_67 dX10_appendWord_32 ?_
      clear hW; intro H locs hW
      refine nm_s hW h ?_
      clear hW h; intro σ_2 hW h
      refine w_iinc (v := (-8)) (lv' := fun y => [(2, .int (y)), (0, .ref (gz G + (v0))), (1, .int (v1))]) hx hb dX10_appendWord_35 hl (k := 2) rfl (by decide) (by decide) (fun _ => rfl) h ?_
      clear h hl; intro v2_3 h ls hl
      refine lv_goto (tgt := 3) hx hb dX10_appendWord_38 (by decide) ?_
      exact ih v0 h0 v1 v2_3 σ_2 h _ _ _ hW (lv_sub hl [1, 2, 0] rfl)
set_option maxRecDepth 20000 in
set_option maxHeartbeats 4000000 in
theorem c_X10_appendWord {G : Gt} {l : Launch} {v0 : Nat} (h0 : kd v0 = 9) {v1 : Int32} {σ : St} {σ' : St} (hf : pf_X10_appendWord v0 v1 σ = some σ') : Ct G l yX10_appendWord cX10_appendWord 3 none 3 [.ref (gz G + (v0)), .int (v1)] σ none σ' := by
  refine met_v (by decide +kernel) (Nat.le_of_ble_eq_true rfl) rfl ?_
  intro p e s m args below meth c Q ls X hW hret hl
  have hx := X.1.1
  have hb := X.1.2.1
  have hl : lv_has ls 3 [(0, .ref (gz G + (v0))), (1, .int (v1))] := hl
  have h := hf
  clear hf
  unfold pf_X10_appendWord at h
  refine lv_bipush (v := 24) hx hb dX10_appendWord_0 (by decide) ?_
  refine lv_istore_n (lv' := [(2, .int (24)), (0, .ref (gz G + (v0))), (1, .int (v1))]) hx hb dX10_appendWord_2 rfl hl (by decide) rfl ?_
  clear hl; intro ls hl
  exact bl_X10_appendWord_L3 X hret FU v0 h0 v1 24 σ h _ _ _ hW (lv_sub hl [1, 2, 0] rfl)
set_option maxRecDepth 20000 in
set_option maxHeartbeats 4000000 in
theorem c_X10_append {G : Gt} {l : Launch} {v0 : Nat} (h0 : kd v0 = 9) {v1 : Int32} {v2 : Int32} {v3 : Int32} {v4 : Int32} {v5 : Int32} {σ : St} {r : Int32} {σ' : St} (hf : pf_X10_append v0 v1 v2 v3 v4 v5 σ = some (r, σ')) : Ct G l yX10_append cX10_append 6 (some .int) 4 [.ref (gz G + (v0)), .int (v1), .int (v2), .int (v3), .int (v4), .int (v5)] σ (some (.int r)) σ' := by
  refine met_i (by decide +kernel) (Nat.le_of_ble_eq_true rfl) rfl ?_
  intro p e s m args below meth c Q ls X hW hret hl
  have hx := X.1.1
  have hb := X.1.2.1
  have hl : lv_has ls 6 [(0, .ref (gz G + (v0))), (1, .int (v1)), (2, .int (v2)), (3, .int (v3)), (4, .int (v4)), (5, .int (v5))] := hl
  have h := hf
  clear hf
  unfold pf_X10_append at h
  refine lv_aload_n hx hb dX10_append_0 rfl (lv_at hl 0 rfl) ?_
  refine gf_X10_bufferLength X hW h0 m_2_67 dX10_append_1 ?_
  refine lv_bipush (v := 20) hx hb dX10_append_4 (by decide) ?_
  refine lv_iadd hx hb dX10_append_6 ?_
  refine lv_sipush (v := 800) hx hb dX10_append_7 (by decide) ?_
  refine lv_icmp_le (tgt := 15) hx hb dX10_append_10 (by decide) (fun hc => ?_) (fun hc => ?_)
  · replace h := if_t hc h
    refine lv_aload_n hx hb dX10_append_15 rfl (lv_at hl 0 rfl) ?_
    refine lv_iload_n hx hb dX10_append_16 rfl (lv_at hl 1 rfl) ?_
    obtain ⟨σ_1, hcl, h⟩ := bind_el h
    refine call_V0 X hW (kC_X10 h0) m_5_173 m_5_175 m_0_15 mv_X10_appendWord (c_X10_appendWord h0 hcl) (by decide) rfl rfl (Nat.le_of_ble_eq_true rfl) hl.1 dX10_append_17 ?_
    clear hW hcl; intro H locs hW
    refine lv_aload_n hx hb dX10_append_20 rfl (lv_at hl 0 rfl) ?_
    refine lv_iload_n hx hb dX10_append_21 rfl (lv_at hl 2 rfl) ?_
    obtain ⟨σ_2, hcl, h⟩ := bind_el h
    refine call_V0 X hW (kC_X10 h0) m_5_173 m_5_175 m_0_15 mv_X10_appendWord (c_X10_appendWord h0 hcl) (by decide) rfl rfl (Nat.le_of_ble_eq_true rfl) hl.1 dX10_append_22 ?_
    clear hW hcl; intro H locs hW
    refine lv_aload_n hx hb dX10_append_25 rfl (lv_at hl 0 rfl) ?_
    refine lv_iload_n hx hb dX10_append_26 rfl (lv_at hl 3 rfl) ?_
    obtain ⟨σ_3, hcl, h⟩ := bind_el h
    refine call_V0 X hW (kC_X10 h0) m_5_173 m_5_175 m_0_15 mv_X10_appendWord (c_X10_appendWord h0 hcl) (by decide) rfl rfl (Nat.le_of_ble_eq_true rfl) hl.1 dX10_append_27 ?_
    clear hW hcl; intro H locs hW
    refine lv_aload_n hx hb dX10_append_30 rfl (lv_at hl 0 rfl) ?_
    refine lv_iload hx hb dX10_append_31 (lv_at hl 4 rfl) ?_
    obtain ⟨σ_4, hcl, h⟩ := bind_el h
    refine call_V0 X hW (kC_X10 h0) m_5_173 m_5_175 m_0_15 mv_X10_appendWord (c_X10_appendWord h0 hcl) (by decide) rfl rfl (Nat.le_of_ble_eq_true rfl) hl.1 dX10_append_33 ?_
    clear hW hcl; intro H locs hW
    refine lv_aload_n hx hb dX10_append_36 rfl (lv_at hl 0 rfl) ?_
    refine lv_iload hx hb dX10_append_37 (lv_at hl 5 rfl) ?_
    obtain ⟨σ_5, hcl, h⟩ := bind_el h
    refine call_V0 X hW (kC_X10 h0) m_5_173 m_5_175 m_0_15 mv_X10_appendWord (c_X10_appendWord h0 hcl) (by decide) rfl rfl (Nat.le_of_ble_eq_true rfl) hl.1 dX10_append_39 ?_
    clear hW hcl; intro H locs hW
    refine lv_aload_n hx hb dX10_append_42 rfl (lv_at hl 0 rfl) ?_
    refine gf_X10_bufferLength X hW h0 m_2_67 dX10_append_43 ?_
    exact ri_end hret h dX10_append_46 hW
  · replace h := if_f hc h
    refine lv_iconst (v := (-1)) hx hb dX10_append_13 (by decide) ?_
    exact ri_end hret h dX10_append_14 hW
set_option maxRecDepth 20000 in
set_option maxHeartbeats 4000000 in
theorem bl_X10_load_b12 (X : Cx G p R s m args c cells slots cX10_load 3 RX10 31) {r : Int32} {σ' : St} (hret : R_I G p l e R s m args below meth c cells slots Q cX10_load r σ') :
    ∀ (σ : St) (_ : pf_X10_load_b12 σ = some (.inr r, σ')) (H : Heap) (locs : List Loc) (ls : Array Slot) (_ : GW G σ s H locs) (_ : lv_has ls 3 []), W p l e R s m args below meth c H locs cells slots Q (F0 m 12 ls []) := by
  have hx := X.1.1
  have hb := X.1.2.1
  intro σ h H locs ls hW hl
  unfold pf_X10_load_b12 at h
  cases h
set_option maxRecDepth 20000 in
set_option maxHeartbeats 4000000 in
theorem c_X10_load {G : Gt} {l : Launch} {v0 : Nat} (h0 : kd v0 = 9) {v1 : Int32} {σ : St} {r : Int32} {σ' : St} (hf : pf_X10_load v0 v1 σ = some (.inr r, σ')) : Ct G l yX10_load cX10_load 3 (some .int) 31 [.ref (gz G + (v0)), .int (v1)] σ (some (.int r)) σ' := by
  refine met_i (by decide +kernel) (Nat.le_of_ble_eq_true rfl) rfl ?_
  intro p e s m args below meth c Q ls X hW hret hl
  have hx := X.1.1
  have hb := X.1.2.1
  have hl : lv_has ls 3 [(0, .ref (gz G + (v0))), (1, .int (v1))] := hl
  have h := hf
  clear hf
  unfold pf_X10_load at h
  refine lv_iload_n hx hb dX10_load_0 rfl (lv_at hl 1 rfl) ?_
  refine lv_if_lt (tgt := 12) hx hb dX10_load_1 (by decide) (fun hc => ?_) (fun hc => ?_)
  · replace h := if_t hc h
    exact bl_X10_load_b12 X hret σ h _ _ _ hW (lv_sub hl [] rfl)
  · replace h := if_f hc h
    refine lv_iload_n hx hb dX10_load_4 rfl (lv_at hl 1 rfl) ?_
    refine lv_aload_n hx hb dX10_load_5 rfl (lv_at hl 0 rfl) ?_
    refine gf_X10_bufferLength X hW h0 m_2_67 dX10_load_6 ?_
    refine lv_icmp_le (tgt := 20) hx hb dX10_load_9 (by decide) (fun hc => ?_) (fun hc => ?_)
    · replace h := if_t hc h
      refine lv_aload_n hx hb dX10_load_20 rfl (lv_at hl 0 rfl) ?_
      refine lv_iconst (v := 0) hx hb dX10_load_21 (by decide) ?_
      refine sf_X10_bufferLength X hW h0 m_2_67 dX10_load_22 ?_
      clear hW; intro H locs hW
      refine nm_s hW h ?_
      clear hW h; intro σ_1 hW h
      refine lv_aload_n hx hb dX10_load_25 rfl (lv_at hl 0 rfl) ?_
      refine gf_X10_reader X hW h0 m_2_72 dX10_load_26 ?_
      refine lv_aload_n hx hb dX10_load_29 rfl (lv_at hl 0 rfl) ?_
      refine gf_X10_buffer X hW h0 m_2_66 dX10_load_30 ?_
      refine lv_iload_n hx hb dX10_load_33 rfl (lv_at hl 1 rfl) ?_
      refine lv_aload_n hx hb dX10_load_34 rfl (lv_at hl 0 rfl) ?_
      refine gf_X10_draft X hW h0 m_2_70 dX10_load_35 ?_
      obtain ⟨r_2, σ_2, hcl, h⟩ := bnd2_el h
      refine call_V1 X hW (kC_X4 (kf_X10_reader h0)) m_5_182 m_5_183 m_5_184 mv_X4_read (c_X4_read (kf_X10_reader h0) (kf_X10_buffer h0) (kf_X10_draft h0) hcl) (by decide) rfl rfl (Nat.le_of_ble_eq_true rfl) hl.1 dX10_load_38 ?_
      clear hW hcl; intro H locs hW
      refine lv_istore_n (lv' := [(2, .int (r_2)), (0, .ref (gz G + (v0))), (1, .int (v1))]) hx hb dX10_load_41 rfl hl (by decide) rfl ?_
      clear hl; intro ls hl
      refine lv_aload_n hx hb dX10_load_42 rfl (lv_at hl 1 rfl) ?_
      refine lv_aload_n hx hb dX10_load_43 rfl (lv_at hl 1 rfl) ?_
      refine gf_X10_reader X hW h0 m_2_72 dX10_load_44 ?_
      obtain ⟨r_3, hcl, h⟩ := bind_el h
      refine call_V1 X hW (kC_X4 (kf_X10_reader h0)) m_6_201 m_6_202 m_6_203 mv_X4_offsetOfError (c_X4_offsetOfError (kf_X10_reader h0) hcl) (by decide) rfl rfl (Nat.le_of_ble_eq_true rfl) hl.1 dX10_load_47 ?_
      clear hW hcl; intro H locs hW
      refine sf_X10_latestErrorOffset X hW h0 m_2_68 dX10_load_50 ?_
      clear hW; intro H locs hW
      refine nm_s hW h ?_
      clear hW h; intro σ_4 hW h
      refine lv_iload_n hx hb dX10_load_53 rfl (lv_at hl 0 rfl) ?_
      refine lv_if_eq (tgt := 59) hx hb dX10_load_54 (by decide) (fun hc => ?_) (fun hc => ?_)
      · replace h := if_t hc h
        refine lv_aload_n hx hb dX10_load_59 rfl (lv_at hl 1 rfl) ?_
        refine gf_X10_history X hW h0 m_2_71 dX10_load_60 ?_
        refine lv_aload_n hx hb dX10_load_63 rfl (lv_at hl 1 rfl) ?_
        refine gf_X10_now X hW h0 m_2_69 dX10_load_64 ?_
        obtain ⟨σ_5, hcl, h⟩ := bind_el h
        refine call_V0 X hW (kC_X1 (kf_X10_history h0)) m_3_8 m_3_9 m_3_10 mv_X1_remember (c_X1_remember (kf_X10_history h0) (kf_X10_now h0) hcl) (by decide) rfl rfl (Nat.le_of_ble_eq_true rfl) hl.1 dX10_load_67 ?_
        clear hW hcl; intro H locs hW
        refine lv_aload_n hx hb dX10_load_70 rfl (lv_at hl 1 rfl) ?_
        refine gf_X10_now X hW h0 m_2_69 dX10_load_71 ?_
        refine lv_aload_n hx hb dX10_load_74 rfl (lv_at hl 1 rfl) ?_
        refine gf_X10_draft X hW h0 m_2_70 dX10_load_75 ?_
        obtain ⟨σ_6, hcl, h⟩ := bind_el h
        refine call_V0 X hW (kC_X2 (kf_X10_now h0)) m_6_205 m_3_13 m_3_14 mv_X2_copyFrom (c_X2_copyFrom (kf_X10_now h0) (kf_X10_draft h0) hcl) (by decide) rfl rfl (Nat.le_of_ble_eq_true rfl) hl.1 dX10_load_78 ?_
        clear hW hcl; intro H locs hW
        refine lv_aload_n hx hb dX10_load_81 rfl (lv_at hl 1 rfl) ?_
        refine gf_X10_now X hW h0 m_2_69 dX10_load_82 ?_
        refine gf_X2_questCount X hW (kf_X10_now h0) m_1_153 dX10_load_85 ?_
        replace h := xr_el h
        exact ri_end hret h dX10_load_88 hW
      · replace h := if_f hc h
        refine lv_iload_n hx hb dX10_load_57 rfl (lv_at hl 0 rfl) ?_
        replace h := xr_el h
        exact ri_end hret h dX10_load_58 hW
    · replace h := if_f hc h
      exact bl_X10_load_b12 X hret σ h _ _ _ hW (lv_sub hl [] rfl)
set_option maxRecDepth 20000 in
set_option maxHeartbeats 4000000 in
theorem xl_X10_load_b12 (X : Cx G p R s m args c cells slots cX10_load 3 RX10 31) {r : Nat} {σ' : St} (hthr : R_X G p l e R s m args below meth c cells slots Q cX10_load 3 RX10 r σ') (hpr : R_P G p l e R s m args below meth c cells slots Q r σ') :
    ∀ (σ : St) (_ : pf_X10_load_b12 σ = some (.inl r, σ')) (H : Heap) (locs : List Loc) (ls : Array Slot) (_ : GW G σ s H locs) (_ : lv_has ls 3 []), W p l e R s m args below meth c H locs cells slots Q (F0 m 12 ls []) := by
  have hx := X.1.1
  have hb := X.1.2.1
  intro σ h H locs ls hW hl
  unfold pf_X10_load_b12 at h
  exact thr_end hthr h dX10_load_12 dX10_load_15 dX10_load_16 dX10_load_19 exw_1_66 hW (Nat.le_of_ble_eq_true rfl) hl.1
set_option maxRecDepth 20000 in
set_option maxHeartbeats 4000000 in
theorem x_X10_load {G : Gt} {l : Launch} {v0 : Nat} (h0 : kd v0 = 9) {v1 : Int32} {σ : St} {r : Nat} {σ' : St} (hf : pf_X10_load v0 v1 σ = some (.inl r, σ')) : CtT G l yX10_load cX10_load 3 (some .int) 31 [.ref (gz G + (v0)), .int (v1)] σ r σ' := by
  refine met_t (by decide +kernel) (Nat.le_of_ble_eq_true rfl) (by decide) ?_
  intro p e s m args below meth c Q ls X hW hthr hpr hl
  have hx := X.1.1
  have hb := X.1.2.1
  have hl : lv_has ls 3 [(0, .ref (gz G + (v0))), (1, .int (v1))] := hl
  have h := hf
  clear hf
  unfold pf_X10_load at h
  refine lv_iload_n hx hb dX10_load_0 rfl (lv_at hl 1 rfl) ?_
  refine lv_if_lt (tgt := 12) hx hb dX10_load_1 (by decide) (fun hc => ?_) (fun hc => ?_)
  · replace h := if_t hc h
    exact xl_X10_load_b12 X hthr hpr σ h _ _ _ hW (lv_sub hl [] rfl)
  · replace h := if_f hc h
    refine lv_iload_n hx hb dX10_load_4 rfl (lv_at hl 1 rfl) ?_
    refine lv_aload_n hx hb dX10_load_5 rfl (lv_at hl 0 rfl) ?_
    refine gf_X10_bufferLength X hW h0 m_2_67 dX10_load_6 ?_
    refine lv_icmp_le (tgt := 20) hx hb dX10_load_9 (by decide) (fun hc => ?_) (fun hc => ?_)
    · replace h := if_t hc h
      refine lv_aload_n hx hb dX10_load_20 rfl (lv_at hl 0 rfl) ?_
      refine lv_iconst (v := 0) hx hb dX10_load_21 (by decide) ?_
      refine sf_X10_bufferLength X hW h0 m_2_67 dX10_load_22 ?_
      clear hW; intro H locs hW
      refine nm_s hW h ?_
      clear hW h; intro σ_1 hW h
      refine lv_aload_n hx hb dX10_load_25 rfl (lv_at hl 0 rfl) ?_
      refine gf_X10_reader X hW h0 m_2_72 dX10_load_26 ?_
      refine lv_aload_n hx hb dX10_load_29 rfl (lv_at hl 0 rfl) ?_
      refine gf_X10_buffer X hW h0 m_2_66 dX10_load_30 ?_
      refine lv_iload_n hx hb dX10_load_33 rfl (lv_at hl 1 rfl) ?_
      refine lv_aload_n hx hb dX10_load_34 rfl (lv_at hl 0 rfl) ?_
      refine gf_X10_draft X hW h0 m_2_70 dX10_load_35 ?_
      obtain ⟨r_2, σ_2, hcl, h⟩ := bnd2_el h
      refine call_V1 X hW (kC_X4 (kf_X10_reader h0)) m_5_182 m_5_183 m_5_184 mv_X4_read (c_X4_read (kf_X10_reader h0) (kf_X10_buffer h0) (kf_X10_draft h0) hcl) (by decide) rfl rfl (Nat.le_of_ble_eq_true rfl) hl.1 dX10_load_38 ?_
      clear hW hcl; intro H locs hW
      refine lv_istore_n (lv' := [(2, .int (r_2)), (0, .ref (gz G + (v0))), (1, .int (v1))]) hx hb dX10_load_41 rfl hl (by decide) rfl ?_
      clear hl; intro ls hl
      refine lv_aload_n hx hb dX10_load_42 rfl (lv_at hl 1 rfl) ?_
      refine lv_aload_n hx hb dX10_load_43 rfl (lv_at hl 1 rfl) ?_
      refine gf_X10_reader X hW h0 m_2_72 dX10_load_44 ?_
      obtain ⟨r_3, hcl, h⟩ := bind_el h
      refine call_V1 X hW (kC_X4 (kf_X10_reader h0)) m_6_201 m_6_202 m_6_203 mv_X4_offsetOfError (c_X4_offsetOfError (kf_X10_reader h0) hcl) (by decide) rfl rfl (Nat.le_of_ble_eq_true rfl) hl.1 dX10_load_47 ?_
      clear hW hcl; intro H locs hW
      refine sf_X10_latestErrorOffset X hW h0 m_2_68 dX10_load_50 ?_
      clear hW; intro H locs hW
      refine nm_s hW h ?_
      clear hW h; intro σ_4 hW h
      refine lv_iload_n hx hb dX10_load_53 rfl (lv_at hl 0 rfl) ?_
      refine lv_if_eq (tgt := 59) hx hb dX10_load_54 (by decide) (fun hc => ?_) (fun hc => ?_)
      · replace h := if_t hc h
        refine lv_aload_n hx hb dX10_load_59 rfl (lv_at hl 1 rfl) ?_
        refine gf_X10_history X hW h0 m_2_71 dX10_load_60 ?_
        refine lv_aload_n hx hb dX10_load_63 rfl (lv_at hl 1 rfl) ?_
        refine gf_X10_now X hW h0 m_2_69 dX10_load_64 ?_
        obtain ⟨σ_5, hcl, h⟩ := bind_el h
        refine call_V0 X hW (kC_X1 (kf_X10_history h0)) m_3_8 m_3_9 m_3_10 mv_X1_remember (c_X1_remember (kf_X10_history h0) (kf_X10_now h0) hcl) (by decide) rfl rfl (Nat.le_of_ble_eq_true rfl) hl.1 dX10_load_67 ?_
        clear hW hcl; intro H locs hW
        refine lv_aload_n hx hb dX10_load_70 rfl (lv_at hl 1 rfl) ?_
        refine gf_X10_now X hW h0 m_2_69 dX10_load_71 ?_
        refine lv_aload_n hx hb dX10_load_74 rfl (lv_at hl 1 rfl) ?_
        refine gf_X10_draft X hW h0 m_2_70 dX10_load_75 ?_
        obtain ⟨σ_6, hcl, h⟩ := bind_el h
        refine call_V0 X hW (kC_X2 (kf_X10_now h0)) m_6_205 m_3_13 m_3_14 mv_X2_copyFrom (c_X2_copyFrom (kf_X10_now h0) (kf_X10_draft h0) hcl) (by decide) rfl rfl (Nat.le_of_ble_eq_true rfl) hl.1 dX10_load_78 ?_
        clear hW hcl; intro H locs hW
        refine lv_aload_n hx hb dX10_load_81 rfl (lv_at hl 1 rfl) ?_
        refine gf_X10_now X hW h0 m_2_69 dX10_load_82 ?_
        refine gf_X2_questCount X hW (kf_X10_now h0) m_1_153 dX10_load_85 ?_
        cases h
      · replace h := if_f hc h
        refine lv_iload_n hx hb dX10_load_57 rfl (lv_at hl 0 rfl) ?_
        cases h
    · replace h := if_f hc h
      exact xl_X10_load_b12 X hthr hpr σ h _ _ _ hW (lv_sub hl [] rfl)
set_option maxRecDepth 20000 in
set_option maxHeartbeats 4000000 in
theorem c_J6_bitCount_0f7a4 {G : Gt} {l : Launch} {v0 : Int32} {σ : St} {r : Int32} (hf : pf_J6_bitCount_0f7a4 v0 σ = some r) : Ct G l yJ6_bitCount_0f7a4 cJ6_bitCount_0f7a4 1 (some .int) 2 [.int (v0)] σ (some (.int r)) σ := by
  refine met_i (by decide +kernel) (Nat.le_of_ble_eq_true rfl) rfl ?_
  intro p e s m args below meth c Q ls X hW hret hl
  have hx := X.1.1
  have hb := X.1.2.1
  have hl : lv_has ls 1 [(0, .int (v0))] := hl
  have h := hf
  clear hf
  unfold pf_J6_bitCount_0f7a4 at h
  refine lv_iload_n hx hb dJ6_bitCount_0f7a4_0 rfl (lv_at hl 0 rfl) ?_
  refine lv_iload_n hx hb dJ6_bitCount_0f7a4_1 rfl (lv_at hl 0 rfl) ?_
  refine lv_iconst (v := 1) hx hb dJ6_bitCount_0f7a4_2 (by decide) ?_
  refine w_iushr hx hb dJ6_bitCount_0f7a4_3 ?_
  refine lv_ldcw (v := 1431655765) hx hb X.1.2.2.2.1 (X.1.2.2.2.2 _ m_2_170) dJ6_bitCount_0f7a4_4 ?_
  refine lv_iand hx hb dJ6_bitCount_0f7a4_7 ?_
  refine lv_isub hx hb dJ6_bitCount_0f7a4_8 ?_
  refine nm_i h ?_
  clear h; intro v0_1 h
  refine lv_istore_n (lv' := [(0, .int (v0_1))]) hx hb dJ6_bitCount_0f7a4_9 rfl hl (by decide) rfl ?_
  clear hl; intro ls hl
  refine lv_iload_n hx hb dJ6_bitCount_0f7a4_10 rfl (lv_at hl 0 rfl) ?_
  refine lv_ldcw (v := 858993459) hx hb X.1.2.2.2.1 (X.1.2.2.2.2 _ m_2_171) dJ6_bitCount_0f7a4_11 ?_
  refine lv_iand hx hb dJ6_bitCount_0f7a4_14 ?_
  refine lv_iload_n hx hb dJ6_bitCount_0f7a4_15 rfl (lv_at hl 0 rfl) ?_
  refine lv_iconst (v := 2) hx hb dJ6_bitCount_0f7a4_16 (by decide) ?_
  refine w_iushr hx hb dJ6_bitCount_0f7a4_17 ?_
  refine lv_ldcw (v := 858993459) hx hb X.1.2.2.2.1 (X.1.2.2.2.2 _ m_2_171) dJ6_bitCount_0f7a4_18 ?_
  refine lv_iand hx hb dJ6_bitCount_0f7a4_21 ?_
  refine lv_iadd hx hb dJ6_bitCount_0f7a4_22 ?_
  refine nm_i h ?_
  clear h; intro v0_2 h
  refine lv_istore_n (lv' := [(0, .int (v0_2))]) hx hb dJ6_bitCount_0f7a4_23 rfl hl (by decide) rfl ?_
  clear hl; intro ls hl
  refine lv_iload_n hx hb dJ6_bitCount_0f7a4_24 rfl (lv_at hl 0 rfl) ?_
  refine lv_iload_n hx hb dJ6_bitCount_0f7a4_25 rfl (lv_at hl 0 rfl) ?_
  refine lv_iconst (v := 4) hx hb dJ6_bitCount_0f7a4_26 (by decide) ?_
  refine w_iushr hx hb dJ6_bitCount_0f7a4_27 ?_
  refine lv_iadd hx hb dJ6_bitCount_0f7a4_28 ?_
  refine lv_ldcw (v := 252645135) hx hb X.1.2.2.2.1 (X.1.2.2.2.2 _ m_2_172) dJ6_bitCount_0f7a4_29 ?_
  refine lv_iand hx hb dJ6_bitCount_0f7a4_32 ?_
  refine nm_i h ?_
  clear h; intro v0_3 h
  refine lv_istore_n (lv' := [(0, .int (v0_3))]) hx hb dJ6_bitCount_0f7a4_33 rfl hl (by decide) rfl ?_
  clear hl; intro ls hl
  refine lv_iload_n hx hb dJ6_bitCount_0f7a4_34 rfl (lv_at hl 0 rfl) ?_
  refine lv_iload_n hx hb dJ6_bitCount_0f7a4_35 rfl (lv_at hl 0 rfl) ?_
  refine lv_bipush (v := 8) hx hb dJ6_bitCount_0f7a4_36 (by decide) ?_
  refine w_iushr hx hb dJ6_bitCount_0f7a4_38 ?_
  refine lv_iadd hx hb dJ6_bitCount_0f7a4_39 ?_
  refine nm_i h ?_
  clear h; intro v0_4 h
  refine lv_istore_n (lv' := [(0, .int (v0_4))]) hx hb dJ6_bitCount_0f7a4_40 rfl hl (by decide) rfl ?_
  clear hl; intro ls hl
  refine lv_iload_n hx hb dJ6_bitCount_0f7a4_41 rfl (lv_at hl 0 rfl) ?_
  refine lv_iload_n hx hb dJ6_bitCount_0f7a4_42 rfl (lv_at hl 0 rfl) ?_
  refine lv_bipush (v := 16) hx hb dJ6_bitCount_0f7a4_43 (by decide) ?_
  refine w_iushr hx hb dJ6_bitCount_0f7a4_45 ?_
  refine lv_iadd hx hb dJ6_bitCount_0f7a4_46 ?_
  refine nm_i h ?_
  clear h; intro v0_5 h
  refine lv_istore_n (lv' := [(0, .int (v0_5))]) hx hb dJ6_bitCount_0f7a4_47 rfl hl (by decide) rfl ?_
  clear hl; intro ls hl
  refine lv_iload_n hx hb dJ6_bitCount_0f7a4_48 rfl (lv_at hl 0 rfl) ?_
  refine lv_bipush (v := 63) hx hb dJ6_bitCount_0f7a4_49 (by decide) ?_
  refine lv_iand hx hb dJ6_bitCount_0f7a4_51 ?_
  exact ri_end0 hret h dJ6_bitCount_0f7a4_52 hW
set_option maxRecDepth 20000 in
set_option maxHeartbeats 4000000 in
theorem c_X10_shareOf {G : Gt} {l : Launch} {v0 : Nat} (h0 : kd v0 = 9) {v1 : Nat} (h1 : kd v1 = 3) {v2 : Int32} {σ : St} {r : Int32} {σ' : St} (hf : pf_X10_shareOf v0 v1 v2 σ = some (r, σ')) : Ct G l yX10_shareOf cX10_shareOf 3 (some .int) 7 [.ref (gz G + (v0)), .ref (gz G + (v1)), .int (v2)] σ (some (.int r)) σ' := by
  refine met_i (by decide +kernel) (Nat.le_of_ble_eq_true rfl) rfl ?_
  intro p e s m args below meth c Q ls X hW hret hl
  have hx := X.1.1
  have hb := X.1.2.1
  have hl : lv_has ls 3 [(0, .ref (gz G + (v0))), (1, .ref (gz G + (v1))), (2, .int (v2))] := hl
  have h := hf
  clear hf
  unfold pf_X10_shareOf at h
  refine lv_iload_n hx hb dX10_shareOf_0 rfl (lv_at hl 2 rfl) ?_
  by_cases hc0 : v2 = 1
  · replace h := if_t hc0 h
    refine lv_tableIn (off := 35) (tgt := 36) hx hb dX10_shareOf_1 (by rw [hc0]; decide) (by rw [hc0]; decide) (by rw [hc0]; rfl) (by decide) ?_
    refine lv_aload_n hx hb dX10_shareOf_36 rfl (lv_at hl 1 rfl) ?_
    refine gf_X3_stepCount X hW h1 m_1_62 dX10_shareOf_37 ?_
    exact ri_end hret h dX10_shareOf_40 hW
  replace h := if_f hc0 h
  by_cases hc1 : v2 = 2
  · replace h := if_t hc1 h
    refine lv_tableIn (off := 40) (tgt := 41) hx hb dX10_shareOf_1 (by rw [hc1]; decide) (by rw [hc1]; decide) (by rw [hc1]; rfl) (by decide) ?_
    refine lv_aload_n hx hb dX10_shareOf_41 rfl (lv_at hl 1 rfl) ?_
    refine gf_X3_status X hW h1 m_1_67 dX10_shareOf_42 ?_
    refine lv_iconst (v := 1) hx hb dX10_shareOf_45 (by decide) ?_
    refine lv_icmp_ne (tgt := 53) hx hb dX10_shareOf_46 (by decide) (fun hc => ?_) (fun hc => ?_)
    · replace h := if_f hc h
      refine lv_iconst (v := 0) hx hb dX10_shareOf_53 (by decide) ?_
      exact ri_end hret h dX10_shareOf_54 hW
    · replace h := if_t hc h
      refine lv_iconst (v := 1) hx hb dX10_shareOf_49 (by decide) ?_
      refine lv_goto (tgt := 54) hx hb dX10_shareOf_50 (by decide) ?_
      exact ri_end hret h dX10_shareOf_54 hW
  replace h := if_f hc1 h
  by_cases hc2 : v2 = 3
  · replace h := if_t hc2 h
    refine lv_tableIn (off := 54) (tgt := 55) hx hb dX10_shareOf_1 (by rw [hc2]; decide) (by rw [hc2]; decide) (by rw [hc2]; rfl) (by decide) ?_
    refine lv_aload_n hx hb dX10_shareOf_55 rfl (lv_at hl 1 rfl) ?_
    refine gf_X3_status X hW h1 m_1_67 dX10_shareOf_56 ?_
    refine lv_iconst (v := 2) hx hb dX10_shareOf_59 (by decide) ?_
    refine lv_icmp_ne (tgt := 67) hx hb dX10_shareOf_60 (by decide) (fun hc => ?_) (fun hc => ?_)
    · replace h := if_f hc h
      refine lv_iconst (v := 0) hx hb dX10_shareOf_67 (by decide) ?_
      exact ri_end hret h dX10_shareOf_68 hW
    · replace h := if_t hc h
      refine lv_iconst (v := 1) hx hb dX10_shareOf_63 (by decide) ?_
      refine lv_goto (tgt := 68) hx hb dX10_shareOf_64 (by decide) ?_
      exact ri_end hret h dX10_shareOf_68 hW
  replace h := if_f hc2 h
  by_cases hc3 : v2 = 4
  · replace h := if_t hc3 h
    refine lv_tableIn (off := 68) (tgt := 69) hx hb dX10_shareOf_1 (by rw [hc3]; decide) (by rw [hc3]; decide) (by rw [hc3]; rfl) (by decide) ?_
    refine lv_aload_n hx hb dX10_shareOf_69 rfl (lv_at hl 1 rfl) ?_
    refine gf_X3_done X hW h1 m_1_70 dX10_shareOf_70 ?_
    obtain ⟨r_1, hcl, h⟩ := bind_el h
    refine call_S1 X hW m_2_167 m_2_168 mv_J6_bitCount_0f7a4 (c_J6_bitCount_0f7a4 hcl) (by decide) rfl rfl (Nat.le_of_ble_eq_true rfl) hl.1 dX10_shareOf_73 ?_
    clear hW hcl; intro H locs hW
    exact ri_end hret h dX10_shareOf_76 hW
  replace h := if_f hc3 h
  by_cases hc4 : v2 = 5
  · replace h := if_t hc4 h
    refine lv_tableIn (off := 76) (tgt := 77) hx hb dX10_shareOf_1 (by rw [hc4]; decide) (by rw [hc4]; decide) (by rw [hc4]; rfl) (by decide) ?_
    refine lv_aload_n hx hb dX10_shareOf_77 rfl (lv_at hl 1 rfl) ?_
    obtain ⟨r_2, hcl, h⟩ := bind_el h
    refine call_V1 X hW (kC_X3 h1) m_2_173 m_2_174 m_2_175 mv_X3_sumOfFails (c_X3_sumOfFails h1 hcl) (by decide) rfl rfl (Nat.le_of_ble_eq_true rfl) hl.1 dX10_shareOf_78 ?_
    clear hW hcl; intro H locs hW
    exact ri_end hret h dX10_shareOf_81 hW
  replace h := if_f hc4 h
  refine lv_tableOut (tgt := 82) hx hb dX10_shareOf_1 (tb_out (n := 5) (by decide) rfl (fun k hk => match k, hk with | 0, _ => hc0 | 1, _ => hc1 | 2, _ => hc2 | 3, _ => hc3 | 4, _ => hc4 | k + 5, hk => absurd hk (by omega))) (by decide) ?_
  skip
  refine lv_aload_n hx hb dX10_shareOf_82 rfl (lv_at hl 0 rfl) ?_
  refine gf_X10_ways X hW h0 m_2_73 dX10_shareOf_83 ?_
  refine lv_aload_n hx hb dX10_shareOf_86 rfl (lv_at hl 1 rfl) ?_
  refine lv_aload_n hx hb dX10_shareOf_87 rfl (lv_at hl 0 rfl) ?_
  refine gf_X10_now X hW h0 m_2_69 dX10_shareOf_88 ?_
  refine gf_X2_stock X hW (kf_X10_now h0) m_1_142 dX10_shareOf_91 ?_
  obtain ⟨r_3, σ_3, hcl, h⟩ := bnd2_el h
  refine call_V1 X hW (kC_X7 (kf_X10_ways h0)) m_2_180 m_2_181 m_2_182 mv_X7_explore (c_X7_explore (kf_X10_ways h0) h1 (kf_X2_stock (kf_X10_now h0)) hcl) (by decide) rfl rfl (Nat.le_of_ble_eq_true rfl) hl.1 dX10_shareOf_94 ?_
  clear hW hcl; intro H locs hW
  refine lv_if_eq (tgt := 104) hx hb dX10_shareOf_97 (by decide) (fun hc => ?_) (fun hc => ?_)
  · replace h := if_t hc h
    refine lv_iconst (v := 0) hx hb dX10_shareOf_104 (by decide) ?_
    exact ri_end hret h dX10_shareOf_105 hW
  · replace h := if_f hc h
    refine lv_iconst (v := 1) hx hb dX10_shareOf_100 (by decide) ?_
    refine lv_goto (tgt := 105) hx hb dX10_shareOf_101 (by decide) ?_
    exact ri_end hret h dX10_shareOf_105 hW
set_option maxRecDepth 20000 in
set_option maxHeartbeats 4000000 in
theorem bl_X10_state_b10 (X : Cx G p R s m args c cells slots cX10_state 4 RX10 8) {r : Int32} {σ' : St} (hret : R_I G p l e R s m args below meth c cells slots Q cX10_state r σ') :
    ∀ (σ : St) (_ : pf_X10_state_b10 σ = some (.inr r, σ')) (H : Heap) (locs : List Loc) (ls : Array Slot) (_ : GW G σ s H locs) (_ : lv_has ls 4 []), W p l e R s m args below meth c H locs cells slots Q (F0 m 10 ls []) := by
  have hx := X.1.1
  have hb := X.1.2.1
  intro σ h H locs ls hW hl
  unfold pf_X10_state_b10 at h
  cases h
set_option maxRecDepth 20000 in
set_option maxHeartbeats 4000000 in
theorem bl_X10_state_L62 (X : Cx G p R s m args c cells slots cX10_state 4 RX10 8) {r : Int32} {σ' : St} (hret : R_I G p l e R s m args below meth c cells slots Q cX10_state r σ') :
    ∀ (n : Nat), ∀ (v0 : Nat) (h0 : kd v0 = 9) (v1 : Int32) (v2 : Int32) (v3 : Int32) (σ : St) (_ : pf_X10_state_L62 n v0 v1 v2 v3 σ = some (.inr r, σ')) (H : Heap) (locs : List Loc) (ls : Array Slot) (_ : GW G σ s H locs) (_ : lv_has ls 4 [(0, .ref (gz G + (v0))), (1, .int (v1)), (2, .int (v2)), (3, .int (v3))]), W p l e R s m args below meth c H locs cells slots Q (F0 m 62 ls []) := by
  have hx := X.1.1
  have hb := X.1.2.1
  intro n
  induction n with
  | zero => intro v0 h0 v1 v2 v3 σ h H locs ls hW hl; cases h
  | succ n ih =>
    intro v0 h0 v1 v2 v3 σ h H locs ls hW hl
    rw [pf_X10_state_L62.eq_2] at h
    refine lv_iload_n hx hb dX10_state_62 rfl (lv_at hl 3 rfl) ?_
    refine lv_aload_n hx hb dX10_state_63 rfl (lv_at hl 0 rfl) ?_
    refine gf_X10_now X hW h0 m_2_69 dX10_state_64 ?_
    refine gf_X2_questCount X hW (kf_X10_now h0) m_1_153 dX10_state_67 ?_
    refine lv_icmp_ge (tgt := 102) hx hb dX10_state_70 (by decide) (fun hc => ?_) (fun hc => ?_)
    · replace h := if_t hc h
      refine lv_iload_n hx hb dX10_state_102 rfl (lv_at hl 2 rfl) ?_
      replace h := xr_el h
      exact ri_end hret h dX10_state_103 hW
    · replace h := if_f hc h
      refine lv_iload_n hx hb dX10_state_73 rfl (lv_at hl 3 rfl) ?_
      refine lv_bipush (v := 6) hx hb dX10_state_74 (by decide) ?_
      refine lv_icmp_ge (tgt := 102) hx hb dX10_state_76 (by decide) (fun hc => ?_) (fun hc => ?_)
      · replace h := if_t hc h
        refine lv_iload_n hx hb dX10_state_102 rfl (lv_at hl 2 rfl) ?_
        replace h := xr_el h
        exact ri_end hret h dX10_state_103 hW
      · replace h := if_f hc h
        refine lv_iload_n hx hb dX10_state_79 rfl (lv_at hl 2 rfl) ?_
        refine lv_aload_n hx hb dX10_state_80 rfl (lv_at hl 0 rfl) ?_
        refine lv_aload_n hx hb dX10_state_81 rfl (lv_at hl 0 rfl) ?_
        refine gf_X10_now X hW h0 m_2_69 dX10_state_82 ?_
        refine gf_X2_quests X hW (kf_X10_now h0) m_1_150 dX10_state_85 ?_
        refine lv_iload_n hx hb dX10_state_88 rfl (lv_at hl 3 rfl) ?_
        obtain ⟨hi1, h⟩ := ckI_el h
        refine r_qald X hW (kf_X2_quests (kf_X10_now h0)) hi1 dX10_state_89 ?_
        refine lv_iload_n hx hb dX10_state_90 rfl (lv_at hl 1 rfl) ?_
        obtain ⟨r_2, σ_2, hcl, h⟩ := bnd2_el h
        refine call_V1 X hW (kC_X10 h0) m_2_163 m_2_165 m_0_1 mv_X10_shareOf (c_X10_shareOf h0 (kq_16 (kf_X2_quests (kf_X10_now h0)) (vp_lt hi1)) hcl) (by decide) rfl rfl (Nat.le_of_ble_eq_true rfl) hl.1 dX10_state_91 ?_
        clear hW hcl; intro H locs hW
        refine lv_iadd hx hb dX10_state_94 ?_
        refine nm_i h ?_
        clear h; intro v2_3 h
        refine lv_istore_n (lv' := [(2, .int (v2_3)), (0, .ref (gz G + (v0))), (1, .int (v1)), (3, .int (v3))]) hx hb dX10_state_95 rfl hl (by decide) rfl ?_
        clear hl; intro ls hl
        refine w_iinc (v := 1) (lv' := fun y => [(3, .int (y)), (2, .int (v2_3)), (0, .ref (gz G + (v0))), (1, .int (v1))]) hx hb dX10_state_96 hl (k := 3) rfl (by decide) (by decide) (fun _ => rfl) h ?_
        clear h hl; intro v3_4 h ls hl
        refine lv_goto (tgt := 62) hx hb dX10_state_99 (by decide) ?_
        exact ih v0 h0 v1 v2_3 v3_4 σ_2 h _ _ _ hW (lv_sub hl [2, 3, 1, 0] rfl)
set_option maxRecDepth 20000 in
set_option maxHeartbeats 4000000 in
theorem c_X10_state {G : Gt} {l : Launch} {v0 : Nat} (h0 : kd v0 = 9) {v1 : Int32} {σ : St} {r : Int32} {σ' : St} (hf : pf_X10_state v0 v1 σ = some (.inr r, σ')) : Ct G l yX10_state cX10_state 4 (some .int) 8 [.ref (gz G + (v0)), .int (v1)] σ (some (.int r)) σ' := by
  refine met_i (by decide +kernel) (Nat.le_of_ble_eq_true rfl) rfl ?_
  intro p e s m args below meth c Q ls X hW hret hl
  have hx := X.1.1
  have hb := X.1.2.1
  have hl : lv_has ls 4 [(0, .ref (gz G + (v0))), (1, .int (v1))] := hl
  have h := hf
  clear hf
  unfold pf_X10_state at h
  refine lv_iload_n hx hb dX10_state_0 rfl (lv_at hl 1 rfl) ?_
  refine lv_if_lt (tgt := 10) hx hb dX10_state_1 (by decide) (fun hc => ?_) (fun hc => ?_)
  · replace h := if_t hc h
    exact bl_X10_state_b10 X hret σ h _ _ _ hW (lv_sub hl [] rfl)
  · replace h := if_f hc h
    refine lv_iload_n hx hb dX10_state_4 rfl (lv_at hl 1 rfl) ?_
    refine lv_bipush (v := 8) hx hb dX10_state_5 (by decide) ?_
    refine lv_icmp_le (tgt := 18) hx hb dX10_state_7 (by decide) (fun hc => ?_) (fun hc => ?_)
    · replace h := if_t hc h
      refine lv_iload_n hx hb dX10_state_18 rfl (lv_at hl 1 rfl) ?_
      refine lv_if_ne (tgt := 30) hx hb dX10_state_19 (by decide) (fun hc => ?_) (fun hc => ?_)
      · replace h := if_f hc h
        refine lv_iload_n hx hb dX10_state_30 rfl (lv_at hl 1 rfl) ?_
        refine lv_bipush (v := 6) hx hb dX10_state_31 (by decide) ?_
        refine lv_icmp_ne (tgt := 44) hx hb dX10_state_33 (by decide) (fun hc => ?_) (fun hc => ?_)
        · replace h := if_f hc h
          refine lv_iload_n hx hb dX10_state_44 rfl (lv_at hl 1 rfl) ?_
          refine lv_bipush (v := 7) hx hb dX10_state_45 (by decide) ?_
          refine lv_icmp_ne (tgt := 58) hx hb dX10_state_47 (by decide) (fun hc => ?_) (fun hc => ?_)
          · replace h := if_f hc h
            refine lv_iconst (v := 0) hx hb dX10_state_58 (by decide) ?_
            refine lv_istore_n (lv' := [(2, .int (0)), (0, .ref (gz G + (v0))), (1, .int (v1))]) hx hb dX10_state_59 rfl hl (by decide) rfl ?_
            clear hl; intro ls hl
            refine lv_iconst (v := 0) hx hb dX10_state_60 (by decide) ?_
            refine lv_istore_n (lv' := [(3, .int (0)), (2, .int (0)), (0, .ref (gz G + (v0))), (1, .int (v1))]) hx hb dX10_state_61 rfl hl (by decide) rfl ?_
            clear hl; intro ls hl
            exact bl_X10_state_L62 X hret FU v0 h0 v1 0 0 σ h _ _ _ hW (lv_sub hl [2, 3, 1, 0] rfl)
          · replace h := if_t hc h
            refine lv_aload_n hx hb dX10_state_50 rfl (lv_at hl 0 rfl) ?_
            refine gf_X10_now X hW h0 m_2_69 dX10_state_51 ?_
            refine gf_X2_seed X hW (kf_X10_now h0) m_1_148 dX10_state_54 ?_
            replace h := xr_el h
            exact ri_end hret h dX10_state_57 hW
        · replace h := if_t hc h
          refine lv_aload_n hx hb dX10_state_36 rfl (lv_at hl 0 rfl) ?_
          refine gf_X10_now X hW h0 m_2_69 dX10_state_37 ?_
          refine gf_X2_queueLength X hW (kf_X10_now h0) m_1_145 dX10_state_40 ?_
          replace h := xr_el h
          exact ri_end hret h dX10_state_43 hW
      · replace h := if_t hc h
        refine lv_aload_n hx hb dX10_state_22 rfl (lv_at hl 0 rfl) ?_
        refine gf_X10_now X hW h0 m_2_69 dX10_state_23 ?_
        refine gf_X2_questCount X hW (kf_X10_now h0) m_1_153 dX10_state_26 ?_
        replace h := xr_el h
        exact ri_end hret h dX10_state_29 hW
    · replace h := if_f hc h
      exact bl_X10_state_b10 X hret σ h _ _ _ hW (lv_sub hl [] rfl)
set_option maxRecDepth 20000 in
set_option maxHeartbeats 4000000 in
theorem xl_X10_state_b10 (X : Cx G p R s m args c cells slots cX10_state 4 RX10 8) {r : Nat} {σ' : St} (hthr : R_X G p l e R s m args below meth c cells slots Q cX10_state 4 RX10 r σ') (hpr : R_P G p l e R s m args below meth c cells slots Q r σ') :
    ∀ (σ : St) (_ : pf_X10_state_b10 σ = some (.inl r, σ')) (H : Heap) (locs : List Loc) (ls : Array Slot) (_ : GW G σ s H locs) (_ : lv_has ls 4 []), W p l e R s m args below meth c H locs cells slots Q (F0 m 10 ls []) := by
  have hx := X.1.1
  have hb := X.1.2.1
  intro σ h H locs ls hW hl
  unfold pf_X10_state_b10 at h
  exact thr_end hthr h dX10_state_10 dX10_state_13 dX10_state_14 dX10_state_17 exw_1_66 hW (Nat.le_of_ble_eq_true rfl) hl.1
set_option maxRecDepth 20000 in
set_option maxHeartbeats 4000000 in
theorem xl_X10_state_L62 (X : Cx G p R s m args c cells slots cX10_state 4 RX10 8) {r : Nat} {σ' : St} (hthr : R_X G p l e R s m args below meth c cells slots Q cX10_state 4 RX10 r σ') (hpr : R_P G p l e R s m args below meth c cells slots Q r σ') :
    ∀ (n : Nat), ∀ (v0 : Nat) (h0 : kd v0 = 9) (v1 : Int32) (v2 : Int32) (v3 : Int32) (σ : St) (_ : pf_X10_state_L62 n v0 v1 v2 v3 σ = some (.inl r, σ')) (H : Heap) (locs : List Loc) (ls : Array Slot) (_ : GW G σ s H locs) (_ : lv_has ls 4 [(0, .ref (gz G + (v0))), (1, .int (v1)), (2, .int (v2)), (3, .int (v3))]), W p l e R s m args below meth c H locs cells slots Q (F0 m 62 ls []) := by
  have hx := X.1.1
  have hb := X.1.2.1
  intro n
  induction n with
  | zero => intro v0 h0 v1 v2 v3 σ h H locs ls hW hl; cases h
  | succ n ih =>
    intro v0 h0 v1 v2 v3 σ h H locs ls hW hl
    rw [pf_X10_state_L62.eq_2] at h
    refine lv_iload_n hx hb dX10_state_62 rfl (lv_at hl 3 rfl) ?_
    refine lv_aload_n hx hb dX10_state_63 rfl (lv_at hl 0 rfl) ?_
    refine gf_X10_now X hW h0 m_2_69 dX10_state_64 ?_
    refine gf_X2_questCount X hW (kf_X10_now h0) m_1_153 dX10_state_67 ?_
    refine lv_icmp_ge (tgt := 102) hx hb dX10_state_70 (by decide) (fun hc => ?_) (fun hc => ?_)
    · replace h := if_t hc h
      refine lv_iload_n hx hb dX10_state_102 rfl (lv_at hl 2 rfl) ?_
      cases h
    · replace h := if_f hc h
      refine lv_iload_n hx hb dX10_state_73 rfl (lv_at hl 3 rfl) ?_
      refine lv_bipush (v := 6) hx hb dX10_state_74 (by decide) ?_
      refine lv_icmp_ge (tgt := 102) hx hb dX10_state_76 (by decide) (fun hc => ?_) (fun hc => ?_)
      · replace h := if_t hc h
        refine lv_iload_n hx hb dX10_state_102 rfl (lv_at hl 2 rfl) ?_
        cases h
      · replace h := if_f hc h
        refine lv_iload_n hx hb dX10_state_79 rfl (lv_at hl 2 rfl) ?_
        refine lv_aload_n hx hb dX10_state_80 rfl (lv_at hl 0 rfl) ?_
        refine lv_aload_n hx hb dX10_state_81 rfl (lv_at hl 0 rfl) ?_
        refine gf_X10_now X hW h0 m_2_69 dX10_state_82 ?_
        refine gf_X2_quests X hW (kf_X10_now h0) m_1_150 dX10_state_85 ?_
        refine lv_iload_n hx hb dX10_state_88 rfl (lv_at hl 3 rfl) ?_
        obtain ⟨hi1, h⟩ := ckI_el h
        refine r_qald X hW (kf_X2_quests (kf_X10_now h0)) hi1 dX10_state_89 ?_
        refine lv_iload_n hx hb dX10_state_90 rfl (lv_at hl 1 rfl) ?_
        obtain ⟨r_2, σ_2, hcl, h⟩ := bnd2_el h
        refine call_V1 X hW (kC_X10 h0) m_2_163 m_2_165 m_0_1 mv_X10_shareOf (c_X10_shareOf h0 (kq_16 (kf_X2_quests (kf_X10_now h0)) (vp_lt hi1)) hcl) (by decide) rfl rfl (Nat.le_of_ble_eq_true rfl) hl.1 dX10_state_91 ?_
        clear hW hcl; intro H locs hW
        refine lv_iadd hx hb dX10_state_94 ?_
        refine nm_i h ?_
        clear h; intro v2_3 h
        refine lv_istore_n (lv' := [(2, .int (v2_3)), (0, .ref (gz G + (v0))), (1, .int (v1)), (3, .int (v3))]) hx hb dX10_state_95 rfl hl (by decide) rfl ?_
        clear hl; intro ls hl
        refine w_iinc (v := 1) (lv' := fun y => [(3, .int (y)), (2, .int (v2_3)), (0, .ref (gz G + (v0))), (1, .int (v1))]) hx hb dX10_state_96 hl (k := 3) rfl (by decide) (by decide) (fun _ => rfl) h ?_
        clear h hl; intro v3_4 h ls hl
        refine lv_goto (tgt := 62) hx hb dX10_state_99 (by decide) ?_
        exact ih v0 h0 v1 v2_3 v3_4 σ_2 h _ _ _ hW (lv_sub hl [2, 3, 1, 0] rfl)
set_option maxRecDepth 20000 in
set_option maxHeartbeats 4000000 in
theorem x_X10_state {G : Gt} {l : Launch} {v0 : Nat} (h0 : kd v0 = 9) {v1 : Int32} {σ : St} {r : Nat} {σ' : St} (hf : pf_X10_state v0 v1 σ = some (.inl r, σ')) : CtT G l yX10_state cX10_state 4 (some .int) 8 [.ref (gz G + (v0)), .int (v1)] σ r σ' := by
  refine met_t (by decide +kernel) (Nat.le_of_ble_eq_true rfl) (by decide) ?_
  intro p e s m args below meth c Q ls X hW hthr hpr hl
  have hx := X.1.1
  have hb := X.1.2.1
  have hl : lv_has ls 4 [(0, .ref (gz G + (v0))), (1, .int (v1))] := hl
  have h := hf
  clear hf
  unfold pf_X10_state at h
  refine lv_iload_n hx hb dX10_state_0 rfl (lv_at hl 1 rfl) ?_
  refine lv_if_lt (tgt := 10) hx hb dX10_state_1 (by decide) (fun hc => ?_) (fun hc => ?_)
  · replace h := if_t hc h
    exact xl_X10_state_b10 X hthr hpr σ h _ _ _ hW (lv_sub hl [] rfl)
  · replace h := if_f hc h
    refine lv_iload_n hx hb dX10_state_4 rfl (lv_at hl 1 rfl) ?_
    refine lv_bipush (v := 8) hx hb dX10_state_5 (by decide) ?_
    refine lv_icmp_le (tgt := 18) hx hb dX10_state_7 (by decide) (fun hc => ?_) (fun hc => ?_)
    · replace h := if_t hc h
      refine lv_iload_n hx hb dX10_state_18 rfl (lv_at hl 1 rfl) ?_
      refine lv_if_ne (tgt := 30) hx hb dX10_state_19 (by decide) (fun hc => ?_) (fun hc => ?_)
      · replace h := if_f hc h
        refine lv_iload_n hx hb dX10_state_30 rfl (lv_at hl 1 rfl) ?_
        refine lv_bipush (v := 6) hx hb dX10_state_31 (by decide) ?_
        refine lv_icmp_ne (tgt := 44) hx hb dX10_state_33 (by decide) (fun hc => ?_) (fun hc => ?_)
        · replace h := if_f hc h
          refine lv_iload_n hx hb dX10_state_44 rfl (lv_at hl 1 rfl) ?_
          refine lv_bipush (v := 7) hx hb dX10_state_45 (by decide) ?_
          refine lv_icmp_ne (tgt := 58) hx hb dX10_state_47 (by decide) (fun hc => ?_) (fun hc => ?_)
          · replace h := if_f hc h
            refine lv_iconst (v := 0) hx hb dX10_state_58 (by decide) ?_
            refine lv_istore_n (lv' := [(2, .int (0)), (0, .ref (gz G + (v0))), (1, .int (v1))]) hx hb dX10_state_59 rfl hl (by decide) rfl ?_
            clear hl; intro ls hl
            refine lv_iconst (v := 0) hx hb dX10_state_60 (by decide) ?_
            refine lv_istore_n (lv' := [(3, .int (0)), (2, .int (0)), (0, .ref (gz G + (v0))), (1, .int (v1))]) hx hb dX10_state_61 rfl hl (by decide) rfl ?_
            clear hl; intro ls hl
            exact xl_X10_state_L62 X hthr hpr FU v0 h0 v1 0 0 σ h _ _ _ hW (lv_sub hl [2, 3, 1, 0] rfl)
          · replace h := if_t hc h
            refine lv_aload_n hx hb dX10_state_50 rfl (lv_at hl 0 rfl) ?_
            refine gf_X10_now X hW h0 m_2_69 dX10_state_51 ?_
            refine gf_X2_seed X hW (kf_X10_now h0) m_1_148 dX10_state_54 ?_
            cases h
        · replace h := if_t hc h
          refine lv_aload_n hx hb dX10_state_36 rfl (lv_at hl 0 rfl) ?_
          refine gf_X10_now X hW h0 m_2_69 dX10_state_37 ?_
          refine gf_X2_queueLength X hW (kf_X10_now h0) m_1_145 dX10_state_40 ?_
          cases h
      · replace h := if_t hc h
        refine lv_aload_n hx hb dX10_state_22 rfl (lv_at hl 0 rfl) ?_
        refine gf_X10_now X hW h0 m_2_69 dX10_state_23 ?_
        refine gf_X2_questCount X hW (kf_X10_now h0) m_1_153 dX10_state_26 ?_
        cases h
    · replace h := if_f hc h
      exact xl_X10_state_b10 X hthr hpr σ h _ _ _ hW (lv_sub hl [] rfl)
set_option maxRecDepth 20000 in
set_option maxHeartbeats 4000000 in
theorem bl_X10_checkItem_b10 {σ : St} (X : Cx G p R s m args c cells slots cX10_checkItem 1 RX10 7)  (hret : R_V G p l e R s m args below meth c cells slots Q cX10_checkItem σ) :
    ∀ (_ : pf_X10_checkItem_b10 σ = some (.inr ())) (H : Heap) (locs : List Loc) (ls : Array Slot) (_ : GW G σ s H locs) (_ : lv_has ls 1 []), W p l e R s m args below meth c H locs cells slots Q (F0 m 10 ls []) := by
  have hx := X.1.1
  have hb := X.1.2.1
  intro h H locs ls hW hl
  unfold pf_X10_checkItem_b10 at h
  cases h
set_option maxRecDepth 20000 in
set_option maxHeartbeats 4000000 in
theorem c_X10_checkItem {G : Gt} {l : Launch} {v0 : Int32} {σ : St} (hf : pf_X10_checkItem v0 σ = some (.inr ())) : Ct G l yX10_checkItem cX10_checkItem 1 none 7 [.int (v0)] σ none σ := by
  refine met_v (by decide +kernel) (Nat.le_of_ble_eq_true rfl) rfl ?_
  intro p e s m args below meth c Q ls X hW hret hl
  have hx := X.1.1
  have hb := X.1.2.1
  have hl : lv_has ls 1 [(0, .int (v0))] := hl
  have h := hf
  clear hf
  unfold pf_X10_checkItem at h
  refine lv_iload_n hx hb dX10_checkItem_0 rfl (lv_at hl 0 rfl) ?_
  refine lv_if_lt (tgt := 10) hx hb dX10_checkItem_1 (by decide) (fun hc => ?_) (fun hc => ?_)
  · replace h := if_t hc h
    exact bl_X10_checkItem_b10 X hret h _ _ _ hW (lv_sub hl [] rfl)
  · replace h := if_f hc h
    refine lv_iload_n hx hb dX10_checkItem_4 rfl (lv_at hl 0 rfl) ?_
    refine lv_bipush (v := 8) hx hb dX10_checkItem_5 (by decide) ?_
    refine lv_icmp_lt (tgt := 18) hx hb dX10_checkItem_7 (by decide) (fun hc => ?_) (fun hc => ?_)
    · replace h := if_t hc h
      skip
      exact hret _ _ _ _ dX10_checkItem_18 hW
    · replace h := if_f hc h
      exact bl_X10_checkItem_b10 X hret h _ _ _ hW (lv_sub hl [] rfl)
set_option maxRecDepth 20000 in
set_option maxHeartbeats 4000000 in
theorem xl_X10_checkItem_b10 {σ : St} (X : Cx G p R s m args c cells slots cX10_checkItem 1 RX10 7) {r : Nat} (hthr : R_X G p l e R s m args below meth c cells slots Q cX10_checkItem 1 RX10 r σ) (hpr : R_P G p l e R s m args below meth c cells slots Q r σ) :
    ∀ (_ : pf_X10_checkItem_b10 σ = some (.inl r)) (H : Heap) (locs : List Loc) (ls : Array Slot) (_ : GW G σ s H locs) (_ : lv_has ls 1 []), W p l e R s m args below meth c H locs cells slots Q (F0 m 10 ls []) := by
  have hx := X.1.1
  have hb := X.1.2.1
  intro h H locs ls hW hl
  unfold pf_X10_checkItem_b10 at h
  exact thr_end0 hthr h dX10_checkItem_10 dX10_checkItem_13 dX10_checkItem_14 dX10_checkItem_17 exw_2_283 hW (Nat.le_of_ble_eq_true rfl) hl.1
set_option maxRecDepth 20000 in
set_option maxHeartbeats 4000000 in
theorem x_X10_checkItem {G : Gt} {l : Launch} {v0 : Int32} {σ : St} {r : Nat} (hf : pf_X10_checkItem v0 σ = some (.inl r)) : CtT G l yX10_checkItem cX10_checkItem 1 none 7 [.int (v0)] σ r σ := by
  refine met_t (by decide +kernel) (Nat.le_of_ble_eq_true rfl) (by decide) ?_
  intro p e s m args below meth c Q ls X hW hthr hpr hl
  have hx := X.1.1
  have hb := X.1.2.1
  have hl : lv_has ls 1 [(0, .int (v0))] := hl
  have h := hf
  clear hf
  unfold pf_X10_checkItem at h
  refine lv_iload_n hx hb dX10_checkItem_0 rfl (lv_at hl 0 rfl) ?_
  refine lv_if_lt (tgt := 10) hx hb dX10_checkItem_1 (by decide) (fun hc => ?_) (fun hc => ?_)
  · replace h := if_t hc h
    exact xl_X10_checkItem_b10 X hthr hpr h _ _ _ hW (lv_sub hl [] rfl)
  · replace h := if_f hc h
    refine lv_iload_n hx hb dX10_checkItem_4 rfl (lv_at hl 0 rfl) ?_
    refine lv_bipush (v := 8) hx hb dX10_checkItem_5 (by decide) ?_
    refine lv_icmp_lt (tgt := 18) hx hb dX10_checkItem_7 (by decide) (fun hc => ?_) (fun hc => ?_)
    · replace h := if_t hc h
      cases h
    · replace h := if_f hc h
      exact xl_X10_checkItem_b10 X hthr hpr h _ _ _ hW (lv_sub hl [] rfl)
set_option maxRecDepth 20000 in
set_option maxHeartbeats 4000000 in
theorem c_X10_stock {G : Gt} {l : Launch} {v0 : Nat} (h0 : kd v0 = 9) {v1 : Int32} {σ : St} {r : Int32} (hf : pf_X10_stock v0 v1 σ = some (.inr r)) : Ct G l yX10_stock cX10_stock 2 (some .int) 8 [.ref (gz G + (v0)), .int (v1)] σ (some (.int r)) σ := by
  refine met_i (by decide +kernel) (Nat.le_of_ble_eq_true rfl) rfl ?_
  intro p e s m args below meth c Q ls X hW hret hl
  have hx := X.1.1
  have hb := X.1.2.1
  have hl : lv_has ls 2 [(0, .ref (gz G + (v0))), (1, .int (v1))] := hl
  have h := hf
  clear hf
  unfold pf_X10_stock at h
  refine lv_iload_n hx hb dX10_stock_0 rfl (lv_at hl 1 rfl) ?_
  obtain ⟨r_1, hcl, h⟩ := bndX0_n h
  refine call_S0 X hW m_5_102 m_5_103 mv_X10_checkItem (c_X10_checkItem hcl) (by decide) rfl rfl (Nat.le_of_ble_eq_true rfl) hl.1 dX10_stock_1 ?_
  clear hW hcl; intro H locs hW
  refine lv_aload_n hx hb dX10_stock_4 rfl (lv_at hl 0 rfl) ?_
  refine gf_X10_now X hW h0 m_2_69 dX10_stock_5 ?_
  refine gf_X2_stock X hW (kf_X10_now h0) m_1_142 dX10_stock_8 ?_
  refine lv_iload_n hx hb dX10_stock_11 rfl (lv_at hl 1 rfl) ?_
  obtain ⟨r_2, hcl, h⟩ := bind_el h
  refine call_S1 X hW m_5_71 m_2_178 mv_X10_at (c_X10_at (kf_X2_stock (kf_X10_now h0)) hcl) (by decide) rfl rfl (Nat.le_of_ble_eq_true rfl) hl.1 dX10_stock_12 ?_
  clear hW hcl; intro H locs hW
  replace h := xr_el0 h
  exact ri_end0 hret h dX10_stock_15 hW
set_option maxRecDepth 20000 in
set_option maxHeartbeats 4000000 in
theorem x_X10_stock {G : Gt} {l : Launch} {v0 : Nat} (h0 : kd v0 = 9) {v1 : Int32} {σ : St} {r : Nat} (hf : pf_X10_stock v0 v1 σ = some (.inl r)) : CtT G l yX10_stock cX10_stock 2 (some .int) 8 [.ref (gz G + (v0)), .int (v1)] σ r σ := by
  refine met_t (by decide +kernel) (Nat.le_of_ble_eq_true rfl) (by decide) ?_
  intro p e s m args below meth c Q ls X hW hthr hpr hl
  have hx := X.1.1
  have hb := X.1.2.1
  have hl : lv_has ls 2 [(0, .ref (gz G + (v0))), (1, .int (v1))] := hl
  have h := hf
  clear hf
  unfold pf_X10_stock at h
  refine lv_iload_n hx hb dX10_stock_0 rfl (lv_at hl 1 rfl) ?_
  rcases bndX0_t h with hcl | ⟨r_1, hcl, h⟩
  · exact tcall_S X hW m_5_102 m_5_103 mv_X10_checkItem (x_X10_checkItem hcl) (by decide) rfl rfl (Nat.le_of_ble_eq_true rfl) hl.1 dX10_stock_1 hpr
  refine call_S0 X hW m_5_102 m_5_103 mv_X10_checkItem (c_X10_checkItem hcl) (by decide) rfl rfl (Nat.le_of_ble_eq_true rfl) hl.1 dX10_stock_1 ?_
  clear hW hcl; intro H locs hW
  refine lv_aload_n hx hb dX10_stock_4 rfl (lv_at hl 0 rfl) ?_
  refine gf_X10_now X hW h0 m_2_69 dX10_stock_5 ?_
  refine gf_X2_stock X hW (kf_X10_now h0) m_1_142 dX10_stock_8 ?_
  refine lv_iload_n hx hb dX10_stock_11 rfl (lv_at hl 1 rfl) ?_
  obtain ⟨r_2, hcl, h⟩ := bind_el h
  refine call_S1 X hW m_5_71 m_2_178 mv_X10_at (c_X10_at (kf_X2_stock (kf_X10_now h0)) hcl) (by decide) rfl rfl (Nat.le_of_ble_eq_true rfl) hl.1 dX10_stock_12 ?_
  clear hW hcl; intro H locs hW
  cases h
set_option maxRecDepth 20000 in
set_option maxHeartbeats 4000000 in
theorem bl_X10_questAt_b21 {σ : St} (X : Cx G p R s m args c cells slots cX10_questAt 2 RX10 7) {r : Nat} (hret : R_A G p l e R s m args below meth c cells slots Q cX10_questAt (.ref (gz G + r)) σ) :
    ∀ (_ : pf_X10_questAt_b21 σ = some (.inr r)) (H : Heap) (locs : List Loc) (ls : Array Slot) (_ : GW G σ s H locs) (_ : lv_has ls 2 []), W p l e R s m args below meth c H locs cells slots Q (F0 m 21 ls []) := by
  have hx := X.1.1
  have hb := X.1.2.1
  intro h H locs ls hW hl
  unfold pf_X10_questAt_b21 at h
  cases h
set_option maxRecDepth 20000 in
set_option maxHeartbeats 4000000 in
theorem c_X10_questAt {G : Gt} {l : Launch} {v0 : Nat} (h0 : kd v0 = 9) {v1 : Int32} {σ : St} {r : Nat} (hf : pf_X10_questAt v0 v1 σ = some (.inr r)) : Ct G l yX10_questAt cX10_questAt 2 (some (.object "QuestLedger$Quest")) 7 [.ref (gz G + (v0)), .int (v1)] σ (some (.ref (gz G + r))) σ := by
  refine met_a (by decide +kernel) (Nat.le_of_ble_eq_true rfl) rfl (Or.inl ⟨_, rfl⟩) (Or.inr ⟨_, rfl⟩) ?_
  intro p e s m args below meth c Q ls X hW hret hl
  have hx := X.1.1
  have hb := X.1.2.1
  have hl : lv_has ls 2 [(0, .ref (gz G + (v0))), (1, .int (v1))] := hl
  have h := hf
  clear hf
  unfold pf_X10_questAt at h
  refine lv_iload_n hx hb dX10_questAt_0 rfl (lv_at hl 1 rfl) ?_
  refine lv_if_lt (tgt := 21) hx hb dX10_questAt_1 (by decide) (fun hc => ?_) (fun hc => ?_)
  · replace h := if_t hc h
    exact bl_X10_questAt_b21 X hret h _ _ _ hW (lv_sub hl [] rfl)
  · replace h := if_f hc h
    refine lv_iload_n hx hb dX10_questAt_4 rfl (lv_at hl 1 rfl) ?_
    refine lv_aload_n hx hb dX10_questAt_5 rfl (lv_at hl 0 rfl) ?_
    refine gf_X10_now X hW h0 m_2_69 dX10_questAt_6 ?_
    refine gf_X2_questCount X hW (kf_X10_now h0) m_1_153 dX10_questAt_9 ?_
    refine lv_icmp_ge (tgt := 21) hx hb dX10_questAt_12 (by decide) (fun hc => ?_) (fun hc => ?_)
    · replace h := if_t hc h
      exact bl_X10_questAt_b21 X hret h _ _ _ hW (lv_sub hl [] rfl)
    · replace h := if_f hc h
      refine lv_iload_n hx hb dX10_questAt_15 rfl (lv_at hl 1 rfl) ?_
      refine lv_bipush (v := 6) hx hb dX10_questAt_16 (by decide) ?_
      refine lv_icmp_lt (tgt := 29) hx hb dX10_questAt_18 (by decide) (fun hc => ?_) (fun hc => ?_)
      · replace h := if_t hc h
        refine lv_aload_n hx hb dX10_questAt_29 rfl (lv_at hl 0 rfl) ?_
        refine gf_X10_now X hW h0 m_2_69 dX10_questAt_30 ?_
        refine gf_X2_quests X hW (kf_X10_now h0) m_1_150 dX10_questAt_33 ?_
        refine lv_iload_n hx hb dX10_questAt_36 rfl (lv_at hl 1 rfl) ?_
        obtain ⟨hi1, h⟩ := ckI_el h
        refine r_qald X hW (kf_X2_quests (kf_X10_now h0)) hi1 dX10_questAt_37 ?_
        replace h := xr_el0 h
        exact rq_end hret h dX10_questAt_38 hW
      · replace h := if_f hc h
        exact bl_X10_questAt_b21 X hret h _ _ _ hW (lv_sub hl [] rfl)
set_option maxRecDepth 20000 in
set_option maxHeartbeats 4000000 in
theorem xl_X10_questAt_b21 {σ : St} (X : Cx G p R s m args c cells slots cX10_questAt 2 RX10 7) {r : Nat} (hthr : R_X G p l e R s m args below meth c cells slots Q cX10_questAt 2 RX10 r σ) (hpr : R_P G p l e R s m args below meth c cells slots Q r σ) :
    ∀ (_ : pf_X10_questAt_b21 σ = some (.inl r)) (H : Heap) (locs : List Loc) (ls : Array Slot) (_ : GW G σ s H locs) (_ : lv_has ls 2 []), W p l e R s m args below meth c H locs cells slots Q (F0 m 21 ls []) := by
  have hx := X.1.1
  have hb := X.1.2.1
  intro h H locs ls hW hl
  unfold pf_X10_questAt_b21 at h
  exact thr_end0 hthr h dX10_questAt_21 dX10_questAt_24 dX10_questAt_25 dX10_questAt_28 exw_2_283 hW (Nat.le_of_ble_eq_true rfl) hl.1
set_option maxRecDepth 20000 in
set_option maxHeartbeats 4000000 in
theorem x_X10_questAt {G : Gt} {l : Launch} {v0 : Nat} (h0 : kd v0 = 9) {v1 : Int32} {σ : St} {r : Nat} (hf : pf_X10_questAt v0 v1 σ = some (.inl r)) : CtT G l yX10_questAt cX10_questAt 2 (some (.object "QuestLedger$Quest")) 7 [.ref (gz G + (v0)), .int (v1)] σ r σ := by
  refine met_t (by decide +kernel) (Nat.le_of_ble_eq_true rfl) (by decide) ?_
  intro p e s m args below meth c Q ls X hW hthr hpr hl
  have hx := X.1.1
  have hb := X.1.2.1
  have hl : lv_has ls 2 [(0, .ref (gz G + (v0))), (1, .int (v1))] := hl
  have h := hf
  clear hf
  unfold pf_X10_questAt at h
  refine lv_iload_n hx hb dX10_questAt_0 rfl (lv_at hl 1 rfl) ?_
  refine lv_if_lt (tgt := 21) hx hb dX10_questAt_1 (by decide) (fun hc => ?_) (fun hc => ?_)
  · replace h := if_t hc h
    exact xl_X10_questAt_b21 X hthr hpr h _ _ _ hW (lv_sub hl [] rfl)
  · replace h := if_f hc h
    refine lv_iload_n hx hb dX10_questAt_4 rfl (lv_at hl 1 rfl) ?_
    refine lv_aload_n hx hb dX10_questAt_5 rfl (lv_at hl 0 rfl) ?_
    refine gf_X10_now X hW h0 m_2_69 dX10_questAt_6 ?_
    refine gf_X2_questCount X hW (kf_X10_now h0) m_1_153 dX10_questAt_9 ?_
    refine lv_icmp_ge (tgt := 21) hx hb dX10_questAt_12 (by decide) (fun hc => ?_) (fun hc => ?_)
    · replace h := if_t hc h
      exact xl_X10_questAt_b21 X hthr hpr h _ _ _ hW (lv_sub hl [] rfl)
    · replace h := if_f hc h
      refine lv_iload_n hx hb dX10_questAt_15 rfl (lv_at hl 1 rfl) ?_
      refine lv_bipush (v := 6) hx hb dX10_questAt_16 (by decide) ?_
      refine lv_icmp_lt (tgt := 29) hx hb dX10_questAt_18 (by decide) (fun hc => ?_) (fun hc => ?_)
      · replace h := if_t hc h
        refine lv_aload_n hx hb dX10_questAt_29 rfl (lv_at hl 0 rfl) ?_
        refine gf_X10_now X hW h0 m_2_69 dX10_questAt_30 ?_
        refine gf_X2_quests X hW (kf_X10_now h0) m_1_150 dX10_questAt_33 ?_
        refine lv_iload_n hx hb dX10_questAt_36 rfl (lv_at hl 1 rfl) ?_
        obtain ⟨hi1, h⟩ := ckI_el h
        refine r_qald X hW (kf_X2_quests (kf_X10_now h0)) hi1 dX10_questAt_37 ?_
        cases h
      · replace h := if_f hc h
        exact xl_X10_questAt_b21 X hthr hpr h _ _ _ hW (lv_sub hl [] rfl)
set_option maxRecDepth 20000 in
set_option maxHeartbeats 4000000 in
theorem c_X10_quest {G : Gt} {l : Launch} {v0 : Nat} (h0 : kd v0 = 9) {v1 : Int32} {v2 : Int32} {σ : St} {r : Int32} (hf : pf_X10_quest v0 v1 v2 σ = some (.inr r)) : Ct G l yX10_quest cX10_quest 4 (some .int) 8 [.ref (gz G + (v0)), .int (v1), .int (v2)] σ (some (.int r)) σ := by
  refine met_i (by decide +kernel) (Nat.le_of_ble_eq_true rfl) rfl ?_
  intro p e s m args below meth c Q ls X hW hret hl
  have hx := X.1.1
  have hb := X.1.2.1
  have hl : lv_has ls 4 [(0, .ref (gz G + (v0))), (1, .int (v1)), (2, .int (v2))] := hl
  have h := hf
  clear hf
  unfold pf_X10_quest at h
  refine lv_aload_n hx hb dX10_quest_0 rfl (lv_at hl 0 rfl) ?_
  refine lv_iload_n hx hb dX10_quest_1 rfl (lv_at hl 1 rfl) ?_
  obtain ⟨r_1, hcl, h⟩ := bndX0_n h
  refine call_V1 X hW (kC_X10 h0) m_4_156 m_4_158 m_0_10 mv_X10_questAt (c_X10_questAt h0 hcl) (by decide) rfl rfl (Nat.le_of_ble_eq_true rfl) hl.1 dX10_quest_2 ?_
  clear hW hcl; intro H locs hW
  obtain ⟨hk2, h⟩ := ckK_el h
  refine lv_astore_n (lv' := [(3, .ref (gz G + (r_1))), (0, .ref (gz G + (v0))), (1, .int (v1)), (2, .int (v2))]) hx hb dX10_quest_5 rfl hl (by decide) rfl ?_
  clear hl; intro ls hl
  refine lv_iload_n hx hb dX10_quest_6 rfl (lv_at hl 3 rfl) ?_
  by_cases hc0 : v2 = 0
  · replace h := if_t hc0 h
    refine lv_tableIn (off := 45) (tgt := 52) hx hb dX10_quest_7 (by rw [hc0]; decide) (by rw [hc0]; decide) (by rw [hc0]; rfl) (by decide) ?_
    refine lv_aload_n hx hb dX10_quest_52 rfl (lv_at hl 0 rfl) ?_
    refine gf_X3_stepCount X hW hk2 m_1_62 dX10_quest_53 ?_
    replace h := xr_el0 h
    exact ri_end0 hret h dX10_quest_56 hW
  replace h := if_f hc0 h
  by_cases hc1 : v2 = 1
  · replace h := if_t hc1 h
    refine lv_tableIn (off := 50) (tgt := 57) hx hb dX10_quest_7 (by rw [hc1]; decide) (by rw [hc1]; decide) (by rw [hc1]; rfl) (by decide) ?_
    refine lv_aload_n hx hb dX10_quest_57 rfl (lv_at hl 0 rfl) ?_
    refine gf_X3_status X hW hk2 m_1_67 dX10_quest_58 ?_
    replace h := xr_el0 h
    exact ri_end0 hret h dX10_quest_61 hW
  replace h := if_f hc1 h
  by_cases hc2 : v2 = 2
  · replace h := if_t hc2 h
    refine lv_tableIn (off := 55) (tgt := 62) hx hb dX10_quest_7 (by rw [hc2]; decide) (by rw [hc2]; decide) (by rw [hc2]; rfl) (by decide) ?_
    refine lv_aload_n hx hb dX10_quest_62 rfl (lv_at hl 0 rfl) ?_
    refine gf_X3_done X hW hk2 m_1_70 dX10_quest_63 ?_
    replace h := xr_el0 h
    exact ri_end0 hret h dX10_quest_66 hW
  replace h := if_f hc2 h
  by_cases hc3 : v2 = 3
  · replace h := if_t hc3 h
    refine lv_tableIn (off := 60) (tgt := 67) hx hb dX10_quest_7 (by rw [hc3]; decide) (by rw [hc3]; decide) (by rw [hc3]; rfl) (by decide) ?_
    refine lv_aload_n hx hb dX10_quest_67 rfl (lv_at hl 0 rfl) ?_
    obtain ⟨r_3, hcl, h⟩ := bind_el h
    refine call_V1 X hW (kC_X3 hk2) m_5_89 m_5_90 m_5_91 mv_X3_brokenSteps (c_X3_brokenSteps hk2 hcl) (by decide) rfl rfl (Nat.le_of_ble_eq_true rfl) hl.1 dX10_quest_68 ?_
    clear hW hcl; intro H locs hW
    replace h := xr_el0 h
    exact ri_end0 hret h dX10_quest_71 hW
  replace h := if_f hc3 h
  by_cases hc4 : v2 = 4
  · replace h := if_t hc4 h
    refine lv_tableIn (off := 65) (tgt := 72) hx hb dX10_quest_7 (by rw [hc4]; decide) (by rw [hc4]; decide) (by rw [hc4]; rfl) (by decide) ?_
    refine lv_aload_n hx hb dX10_quest_72 rfl (lv_at hl 0 rfl) ?_
    refine gf_X3_rewardItem X hW hk2 m_1_75 dX10_quest_73 ?_
    replace h := xr_el0 h
    exact ri_end0 hret h dX10_quest_76 hW
  replace h := if_f hc4 h
  by_cases hc5 : v2 = 5
  · replace h := if_t hc5 h
    refine lv_tableIn (off := 70) (tgt := 77) hx hb dX10_quest_7 (by rw [hc5]; decide) (by rw [hc5]; decide) (by rw [hc5]; rfl) (by decide) ?_
    refine lv_aload_n hx hb dX10_quest_77 rfl (lv_at hl 0 rfl) ?_
    refine gf_X3_rewardAmount X hW hk2 m_1_79 dX10_quest_78 ?_
    replace h := xr_el0 h
    exact ri_end0 hret h dX10_quest_81 hW
  replace h := if_f hc5 h
  by_cases hc6 : v2 = 6
  · replace h := if_t hc6 h
    refine lv_tableIn (off := 75) (tgt := 82) hx hb dX10_quest_7 (by rw [hc6]; decide) (by rw [hc6]; decide) (by rw [hc6]; rfl) (by decide) ?_
    refine lv_aload_n hx hb dX10_quest_82 rfl (lv_at hl 0 rfl) ?_
    obtain ⟨r_4, hcl, h⟩ := bind_el h
    refine call_V1 X hW (kC_X3 hk2) m_2_173 m_2_174 m_2_175 mv_X3_sumOfFails (c_X3_sumOfFails hk2 hcl) (by decide) rfl rfl (Nat.le_of_ble_eq_true rfl) hl.1 dX10_quest_83 ?_
    clear hW hcl; intro H locs hW
    replace h := xr_el0 h
    exact ri_end0 hret h dX10_quest_86 hW
  replace h := if_f hc6 h
  by_cases hc7 : v2 = 7
  · replace h := if_t hc7 h
    refine lv_tableIn (off := 80) (tgt := 87) hx hb dX10_quest_7 (by rw [hc7]; decide) (by rw [hc7]; decide) (by rw [hc7]; rfl) (by decide) ?_
    refine lv_aload_n hx hb dX10_quest_87 rfl (lv_at hl 0 rfl) ?_
    refine lv_aload_n hx hb dX10_quest_88 rfl (lv_at hl 1 rfl) ?_
    refine gf_X10_now X hW h0 m_2_69 dX10_quest_89 ?_
    refine gf_X2_stock X hW (kf_X10_now h0) m_1_142 dX10_quest_92 ?_
    obtain ⟨r_5, hcl, h⟩ := bind_el h
    refine call_V1 X hW (kC_X3 hk2) m_5_93 m_5_94 m_5_95 mv_X3_stepsToTry (c_X3_stepsToTry hk2 (kf_X2_stock (kf_X10_now h0)) hcl) (by decide) rfl rfl (Nat.le_of_ble_eq_true rfl) hl.1 dX10_quest_95 ?_
    clear hW hcl; intro H locs hW
    replace h := xr_el0 h
    exact ri_end0 hret h dX10_quest_98 hW
  replace h := if_f hc7 h
  refine lv_tableOut (tgt := 99) hx hb dX10_quest_7 (tb_out (n := 8) (by decide) rfl (fun k hk => match k, hk with | 0, _ => hc0 | 1, _ => hc1 | 2, _ => hc2 | 3, _ => hc3 | 4, _ => hc4 | 5, _ => hc5 | 6, _ => hc6 | 7, _ => hc7 | k + 8, hk => absurd hk (by omega))) (by decide) ?_
  skip
  cases h
set_option maxRecDepth 20000 in
set_option maxHeartbeats 4000000 in
theorem x_X10_quest {G : Gt} {l : Launch} {v0 : Nat} (h0 : kd v0 = 9) {v1 : Int32} {v2 : Int32} {σ : St} {r : Nat} (hf : pf_X10_quest v0 v1 v2 σ = some (.inl r)) : CtT G l yX10_quest cX10_quest 4 (some .int) 8 [.ref (gz G + (v0)), .int (v1), .int (v2)] σ r σ := by
  refine met_t (by decide +kernel) (Nat.le_of_ble_eq_true rfl) (by decide) ?_
  intro p e s m args below meth c Q ls X hW hthr hpr hl
  have hx := X.1.1
  have hb := X.1.2.1
  have hl : lv_has ls 4 [(0, .ref (gz G + (v0))), (1, .int (v1)), (2, .int (v2))] := hl
  have h := hf
  clear hf
  unfold pf_X10_quest at h
  refine lv_aload_n hx hb dX10_quest_0 rfl (lv_at hl 0 rfl) ?_
  refine lv_iload_n hx hb dX10_quest_1 rfl (lv_at hl 1 rfl) ?_
  rcases bndX0_t h with hcl | ⟨r_1, hcl, h⟩
  · exact tcall_V X hW (kC_X10 h0) m_4_156 m_4_158 m_0_10 mv_X10_questAt (x_X10_questAt h0 hcl) (by decide) rfl rfl (Nat.le_of_ble_eq_true rfl) hl.1 dX10_quest_2 hpr
  refine call_V1 X hW (kC_X10 h0) m_4_156 m_4_158 m_0_10 mv_X10_questAt (c_X10_questAt h0 hcl) (by decide) rfl rfl (Nat.le_of_ble_eq_true rfl) hl.1 dX10_quest_2 ?_
  clear hW hcl; intro H locs hW
  obtain ⟨hk2, h⟩ := ckK_el h
  refine lv_astore_n (lv' := [(3, .ref (gz G + (r_1))), (0, .ref (gz G + (v0))), (1, .int (v1)), (2, .int (v2))]) hx hb dX10_quest_5 rfl hl (by decide) rfl ?_
  clear hl; intro ls hl
  refine lv_iload_n hx hb dX10_quest_6 rfl (lv_at hl 3 rfl) ?_
  by_cases hc0 : v2 = 0
  · replace h := if_t hc0 h
    refine lv_tableIn (off := 45) (tgt := 52) hx hb dX10_quest_7 (by rw [hc0]; decide) (by rw [hc0]; decide) (by rw [hc0]; rfl) (by decide) ?_
    refine lv_aload_n hx hb dX10_quest_52 rfl (lv_at hl 0 rfl) ?_
    refine gf_X3_stepCount X hW hk2 m_1_62 dX10_quest_53 ?_
    cases h
  replace h := if_f hc0 h
  by_cases hc1 : v2 = 1
  · replace h := if_t hc1 h
    refine lv_tableIn (off := 50) (tgt := 57) hx hb dX10_quest_7 (by rw [hc1]; decide) (by rw [hc1]; decide) (by rw [hc1]; rfl) (by decide) ?_
    refine lv_aload_n hx hb dX10_quest_57 rfl (lv_at hl 0 rfl) ?_
    refine gf_X3_status X hW hk2 m_1_67 dX10_quest_58 ?_
    cases h
  replace h := if_f hc1 h
  by_cases hc2 : v2 = 2
  · replace h := if_t hc2 h
    refine lv_tableIn (off := 55) (tgt := 62) hx hb dX10_quest_7 (by rw [hc2]; decide) (by rw [hc2]; decide) (by rw [hc2]; rfl) (by decide) ?_
    refine lv_aload_n hx hb dX10_quest_62 rfl (lv_at hl 0 rfl) ?_
    refine gf_X3_done X hW hk2 m_1_70 dX10_quest_63 ?_
    cases h
  replace h := if_f hc2 h
  by_cases hc3 : v2 = 3
  · replace h := if_t hc3 h
    refine lv_tableIn (off := 60) (tgt := 67) hx hb dX10_quest_7 (by rw [hc3]; decide) (by rw [hc3]; decide) (by rw [hc3]; rfl) (by decide) ?_
    refine lv_aload_n hx hb dX10_quest_67 rfl (lv_at hl 0 rfl) ?_
    obtain ⟨r_3, hcl, h⟩ := bind_el h
    refine call_V1 X hW (kC_X3 hk2) m_5_89 m_5_90 m_5_91 mv_X3_brokenSteps (c_X3_brokenSteps hk2 hcl) (by decide) rfl rfl (Nat.le_of_ble_eq_true rfl) hl.1 dX10_quest_68 ?_
    clear hW hcl; intro H locs hW
    cases h
  replace h := if_f hc3 h
  by_cases hc4 : v2 = 4
  · replace h := if_t hc4 h
    refine lv_tableIn (off := 65) (tgt := 72) hx hb dX10_quest_7 (by rw [hc4]; decide) (by rw [hc4]; decide) (by rw [hc4]; rfl) (by decide) ?_
    refine lv_aload_n hx hb dX10_quest_72 rfl (lv_at hl 0 rfl) ?_
    refine gf_X3_rewardItem X hW hk2 m_1_75 dX10_quest_73 ?_
    cases h
  replace h := if_f hc4 h
  by_cases hc5 : v2 = 5
  · replace h := if_t hc5 h
    refine lv_tableIn (off := 70) (tgt := 77) hx hb dX10_quest_7 (by rw [hc5]; decide) (by rw [hc5]; decide) (by rw [hc5]; rfl) (by decide) ?_
    refine lv_aload_n hx hb dX10_quest_77 rfl (lv_at hl 0 rfl) ?_
    refine gf_X3_rewardAmount X hW hk2 m_1_79 dX10_quest_78 ?_
    cases h
  replace h := if_f hc5 h
  by_cases hc6 : v2 = 6
  · replace h := if_t hc6 h
    refine lv_tableIn (off := 75) (tgt := 82) hx hb dX10_quest_7 (by rw [hc6]; decide) (by rw [hc6]; decide) (by rw [hc6]; rfl) (by decide) ?_
    refine lv_aload_n hx hb dX10_quest_82 rfl (lv_at hl 0 rfl) ?_
    obtain ⟨r_4, hcl, h⟩ := bind_el h
    refine call_V1 X hW (kC_X3 hk2) m_2_173 m_2_174 m_2_175 mv_X3_sumOfFails (c_X3_sumOfFails hk2 hcl) (by decide) rfl rfl (Nat.le_of_ble_eq_true rfl) hl.1 dX10_quest_83 ?_
    clear hW hcl; intro H locs hW
    cases h
  replace h := if_f hc6 h
  by_cases hc7 : v2 = 7
  · replace h := if_t hc7 h
    refine lv_tableIn (off := 80) (tgt := 87) hx hb dX10_quest_7 (by rw [hc7]; decide) (by rw [hc7]; decide) (by rw [hc7]; rfl) (by decide) ?_
    refine lv_aload_n hx hb dX10_quest_87 rfl (lv_at hl 0 rfl) ?_
    refine lv_aload_n hx hb dX10_quest_88 rfl (lv_at hl 1 rfl) ?_
    refine gf_X10_now X hW h0 m_2_69 dX10_quest_89 ?_
    refine gf_X2_stock X hW (kf_X10_now h0) m_1_142 dX10_quest_92 ?_
    obtain ⟨r_5, hcl, h⟩ := bind_el h
    refine call_V1 X hW (kC_X3 hk2) m_5_93 m_5_94 m_5_95 mv_X3_stepsToTry (c_X3_stepsToTry hk2 (kf_X2_stock (kf_X10_now h0)) hcl) (by decide) rfl rfl (Nat.le_of_ble_eq_true rfl) hl.1 dX10_quest_95 ?_
    clear hW hcl; intro H locs hW
    cases h
  replace h := if_f hc7 h
  refine lv_tableOut (tgt := 99) hx hb dX10_quest_7 (tb_out (n := 8) (by decide) rfl (fun k hk => match k, hk with | 0, _ => hc0 | 1, _ => hc1 | 2, _ => hc2 | 3, _ => hc3 | 4, _ => hc4 | 5, _ => hc5 | 6, _ => hc6 | 7, _ => hc7 | k + 8, hk => absurd hk (by omega))) (by decide) ?_
  skip
  exact thr_end0 hthr h dX10_quest_99 dX10_quest_102 dX10_quest_103 dX10_quest_106 exw_1_66 hW (Nat.le_of_ble_eq_true rfl) hl.1
end
