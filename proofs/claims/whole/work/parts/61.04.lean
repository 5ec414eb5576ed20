section
variable {G : Gt} {p : Program} {l : Launch} {e : Env} {R : Room} {s : State} {m : MethodId} {args : Array Value} {below : List Frame} {meth : Method} {c : Code} {cells slots : Nat} {Q : State → Prop}
set_option maxRecDepth 20000 in
set_option maxHeartbeats 4000000 in
theorem c_X7_countEndings {G : Gt} {l : Launch} {v0 : Nat} (h0 : kd v0 = 6) {v1 : Nat} (h1 : kd v1 = 3) {σ : St} {r : Int32} (hf : pf_X7_countEndings v0 v1 σ = some r) : Ct G l yX7_countEndings cX7_countEndings 2 (some .int) 3 [.ref (gz G + (v0)), .ref (gz G + (v1))] σ (some (.int r)) σ := by
  refine met_i (by decide +kernel) (Nat.le_of_ble_eq_true rfl) rfl ?_
  intro p e s m args below meth c Q ls X hW hret hl
  have hx := X.1.1
  have hb := X.1.2.1
  have hl : lv_has ls 2 [(0, .ref (gz G + (v0))), (1, .ref (gz G + (v1)))] := hl
  have h := hf
  clear hf
  unfold pf_X7_countEndings at h
  refine lv_aload_n hx hb dX7_countEndings_0 rfl (lv_at hl 0 rfl) ?_
  refine gf_X7_reached X hW h0 m_2_35 dX7_countEndings_1 ?_
  refine lv_aload_n hx hb dX7_countEndings_4 rfl (lv_at hl 1 rfl) ?_
  refine gf_X3_goal X hW h1 m_1_73 dX7_countEndings_5 ?_
  refine lv_land hx hb dX7_countEndings_8 ?_
  obtain ⟨r_1, hcl, h⟩ := bind_el h
  refine call_S1 X hW m_5_105 m_5_106 mv_J13_bitCount_95d88 (c_J13_bitCount_95d88 hcl) (by decide) rfl rfl (Nat.le_of_ble_eq_true rfl) hl.1 dX7_countEndings_9 ?_
  clear hW hcl; intro H locs hW
  exact ri_end0 hret h dX7_countEndings_12 hW
set_option maxRecDepth 20000 in
set_option maxHeartbeats 4000000 in
theorem c_X8_see {G : Gt} {l : Launch} {v0 : Nat} (h0 : kd v0 = 7) {v1 : Int32} {v2 : Int32} {σ : St} {σ' : St} (hf : pf_X8_see v0 v1 v2 σ = some σ') : Ct G l yX8_see cX8_see 3 none 3 [.ref (gz G + (v0)), .int (v1), .int (v2)] σ none σ' := by
  refine met_v (by decide +kernel) (Nat.le_of_ble_eq_true rfl) rfl ?_
  intro p e s m args below meth c Q ls X hW hret hl
  have hx := X.1.1
  have hb := X.1.2.1
  have hl : lv_has ls 3 [(0, .ref (gz G + (v0))), (1, .int (v1)), (2, .int (v2))] := hl
  have h := hf
  clear hf
  unfold pf_X8_see at h
  refine lv_aload_n hx hb dX8_see_0 rfl (lv_at hl 0 rfl) ?_
  refine gf_X8_seen X hW h0 m_2_53 dX8_see_1 ?_
  refine lv_iconst (v := (-1)) hx hb dX8_see_4 (by decide) ?_
  refine lv_iload_n hx hb dX8_see_5 rfl (lv_at hl 1 rfl) ?_
  refine lv_isub hx hb dX8_see_6 ?_
  refine lv_iload_n hx hb dX8_see_7 rfl (lv_at hl 2 rfl) ?_
  obtain ⟨σ_1, hcl, h⟩ := bind_el h
  refine call_SN0 X hW m_2_205 m_2_98 mv_X10_put (c_X10_put (kf_X8_seen h0) hcl) (by decide) rfl rfl (Nat.le_of_ble_eq_true rfl) hl.1 dX8_see_8 ?_
  clear hW hcl; intro H locs hW
  exact rv_end hret h dX8_see_11 hW
set_option maxRecDepth 20000 in
set_option maxHeartbeats 4000000 in
theorem c_J9_max_f86c9 {G : Gt} {l : Launch} {v0 : Int64} {v2 : Int64} {σ : St} {r : Int64} (hf : pf_J9_max_f86c9 v0 v2 σ = some r) : Ct G l yJ9_max_f86c9 cJ9_max_f86c9 4 (some .long) 2 [.long (v0), .long (v2)] σ (some (.long r)) σ := by
  refine met_l (by decide +kernel) (Nat.le_of_ble_eq_true rfl) rfl ?_
  intro p e s m args below meth c Q ls X hW hret hl
  have hx := X.1.1
  have hb := X.1.2.1
  have hl : lv_has ls 4 [(0, .long (v0)), (2, .long (v2))] := hl
  have h := hf
  clear hf
  unfold pf_J9_max_f86c9 at h
  refine lv_lload_n hx hb dJ9_max_f86c9_0 rfl (lv_at hl 0 rfl) ?_
  refine lv_lload_n hx hb dJ9_max_f86c9_1 rfl (lv_at hl 1 rfl) ?_
  refine W.lcmp hx hb dJ9_max_f86c9_2 ?_
  refine lv_if_lt (tgt := 10) hx hb dJ9_max_f86c9_3 (by decide) (fun hc => ?_) (fun hc => ?_)
  · replace h := if_t (lcmp_lt.mp hc) h
    refine lv_lload_n hx hb dJ9_max_f86c9_10 rfl (lv_at hl 1 rfl) ?_
    exact rl_end0 hret h dJ9_max_f86c9_11 hW
  · replace h := if_f (fun q => hc (lcmp_lt.mpr q)) h
    refine lv_lload_n hx hb dJ9_max_f86c9_6 rfl (lv_at hl 0 rfl) ?_
    refine lv_goto (tgt := 11) hx hb dJ9_max_f86c9_7 (by decide) ?_
    exact rl_end0 hret h dJ9_max_f86c9_11 hW
set_option maxRecDepth 20000 in
set_option maxHeartbeats 4000000 in
theorem c_J9_min_f86c9 {G : Gt} {l : Launch} {v0 : Int64} {v2 : Int64} {σ : St} {r : Int64} (hf : pf_J9_min_f86c9 v0 v2 σ = some r) : Ct G l yJ9_min_f86c9 cJ9_min_f86c9 4 (some .long) 2 [.long (v0), .long (v2)] σ (some (.long r)) σ := by
  refine met_l (by decide +kernel) (Nat.le_of_ble_eq_true rfl) rfl ?_
  intro p e s m args below meth c Q ls X hW hret hl
  have hx := X.1.1
  have hb := X.1.2.1
  have hl : lv_has ls 4 [(0, .long (v0)), (2, .long (v2))] := hl
  have h := hf
  clear hf
  unfold pf_J9_min_f86c9 at h
  refine lv_lload_n hx hb dJ9_min_f86c9_0 rfl (lv_at hl 0 rfl) ?_
  refine lv_lload_n hx hb dJ9_min_f86c9_1 rfl (lv_at hl 1 rfl) ?_
  refine W.lcmp hx hb dJ9_min_f86c9_2 ?_
  refine lv_if_gt (tgt := 10) hx hb dJ9_min_f86c9_3 (by decide) (fun hc => ?_) (fun hc => ?_)
  · replace h := if_t (lcmp_gt.mp hc) h
    refine lv_lload_n hx hb dJ9_min_f86c9_10 rfl (lv_at hl 1 rfl) ?_
    exact rl_end0 hret h dJ9_min_f86c9_11 hW
  · replace h := if_f (fun q => hc (lcmp_gt.mpr q)) h
    refine lv_lload_n hx hb dJ9_min_f86c9_6 rfl (lv_at hl 0 rfl) ?_
    refine lv_goto (tgt := 11) hx hb dJ9_min_f86c9_7 (by decide) ?_
    exact rl_end0 hret h dJ9_min_f86c9_11 hW
set_option maxRecDepth 20000 in
set_option maxHeartbeats 4000000 in
theorem bl_X8_join_b59 {σ : St} (X : Cx G p R s m args c cells slots cX8_join 5 RX8 3) {r : Int32} (hret : R_I G p l e R s m args below meth c cells slots Q cX8_join r σ) :
    ∀ (v3 : Int64) (_ : pf_X8_join_b59 σ v3 = some r) (H : Heap) (locs : List Loc) (ls : Array Slot) (_ : GW G σ s H locs) (_ : lv_has ls 5 [(3, .long (v3))]), W p l e R s m args below meth c H locs cells slots Q (F0 m 59 ls []) := by
  have hx := X.1.1
  have hb := X.1.2.1
  intro v3 h H locs ls hW hl
  unfold pf_X8_join_b59 at h
  refine lv_ldc2 (v := (-1000000)) hx hb X.1.2.2.2.1 (X.1.2.2.2.2 _ m_3_6) dX8_join_59 ?_
  refine lv_ldc2 (v := 1000000) hx hb X.1.2.2.2.1 (X.1.2.2.2.2 _ m_3_7) dX8_join_62 ?_
  refine lv_lload_n hx hb dX8_join_65 rfl (lv_at hl 0 rfl) ?_
  obtain ⟨r_1, hcl, h⟩ := bind_el h
  refine call_S1 X hW m_3_8 m_3_9 mv_J9_min_f86c9 (c_J9_min_f86c9 hcl) (by decide) rfl rfl (Nat.le_of_ble_eq_true rfl) hl.1 dX8_join_66 ?_
  clear hW hcl; intro H locs hW
  obtain ⟨r_2, hcl, h⟩ := bind_el h
  refine call_S1 X hW m_3_11 m_3_12 mv_J9_max_f86c9 (c_J9_max_f86c9 hcl) (by decide) rfl rfl (Nat.le_of_ble_eq_true rfl) hl.1 dX8_join_69 ?_
  clear hW hcl; intro H locs hW
  refine lv_l2i hx hb dX8_join_72 rfl ?_
  exact ri_end0 hret h dX8_join_73 hW
set_option maxRecDepth 20000 in
set_option maxHeartbeats 4000000 in
theorem bl_X8_join_b58 {σ : St} (X : Cx G p R s m args c cells slots cX8_join 5 RX8 3) {r : Int32} (hret : R_I G p l e R s m args below meth c cells slots Q cX8_join r σ) :
    ∀ (s0 : Int64) (_ : pf_X8_join_b58 σ s0 = some r) (H : Heap) (locs : List Loc) (ls : Array Slot) (_ : GW G σ s H locs) (_ : lv_has ls 5 []), W p l e R s m args below meth c H locs cells slots Q (F0 m 58 ls [.long (s0)]) := by
  have hx := X.1.1
  have hb := X.1.2.1
  intro s0 h H locs ls hW hl
  unfold pf_X8_join_b58 at h
  refine lv_lstore_n (lv' := [(3, .long (s0))]) hx hb dX8_join_58 rfl hl (by decide) rfl ?_
  clear hl; intro ls hl
  exact bl_X8_join_b59 X hret s0 h _ _ _ hW (lv_sub hl [0] rfl)
set_option maxRecDepth 20000 in
set_option maxHeartbeats 4000000 in
theorem c_X8_join {G : Gt} {l : Launch} {v0 : Int32} {v1 : Int32} {v2 : Int32} {σ : St} {r : Int32} (hf : pf_X8_join v0 v1 v2 σ = some r) : Ct G l yX8_join cX8_join 5 (some .int) 3 [.int (v0), .int (v1), .int (v2)] σ (some (.int r)) σ := by
  refine met_i (by decide +kernel) (Nat.le_of_ble_eq_true rfl) rfl ?_
  intro p e s m args below meth c Q ls X hW hret hl
  have hx := X.1.1
  have hb := X.1.2.1
  have hl : lv_has ls 5 [(0, .int (v0)), (1, .int (v1)), (2, .int (v2))] := hl
  have h := hf
  clear hf
  unfold pf_X8_join at h
  refine lv_iload_n hx hb dX8_join_0 rfl (lv_at hl 1 rfl) ?_
  refine lv_bipush (v := (-7)) hx hb dX8_join_1 (by decide) ?_
  refine lv_icmp_ne (tgt := 15) hx hb dX8_join_3 (by decide) (fun hc => ?_) (fun hc => ?_)
  · replace h := if_f hc h
    refine lv_iload_n hx hb dX8_join_15 rfl (lv_at hl 1 rfl) ?_
    refine lv_bipush (v := (-8)) hx hb dX8_join_16 (by decide) ?_
    refine lv_icmp_ne (tgt := 30) hx hb dX8_join_18 (by decide) (fun hc => ?_) (fun hc => ?_)
    · replace h := if_f hc h
      refine lv_iload_n hx hb dX8_join_30 rfl (lv_at hl 1 rfl) ?_
      refine lv_bipush (v := (-9)) hx hb dX8_join_31 (by decide) ?_
      refine lv_icmp_ne (tgt := 45) hx hb dX8_join_33 (by decide) (fun hc => ?_) (fun hc => ?_)
      · replace h := if_f hc h
        refine lv_iload_n hx hb dX8_join_45 rfl (lv_at hl 2 rfl) ?_
        refine lv_if_ne (tgt := 53) hx hb dX8_join_46 (by decide) (fun hc => ?_) (fun hc => ?_)
        · replace h := if_f hc h
          refine lv_iload_n hx hb dX8_join_53 rfl (lv_at hl 0 rfl) ?_
          refine lv_i2l hx hb dX8_join_54 rfl ?_
          refine lv_iload_n hx hb dX8_join_55 rfl (lv_at hl 2 rfl) ?_
          refine lv_i2l hx hb dX8_join_56 rfl ?_
          obtain ⟨hn, h⟩ := ckL_el h
          refine lv_ldiv hx hb dX8_join_57 hn ?_
          exact bl_X8_join_b58 X hret (((v0).toInt64) / ((v2).toInt64)) h _ _ _ hW (lv_sub hl [] rfl)
        · replace h := if_t hc h
          refine lv_lconst (v := 0) hx hb dX8_join_49 (by decide) ?_
          refine lv_goto (tgt := 58) hx hb dX8_join_50 (by decide) ?_
          exact bl_X8_join_b58 X hret 0 h _ _ _ hW (lv_sub hl [] rfl)
      · replace h := if_t hc h
        refine lv_iload_n hx hb dX8_join_36 rfl (lv_at hl 0 rfl) ?_
        refine lv_i2l hx hb dX8_join_37 rfl ?_
        refine lv_iload_n hx hb dX8_join_38 rfl (lv_at hl 2 rfl) ?_
        refine lv_i2l hx hb dX8_join_39 rfl ?_
        refine lv_lmul hx hb dX8_join_40 ?_
        refine nm_l h ?_
        clear h; intro v3_3 h
        refine lv_lstore_n (lv' := [(3, .long (v3_3)), (0, .int (v0)), (1, .int (v1)), (2, .int (v2))]) hx hb dX8_join_41 rfl hl (by decide) rfl ?_
        clear hl; intro ls hl
        refine lv_goto (tgt := 59) hx hb dX8_join_42 (by decide) ?_
        exact bl_X8_join_b59 X hret v3_3 h _ _ _ hW (lv_sub hl [0] rfl)
    · replace h := if_t hc h
      refine lv_iload_n hx hb dX8_join_21 rfl (lv_at hl 0 rfl) ?_
      refine lv_i2l hx hb dX8_join_22 rfl ?_
      refine lv_iload_n hx hb dX8_join_23 rfl (lv_at hl 2 rfl) ?_
      refine lv_i2l hx hb dX8_join_24 rfl ?_
      refine lv_lsub hx hb dX8_join_25 ?_
      refine nm_l h ?_
      clear h; intro v3_2 h
      refine lv_lstore_n (lv' := [(3, .long (v3_2)), (0, .int (v0)), (1, .int (v1)), (2, .int (v2))]) hx hb dX8_join_26 rfl hl (by decide) rfl ?_
      clear hl; intro ls hl
      refine lv_goto (tgt := 59) hx hb dX8_join_27 (by decide) ?_
      exact bl_X8_join_b59 X hret v3_2 h _ _ _ hW (lv_sub hl [0] rfl)
  · replace h := if_t hc h
    refine lv_iload_n hx hb dX8_join_6 rfl (lv_at hl 0 rfl) ?_
    refine lv_i2l hx hb dX8_join_7 rfl ?_
    refine lv_iload_n hx hb dX8_join_8 rfl (lv_at hl 2 rfl) ?_
    refine lv_i2l hx hb dX8_join_9 rfl ?_
    refine lv_ladd hx hb dX8_join_10 ?_
    refine nm_l h ?_
    clear h; intro v3_1 h
    refine lv_lstore_n (lv' := [(3, .long (v3_1)), (0, .int (v0)), (1, .int (v1)), (2, .int (v2))]) hx hb dX8_join_11 rfl hl (by decide) rfl ?_
    clear hl; intro ls hl
    refine lv_goto (tgt := 59) hx hb dX8_join_12 (by decide) ?_
    exact bl_X8_join_b59 X hret v3_1 h _ _ _ hW (lv_sub hl [0] rfl)
set_option maxRecDepth 20000 in
set_option maxHeartbeats 4000000 in
theorem c_X8_pop {G : Gt} {l : Launch} {v0 : Nat} (h0 : kd v0 = 7) {σ : St} {r : Int32} {σ' : St} (hf : pf_X8_pop v0 σ = some (r, σ')) : Ct G l yX8_pop cX8_pop 1 (some .int) 3 [.ref (gz G + (v0))] σ (some (.int r)) σ' := by
  refine met_i (by decide +kernel) (Nat.le_of_ble_eq_true rfl) rfl ?_
  intro p e s m args below meth c Q ls X hW hret hl
  have hx := X.1.1
  have hb := X.1.2.1
  have hl : lv_has ls 1 [(0, .ref (gz G + (v0)))] := hl
  have h := hf
  clear hf
  unfold pf_X8_pop at h
  refine lv_aload_n hx hb dX8_pop_0 rfl (lv_at hl 0 rfl) ?_
  refine lv_dup hx hb dX8_pop_1 rfl ?_
  refine gf_X8_height X hW h0 m_2_52 dX8_pop_2 ?_
  refine lv_iconst (v := 1) hx hb dX8_pop_5 (by decide) ?_
  refine lv_isub hx hb dX8_pop_6 ?_
  refine sf_X8_height X hW h0 m_2_52 dX8_pop_7 ?_
  clear hW; intro H locs hW
  refine nm_s hW h ?_
  clear hW h; intro σ_1 hW h
  refine lv_aload_n hx hb dX8_pop_10 rfl (lv_at hl 0 rfl) ?_
  refine gf_X8_stack X hW h0 m_2_51 dX8_pop_11 ?_
  refine lv_aload_n hx hb dX8_pop_14 rfl (lv_at hl 0 rfl) ?_
  refine gf_X8_height X hW h0 m_2_52 dX8_pop_15 ?_
  obtain ⟨r_2, hcl, h⟩ := bind_el h
  refine call_SN1 X hW m_2_234 m_2_132 mv_X10_at (c_X10_at (kf_X8_stack h0) hcl) (by decide) rfl rfl (Nat.le_of_ble_eq_true rfl) hl.1 dX8_pop_18 ?_
  clear hW hcl; intro H locs hW
  exact ri_end hret h dX8_pop_21 hW
set_option maxRecDepth 20000 in
set_option maxHeartbeats 4000000 in
theorem c_X8_push {G : Gt} {l : Launch} {v0 : Nat} (h0 : kd v0 = 7) {v1 : Int32} {σ : St} {σ' : St} (hf : pf_X8_push v0 v1 σ = some σ') : Ct G l yX8_push cX8_push 2 none 3 [.ref (gz G + (v0)), .int (v1)] σ none σ' := by
  refine met_v (by decide +kernel) (Nat.le_of_ble_eq_true rfl) rfl ?_
  intro p e s m args below meth c Q ls X hW hret hl
  have hx := X.1.1
  have hb := X.1.2.1
  have hl : lv_has ls 2 [(0, .ref (gz G + (v0))), (1, .int (v1))] := hl
  have h := hf
  clear hf
  unfold pf_X8_push at h
  refine lv_aload_n hx hb dX8_push_0 rfl (lv_at hl 0 rfl) ?_
  refine gf_X8_stack X hW h0 m_2_51 dX8_push_1 ?_
  refine lv_aload_n hx hb dX8_push_4 rfl (lv_at hl 0 rfl) ?_
  refine gf_X8_height X hW h0 m_2_52 dX8_push_5 ?_
  refine lv_iload_n hx hb dX8_push_8 rfl (lv_at hl 1 rfl) ?_
  obtain ⟨σ_1, hcl, h⟩ := bind_el h
  refine call_SN0 X hW m_2_205 m_2_98 mv_X10_put (c_X10_put (kf_X8_stack h0) hcl) (by decide) rfl rfl (Nat.le_of_ble_eq_true rfl) hl.1 dX8_push_9 ?_
  clear hW hcl; intro H locs hW
  refine lv_aload_n hx hb dX8_push_12 rfl (lv_at hl 0 rfl) ?_
  refine lv_dup hx hb dX8_push_13 rfl ?_
  refine gf_X8_height X hW h0 m_2_52 dX8_push_14 ?_
  refine lv_iconst (v := 1) hx hb dX8_push_17 (by decide) ?_
  refine lv_iadd hx hb dX8_push_18 ?_
  refine sf_X8_height X hW h0 m_2_52 dX8_push_19 ?_
  clear hW; intro H locs hW
  refine nm_s hW h ?_
  clear hW h; intro σ_2 hW h
  exact rv_end hret h dX8_push_22 hW
set_option maxRecDepth 20000 in
set_option maxHeartbeats 4000000 in
theorem bl_X8_measure_b83 (X : Cx G p R s m args c cells slots cX8_measure 7 RX8 4) {r : Int32} {σ' : St} (hret : R_I G p l e R s m args below meth c cells slots Q cX8_measure r σ') {k7 : Nat → Nat → Int32 → Int32 → St → (Option (Int32 × St))}
    (hk7 : ∀ (v0 : Nat) (h0 : kd v0 = 7) (v1 : Nat) (h1 : kd v1 = 11) (v2 : Int32) (v3 : Int32) (σ : St) (_ : k7 v0 v1 v2 v3 σ = some (r, σ')) (H : Heap) (locs : List Loc) (ls : Array Slot) (_ : GW G σ s H locs) (_ : lv_has ls 7 [(0, .ref (gz G + (v0))), (1, .ref (gz G + (v1))), (2, .int (v2)), (3, .int (v3))]), W p l e R s m args below meth c H locs cells slots Q (F0 m 7 ls [])) :
    ∀ (v0 : Nat) (h0 : kd v0 = 7) (v1 : Nat) (h1 : kd v1 = 11) (v2 : Int32) (v3 : Int32) (σ : St) (_ : pf_X8_measure_b83 k7 v0 v1 v2 v3 σ = some (r, σ')) (H : Heap) (locs : List Loc) (ls : Array Slot) (_ : GW G σ s H locs) (_ : lv_has ls 7 [(0, .ref (gz G + (v0))), (1, .ref (gz G + (v1))), (2, .int (v2)), (3, .int (v3))]), W p l e R s m args below meth c H locs cells slots Q (F0 m 83 ls []) := by
  have hx := X.1.1
  have hb := X.1.2.1
  intro v0 h0 v1 h1 v2 v3 σ h H locs ls hW hl
  unfold pf_X8_measure_b83 at h
  refine w_iinc (v := 1) (lv' := fun y => [(3, .int (y)), (0, .ref (gz G + (v0))), (1, .ref (gz G + (v1))), (2, .int (v2))]) hx hb dX8_measure_83 hl (k := 3) rfl (by decide) (by decide) (fun _ => rfl) h ?_
  clear h hl; intro v3_1 h ls hl
  refine lv_goto (tgt := 7) hx hb dX8_measure_86 (by decide) ?_
  exact hk7 v0 h0 v1 h1 v2 v3_1 σ h _ _ _ hW (lv_sub hl [1, 2, 3, 0] rfl)
set_option maxRecDepth 20000 in
set_option maxHeartbeats 4000000 in
theorem bl_X8_measure_b89 (X : Cx G p R s m args c cells slots cX8_measure 7 RX8 4) {r : Int32} {σ' : St} (hret : R_I G p l e R s m args below meth c cells slots Q cX8_measure r σ') :
    ∀ (v0 : Nat) (h0 : kd v0 = 7) (σ : St) (_ : pf_X8_measure_b89 v0 σ = some (r, σ')) (H : Heap) (locs : List Loc) (ls : Array Slot) (_ : GW G σ s H locs) (_ : lv_has ls 7 [(0, .ref (gz G + (v0)))]), W p l e R s m args below meth c H locs cells slots Q (F0 m 89 ls []) := by
  have hx := X.1.1
  have hb := X.1.2.1
  intro v0 h0 σ h H locs ls hW hl
  unfold pf_X8_measure_b89 at h
  refine lv_aload_n hx hb dX8_measure_89 rfl (lv_at hl 0 rfl) ?_
  obtain ⟨r_1, σ_1, hcl, h⟩ := bnd2_el h
  refine call_V1 X hW (kC_X8 h0) m_2_239 m_3_1 m_0_11 mv_X8_pop (c_X8_pop h0 hcl) (by decide) rfl rfl (Nat.le_of_ble_eq_true rfl) hl.1 dX8_measure_90 ?_
  clear hW hcl; intro H locs hW
  exact ri_end hret h dX8_measure_93 hW
set_option maxRecDepth 20000 in
set_option maxHeartbeats 4000000 in
theorem bl_X8_measure_L7 (X : Cx G p R s m args c cells slots cX8_measure 7 RX8 4) {r : Int32} {σ' : St} (hret : R_I G p l e R s m args below meth c cells slots Q cX8_measure r σ') {k89 : Nat → St → (Option (Int32 × St))}
    (hk89 : ∀ (v0 : Nat) (h0 : kd v0 = 7) (σ : St) (_ : k89 v0 σ = some (r, σ')) (H : Heap) (locs : List Loc) (ls : Array Slot) (_ : GW G σ s H locs) (_ : lv_has ls 7 [(0, .ref (gz G + (v0)))]), W p l e R s m args below meth c H locs cells slots Q (F0 m 89 ls [])) :
    ∀ (n : Nat), ∀ (v0 : Nat) (h0 : kd v0 = 7) (v1 : Nat) (h1 : kd v1 = 11) (v2 : Int32) (v3 : Int32) (σ : St) (_ : pf_X8_measure_L7 k89 n v0 v1 v2 v3 σ = some (r, σ')) (H : Heap) (locs : List Loc) (ls : Array Slot) (_ : GW G σ s H locs) (_ : lv_has ls 7 [(0, .ref (gz G + (v0))), (1, .ref (gz G + (v1))), (2, .int (v2)), (3, .int (v3))]), W p l e R s m args below meth c H locs cells slots Q (F0 m 7 ls []) := by
  have hx := X.1.1
  have hb := X.1.2.1
  intro n
  induction n with
  | zero => intro v0 h0 v1 h1 v2 v3 σ h H locs ls hW hl; cases h
  | succ n ih =>
    intro v0 h0 v1 h1 v2 v3 σ h H locs ls hW hl
    rw [pf_X8_measure_L7.eq_2] at h
    refine lv_iload_n hx hb dX8_measure_7 rfl (lv_at hl 3 rfl) ?_
    refine lv_iload_n hx hb dX8_measure_8 rfl (lv_at hl 2 rfl) ?_
    refine lv_icmp_ge (tgt := 89) hx hb dX8_measure_9 (by decide) (fun hc => ?_) (fun hc => ?_)
    · replace h := if_t hc h
      exact hk89 v0 h0 σ h _ _ _ hW (lv_sub hl [0] rfl)
    · replace h := if_f hc h
      refine lv_aload_n hx hb dX8_measure_12 rfl (lv_at hl 1 rfl) ?_
      refine lv_iload_n hx hb dX8_measure_13 rfl (lv_at hl 3 rfl) ?_
      obtain ⟨r_1, hcl, h⟩ := bind_el h
      refine call_SN1 X hW m_2_234 m_2_132 mv_X10_at (c_X10_at h1 hcl) (by decide) rfl rfl (Nat.le_of_ble_eq_true rfl) hl.1 dX8_measure_14 ?_
      clear hW hcl; intro H locs hW
      refine lv_istore (lv' := [(4, .int (r_1)), (0, .ref (gz G + (v0))), (1, .ref (gz G + (v1))), (2, .int (v2)), (3, .int (v3))]) hx hb dX8_measure_17 hl (by decide) rfl ?_
      clear hl; intro ls hl
      refine lv_iload hx hb dX8_measure_19 (lv_at hl 0 rfl) ?_
      refine lv_if_lt (tgt := 33) hx hb dX8_measure_21 (by decide) (fun hc => ?_) (fun hc => ?_)
      · replace h := if_t hc h
        refine lv_iload hx hb dX8_measure_33 (lv_at hl 0 rfl) ?_
        refine lv_bipush (v := (-6)) hx hb dX8_measure_35 (by decide) ?_
        refine lv_icmp_lt (tgt := 58) hx hb dX8_measure_37 (by decide) (fun hc => ?_) (fun hc => ?_)
        · replace h := if_t hc h
          refine lv_aload_n hx hb dX8_measure_58 rfl (lv_at hl 1 rfl) ?_
          obtain ⟨r_2, σ_2, hcl, h⟩ := bnd2_el h
          refine call_V1 X hW (kC_X8 h0) m_2_239 m_3_1 m_0_11 mv_X8_pop (c_X8_pop h0 hcl) (by decide) rfl rfl (Nat.le_of_ble_eq_true rfl) hl.1 dX8_measure_59 ?_
          clear hW hcl; intro H locs hW
          refine lv_istore (lv' := [(5, .int (r_2)), (4, .int (r_1)), (0, .ref (gz G + (v0))), (1, .ref (gz G + (v1))), (2, .int (v2)), (3, .int (v3))]) hx hb dX8_measure_62 hl (by decide) rfl ?_
          clear hl; intro ls hl
          refine lv_aload_n hx hb dX8_measure_64 rfl (lv_at hl 2 rfl) ?_
          obtain ⟨r_3, σ_3, hcl, h⟩ := bnd2_el h
          refine call_V1 X hW (kC_X8 h0) m_2_239 m_3_1 m_0_11 mv_X8_pop (c_X8_pop h0 hcl) (by decide) rfl rfl (Nat.le_of_ble_eq_true rfl) hl.1 dX8_measure_65 ?_
          clear hW hcl; intro H locs hW
          refine lv_istore (lv' := [(6, .int (r_3)), (5, .int (r_2)), (4, .int (r_1)), (0, .ref (gz G + (v0))), (1, .ref (gz G + (v1))), (2, .int (v2)), (3, .int (v3))]) hx hb dX8_measure_68 hl (by decide) rfl ?_
          clear hl; intro ls hl
          refine lv_aload_n hx hb dX8_measure_70 rfl (lv_at hl 3 rfl) ?_
          refine lv_iload hx hb dX8_measure_71 (lv_at hl 0 rfl) ?_
          refine lv_iload hx hb dX8_measure_73 (lv_at hl 2 rfl) ?_
          refine lv_iload hx hb dX8_measure_75 (lv_at hl 1 rfl) ?_
          obtain ⟨r_4, hcl, h⟩ := bind_el h
          refine call_S1 X hW m_3_3 m_3_4 mv_X8_join (c_X8_join hcl) (by decide) rfl rfl (Nat.le_of_ble_eq_true rfl) hl.1 dX8_measure_77 ?_
          clear hW hcl; intro H locs hW
          obtain ⟨σ_5, hcl, h⟩ := bind_el h
          refine call_V0 X hW (kC_X8 h0) m_2_235 m_2_237 m_0_10 mv_X8_push (c_X8_push h0 hcl) (by decide) rfl rfl (Nat.le_of_ble_eq_true rfl) hl.1 dX8_measure_80 ?_
          clear hW hcl; intro H locs hW
          exact bl_X8_measure_b83 X hret ih v0 h0 v1 h1 v2 v3 σ_5 h _ _ _ hW (lv_sub hl [3, 4, 5, 6] rfl)
        · replace h := if_f hc h
          refine lv_aload_n hx hb dX8_measure_40 rfl (lv_at hl 1 rfl) ?_
          refine lv_aload_n hx hb dX8_measure_41 rfl (lv_at hl 1 rfl) ?_
          refine gf_X8_seen X hW h0 m_2_53 dX8_measure_42 ?_
          refine lv_iconst (v := (-1)) hx hb dX8_measure_45 (by decide) ?_
          refine lv_iload hx hb dX8_measure_46 (lv_at hl 0 rfl) ?_
          refine lv_isub hx hb dX8_measure_48 ?_
          obtain ⟨r_6, hcl, h⟩ := bind_el h
          refine call_SN1 X hW m_2_234 m_2_132 mv_X10_at (c_X10_at (kf_X8_seen h0) hcl) (by decide) rfl rfl (Nat.le_of_ble_eq_true rfl) hl.1 dX8_measure_49 ?_
          clear hW hcl; intro H locs hW
          obtain ⟨σ_7, hcl, h⟩ := bind_el h
          refine call_V0 X hW (kC_X8 h0) m_2_235 m_2_237 m_0_10 mv_X8_push (c_X8_push h0 hcl) (by decide) rfl rfl (Nat.le_of_ble_eq_true rfl) hl.1 dX8_measure_52 ?_
          clear hW hcl; intro H locs hW
          refine lv_goto (tgt := 83) hx hb dX8_measure_55 (by decide) ?_
          exact bl_X8_measure_b83 X hret ih v0 h0 v1 h1 v2 v3 σ_7 h _ _ _ hW (lv_sub hl [1, 2, 3, 4] rfl)
      · replace h := if_f hc h
        refine lv_aload_n hx hb dX8_measure_24 rfl (lv_at hl 1 rfl) ?_
        refine lv_iload hx hb dX8_measure_25 (lv_at hl 0 rfl) ?_
        obtain ⟨σ_8, hcl, h⟩ := bind_el h
        refine call_V0 X hW (kC_X8 h0) m_2_235 m_2_237 m_0_10 mv_X8_push (c_X8_push h0 hcl) (by decide) rfl rfl (Nat.le_of_ble_eq_true rfl) hl.1 dX8_measure_27 ?_
        clear hW hcl; intro H locs hW
        refine lv_goto (tgt := 83) hx hb dX8_measure_30 (by decide) ?_
        exact bl_X8_measure_b83 X hret ih v0 h0 v1 h1 v2 v3 σ_8 h _ _ _ hW (lv_sub hl [1, 2, 3, 4] rfl)
set_option maxRecDepth 20000 in
set_option maxHeartbeats 4000000 in
theorem c_X8_measure {G : Gt} {l : Launch} {v0 : Nat} (h0 : kd v0 = 7) {v1 : Nat} (h1 : kd v1 = 11) {v2 : Int32} {σ : St} {r : Int32} {σ' : St} (hf : pf_X8_measure v0 v1 v2 σ = some (r, σ')) : Ct G l yX8_measure cX8_measure 7 (some .int) 4 [.ref (gz G + (v0)), .ref (gz G + (v1)), .int (v2)] σ (some (.int r)) σ' := by
  refine met_i (by decide +kernel) (Nat.le_of_ble_eq_true rfl) rfl ?_
  intro p e s m args below meth c Q ls X hW hret hl
  have hx := X.1.1
  have hb := X.1.2.1
  have hl : lv_has ls 7 [(0, .ref (gz G + (v0))), (1, .ref (gz G + (v1))), (2, .int (v2))] := hl
  have h := hf
  clear hf
  unfold pf_X8_measure at h
  refine lv_aload_n hx hb dX8_measure_0 rfl (lv_at hl 0 rfl) ?_
  refine lv_iconst (v := 0) hx hb dX8_measure_1 (by decide) ?_
  refine sf_X8_height X hW h0 m_2_52 dX8_measure_2 ?_
  clear hW; intro H locs hW
  refine nm_s hW h ?_
  clear hW h; intro σ_1 hW h
  refine lv_iconst (v := 0) hx hb dX8_measure_5 (by decide) ?_
  refine lv_istore_n (lv' := [(3, .int (0)), (0, .ref (gz G + (v0))), (1, .ref (gz G + (v1))), (2, .int (v2))]) hx hb dX8_measure_6 rfl hl (by decide) rfl ?_
  clear hl; intro ls hl
  exact bl_X8_measure_L7 X hret (bl_X8_measure_b89 X hret) FU v0 h0 v1 h1 v2 0 σ_1 h _ _ _ hW (lv_sub hl [1, 2, 3, 0] rfl)
set_option maxRecDepth 20000 in
set_option maxHeartbeats 4000000 in
theorem bl_X10_appendWord_L3 (X : Cx G p R s m args c cells slots cX10_appendWord 3 RX10 3) {σ' : St} (hret : R_V G p l e R s m args below meth c cells slots Q cX10_appendWord σ') :
    ∀ (n : Nat), ∀ (v0 : Nat) (h0 : kd v0 = 9) (v1 : Int32) (v2 : Int32) (σ : St) (_ : pf_X10_appendWord_L3 n v0 v1 v2 σ = some σ') (H : Heap) (locs : List Loc) (ls : Array Slot) (_ : GW G σ s H locs) (_ : lv_has ls 3 [(0, .ref (gz G + (v0))), (1, .int (v1)), (2, .int (v2))]), W p l e R s m args below meth c H locs cells slots Q (F0 m 3 ls []) := by
  have hx := X.1.1
  have hb := X.1.2.1
  intro n
  induction n with
  | zero => intro v0 h0 v1 v2 σ h H locs ls hW hl; cases h
  | succ n ih =>
    intro v0 h0 v1 v2 σ h H locs ls hW hl
    rw [pf_X10_appendWord_L3.eq_2] at h
    refine lv_iload_n hx hb dX10_appendWord_3 rfl (lv_at hl 2 rfl) ?_
    refine lv_if_lt (tgt := 41) hx hb dX10_appendWord_4 (by decide) (fun hc => ?_) (fun hc => ?_)
    · replace h := if_t hc h
      exact rv_end hret h dX10_appendWord_41 hW
    · replace h := if_f hc h
      refine lv_aload_n hx hb dX10_appendWord_7 rfl (lv_at hl 0 rfl) ?_
      refine gf_X10_buffer X hW h0 m_2_61 dX10_appendWord_8 ?_
      refine lv_aload_n hx hb dX10_appendWord_11 rfl (lv_at hl 0 rfl) ?_
      refine gf_X10_bufferLength X hW h0 m_2_62 dX10_appendWord_12 ?_
      refine lv_iload_n hx hb dX10_appendWord_15 rfl (lv_at hl 1 rfl) ?_
      refine lv_iload_n hx hb dX10_appendWord_16 rfl (lv_at hl 2 rfl) ?_
      refine w_iushr hx hb dX10_appendWord_17 ?_
      refine lv_sipush (v := 255) hx hb dX10_appendWord_18 (by decide) ?_
      refine lv_iand hx hb dX10_appendWord_21 ?_
      obtain ⟨σ_1, hcl, h⟩ := bind_el h
      refine call_S0 X hW m_2_97 m_2_98 mv_X10_put (c_X10_put (kf_X10_buffer h0) hcl) (by decide) rfl rfl (Nat.le_of_ble_eq_true rfl) hl.1 dX10_appendWord_22 ?_
      clear hW hcl; intro H locs hW
      refine lv_aload_n hx hb dX10_appendWord_25 rfl (lv_at hl 0 rfl) ?_
      refine lv_dup hx hb dX10_appendWord_26 rfl ?_
      refine gf_X10_bufferLength X hW h0 m_2_62 dX10_appendWord_27 ?_
      refine lv_iconst (v := 1) hx hb dX10_appendWord_30 (by decide) ?_
      refine lv_iadd hx hb dX10_appendWord_31 ?_
      refine sf_X10_bufferLength X hW h0 m_2_62 dX10_appendWord_32 ?_
      clear hW; intro H locs hW
      refine nm_s hW h ?_
      clear hW h; intro σ_2 hW h
      refine w_iinc (v := (-8)) (lv' := fun y => [(2, .int (y)), (0, .ref (gz G + (v0))), (1, .int (v1))]) hx hb dX10_appendWord_35 hl (k := 2) rfl (by decide) (by decide) (fun _ => rfl) h ?_
      clear h hl; intro v2_3 h ls hl
      refine lv_goto (tgt := 3) hx hb dX10_appendWord_38 (by decide) ?_
      exact ih v0 h0 v1 v2_3 σ_2 h _ _ _ hW (lv_sub hl [1, 2, 0] rfl)
set_option maxRecDepth 20000 in
set_option maxHeartbeats 4000000 in
theorem c_X10_appendWord {G : Gt} {l : Launch} {v0 : Nat} (h0 : kd v0 = 9) {v1 : Int32} {σ : St} {σ' : St} (hf : pf_X10_appendWord v0 v1 σ = some σ') : Ct G l yX10_appendWord cX10_appendWord 3 none 3 [.ref (gz G + (v0)), .int (v1)] σ none σ' := by
  refine met_v (by decide +kernel) (Nat.le_of_ble_eq_true rfl) rfl ?_
  intro p e s m args below meth c Q ls X hW hret hl
  have hx := X.1.1
  have hb := X.1.2.1
  have hl : lv_has ls 3 [(0, .ref (gz G + (v0))), (1, .int (v1))] := hl
  have h := hf
  clear hf
  unfold pf_X10_appendWord at h
  refine lv_bipush (v := 24) hx hb dX10_appendWord_0 (by decide) ?_
  refine lv_istore_n (lv' := [(2, .int (24)), (0, .ref (gz G + (v0))), (1, .int (v1))]) hx hb dX10_appendWord_2 rfl hl (by decide) rfl ?_
  clear hl; intro ls hl
  exact bl_X10_appendWord_L3 X hret FU v0 h0 v1 24 σ h _ _ _ hW (lv_sub hl [1, 2, 0] rfl)
set_option maxRecDepth 20000 in
set_option maxHeartbeats 4000000 in
theorem c_X10_append {G : Gt} {l : Launch} {v0 : Nat} (h0 : kd v0 = 9) {v1 : Int32} {v2 : Int32} {v3 : Int32} {v4 : Int32} {v5 : Int32} {σ : St} {r : Int32} {σ' : St} (hf : pf_X10_append v0 v1 v2 v3 v4 v5 σ = some (r, σ')) : Ct G l yX10_append cX10_append 6 (some .int) 4 [.ref (gz G + (v0)), .int (v1), .int (v2), .int (v3), .int (v4), .int (v5)] σ (some (.int r)) σ' := by
  refine met_i (by decide +kernel) (Nat.le_of_ble_eq_true rfl) rfl ?_
  intro p e s m args below meth c Q ls X hW hret hl
  have hx := X.1.1
  have hb := X.1.2.1
  have hl : lv_has ls 6 [(0, .ref (gz G + (v0))), (1, .int (v1)), (2, .int (v2)), (3, .int (v3)), (4, .int (v4)), (5, .int (v5))] := hl
  have h := hf
  clear hf
  unfold pf_X10_append at h
  refine lv_aload_n hx hb dX10_append_0 rfl (lv_at hl 0 rfl) ?_
  refine gf_X10_bufferLength X hW h0 m_2_62 dX10_append_1 ?_
  refine lv_bipush (v := 20) hx hb dX10_append_4 (by decide) ?_
  refine lv_iadd hx hb dX10_append_6 ?_
  refine lv_sipush (v := 800) hx hb dX10_append_7 (by decide) ?_
  refine lv_icmp_le (tgt := 15) hx hb dX10_append_10 (by decide) (fun hc => ?_) (fun hc => ?_)
  · replace h := if_t hc h
    refine lv_aload_n hx hb dX10_append_15 rfl (lv_at hl 0 rfl) ?_
    refine lv_iload_n hx hb dX10_append_16 rfl (lv_at hl 1 rfl) ?_
    obtain ⟨σ_1, hcl, h⟩ := bind_el h
    refine call_V0 X hW (kC_X10 h0) m_2_93 m_2_95 m_0_0 mv_X10_appendWord (c_X10_appendWord h0 hcl) (by decide) rfl rfl (Nat.le_of_ble_eq_true rfl) hl.1 dX10_append_17 ?_
    clear hW hcl; intro H locs hW
    refine lv_aload_n hx hb dX10_append_20 rfl (lv_at hl 0 rfl) ?_
    refine lv_iload_n hx hb dX10_append_21 rfl (lv_at hl 2 rfl) ?_
    obtain ⟨σ_2, hcl, h⟩ := bind_el h
    refine call_V0 X hW (kC_X10 h0) m_2_93 m_2_95 m_0_0 mv_X10_appendWord (c_X10_appendWord h0 hcl) (by decide) rfl rfl (Nat.le_of_ble_eq_true rfl) hl.1 dX10_append_22 ?_
    clear hW hcl; intro H locs hW
    refine lv_aload_n hx hb dX10_append_25 rfl (lv_at hl 0 rfl) ?_
    refine lv_iload_n hx hb dX10_append_26 rfl (lv_at hl 3 rfl) ?_
    obtain ⟨σ_3, hcl, h⟩ := bind_el h
    refine call_V0 X hW (kC_X10 h0) m_2_93 m_2_95 m_0_0 mv_X10_appendWord (c_X10_appendWord h0 hcl) (by decide) rfl rfl (Nat.le_of_ble_eq_true rfl) hl.1 dX10_append_27 ?_
    clear hW hcl; intro H locs hW
    refine lv_aload_n hx hb dX10_append_30 rfl (lv_at hl 0 rfl) ?_
    refine lv_iload hx hb dX10_append_31 (lv_at hl 4 rfl) ?_
    obtain ⟨σ_4, hcl, h⟩ := bind_el h
    refine call_V0 X hW (kC_X10 h0) m_2_93 m_2_95 m_0_0 mv_X10_appendWord (c_X10_appendWord h0 hcl) (by decide) rfl rfl (Nat.le_of_ble_eq_true rfl) hl.1 dX10_append_33 ?_
    clear hW hcl; intro H locs hW
    refine lv_aload_n hx hb dX10_append_36 rfl (lv_at hl 0 rfl) ?_
    refine lv_iload hx hb dX10_append_37 (lv_at hl 5 rfl) ?_
    obtain ⟨σ_5, hcl, h⟩ := bind_el h
    refine call_V0 X hW (kC_X10 h0) m_2_93 m_2_95 m_0_0 mv_X10_appendWord (c_X10_appendWord h0 hcl) (by decide) rfl rfl (Nat.le_of_ble_eq_true rfl) hl.1 dX10_append_39 ?_
    clear hW hcl; intro H locs hW
    refine lv_aload_n hx hb dX10_append_42 rfl (lv_at hl 0 rfl) ?_
    refine gf_X10_bufferLength X hW h0 m_2_62 dX10_append_43 ?_
    exact ri_end hret h dX10_append_46 hW
  · replace h := if_f hc h
    refine lv_iconst (v := (-1)) hx hb dX10_append_13 (by decide) ?_
    exact ri_end hret h dX10_append_14 hW
set_option maxRecDepth 20000 in
set_option maxHeartbeats 4000000 in
theorem c_X10_errorOffset {G : Gt} {l : Launch} {v0 : Nat} (h0 : kd v0 = 9) {σ : St} {r : Int32} (hf : pf_X10_errorOffset v0 σ = some r) : Ct G l yX10_errorOffset cX10_errorOffset 1 (some .int) 2 [.ref (gz G + (v0))] σ (some (.int r)) σ := by
  refine met_i (by decide +kernel) (Nat.le_of_ble_eq_true rfl) rfl ?_
  intro p e s m args below meth c Q ls X hW hret hl
  have hx := X.1.1
  have hb := X.1.2.1
  have hl : lv_has ls 1 [(0, .ref (gz G + (v0)))] := hl
  have h := hf
  clear hf
  unfold pf_X10_errorOffset at h
  refine lv_aload_n hx hb dX10_errorOffset_0 rfl (lv_at hl 0 rfl) ?_
  refine gf_X10_latestErrorOffset X hW h0 m_2_63 dX10_errorOffset_1 ?_
  exact ri_end0 hret h dX10_errorOffset_4 hW
set_option maxRecDepth 20000 in
set_option maxHeartbeats 4000000 in
theorem c_J6_bitCount_0f7a4 {G : Gt} {l : Launch} {v0 : Int32} {σ : St} {r : Int32} (hf : pf_J6_bitCount_0f7a4 v0 σ = some r) : Ct G l yJ6_bitCount_0f7a4 cJ6_bitCount_0f7a4 1 (some .int) 2 [.int (v0)] σ (some (.int r)) σ := by
  refine met_i (by decide +kernel) (Nat.le_of_ble_eq_true rfl) rfl ?_
  intro p e s m args below meth c Q ls X hW hret hl
  have hx := X.1.1
  have hb := X.1.2.1
  have hl : lv_has ls 1 [(0, .int (v0))] := hl
  have h := hf
  clear hf
  unfold pf_J6_bitCount_0f7a4 at h
  refine lv_iload_n hx hb dJ6_bitCount_0f7a4_0 rfl (lv_at hl 0 rfl) ?_
  refine lv_iload_n hx hb dJ6_bitCount_0f7a4_1 rfl (lv_at hl 0 rfl) ?_
  refine lv_iconst (v := 1) hx hb dJ6_bitCount_0f7a4_2 (by decide) ?_
  refine w_iushr hx hb dJ6_bitCount_0f7a4_3 ?_
  refine lv_ldcw (v := 1431655765) hx hb X.1.2.2.2.1 (X.1.2.2.2.2 _ m_2_223) dJ6_bitCount_0f7a4_4 ?_
  refine lv_iand hx hb dJ6_bitCount_0f7a4_7 ?_
  refine lv_isub hx hb dJ6_bitCount_0f7a4_8 ?_
  refine nm_i h ?_
  clear h; intro v0_1 h
  refine lv_istore_n (lv' := [(0, .int (v0_1))]) hx hb dJ6_bitCount_0f7a4_9 rfl hl (by decide) rfl ?_
  clear hl; intro ls hl
  refine lv_iload_n hx hb dJ6_bitCount_0f7a4_10 rfl (lv_at hl 0 rfl) ?_
  refine lv_ldcw (v := 858993459) hx hb X.1.2.2.2.1 (X.1.2.2.2.2 _ m_2_224) dJ6_bitCount_0f7a4_11 ?_
  refine lv_iand hx hb dJ6_bitCount_0f7a4_14 ?_
  refine lv_iload_n hx hb dJ6_bitCount_0f7a4_15 rfl (lv_at hl 0 rfl) ?_
  refine lv_iconst (v := 2) hx hb dJ6_bitCount_0f7a4_16 (by decide) ?_
  refine w_iushr hx hb dJ6_bitCount_0f7a4_17 ?_
  refine lv_ldcw (v := 858993459) hx hb X.1.2.2.2.1 (X.1.2.2.2.2 _ m_2_224) dJ6_bitCount_0f7a4_18 ?_
  refine lv_iand hx hb dJ6_bitCount_0f7a4_21 ?_
  refine lv_iadd hx hb dJ6_bitCount_0f7a4_22 ?_
  refine nm_i h ?_
  clear h; intro v0_2 h
  refine lv_istore_n (lv' := [(0, .int (v0_2))]) hx hb dJ6_bitCount_0f7a4_23 rfl hl (by decide) rfl ?_
  clear hl; intro ls hl
  refine lv_iload_n hx hb dJ6_bitCount_0f7a4_24 rfl (lv_at hl 0 rfl) ?_
  refine lv_iload_n hx hb dJ6_bitCount_0f7a4_25 rfl (lv_at hl 0 rfl) ?_
  refine lv_iconst (v := 4) hx hb dJ6_bitCount_0f7a4_26 (by decide) ?_
  refine w_iushr hx hb dJ6_bitCount_0f7a4_27 ?_
  refine lv_iadd hx hb dJ6_bitCount_0f7a4_28 ?_
  refine lv_ldcw (v := 252645135) hx hb X.1.2.2.2.1 (X.1.2.2.2.2 _ m_2_225) dJ6_bitCount_0f7a4_29 ?_
  refine lv_iand hx hb dJ6_bitCount_0f7a4_32 ?_
  refine nm_i h ?_
  clear h; intro v0_3 h
  refine lv_istore_n (lv' := [(0, .int (v0_3))]) hx hb dJ6_bitCount_0f7a4_33 rfl hl (by decide) rfl ?_
  clear hl; intro ls hl
  refine lv_iload_n hx hb dJ6_bitCount_0f7a4_34 rfl (lv_at hl 0 rfl) ?_
  refine lv_iload_n hx hb dJ6_bitCount_0f7a4_35 rfl (lv_at hl 0 rfl) ?_
  refine lv_bipush (v := 8) hx hb dJ6_bitCount_0f7a4_36 (by decide) ?_
  refine w_iushr hx hb dJ6_bitCount_0f7a4_38 ?_
  refine lv_iadd hx hb dJ6_bitCount_0f7a4_39 ?_
  refine nm_i h ?_
  clear h; intro v0_4 h
  refine lv_istore_n (lv' := [(0, .int (v0_4))]) hx hb dJ6_bitCount_0f7a4_40 rfl hl (by decide) rfl ?_
  clear hl; intro ls hl
  refine lv_iload_n hx hb dJ6_bitCount_0f7a4_41 rfl (lv_at hl 0 rfl) ?_
  refine lv_iload_n hx hb dJ6_bitCount_0f7a4_42 rfl (lv_at hl 0 rfl) ?_
  refine lv_bipush (v := 16) hx hb dJ6_bitCount_0f7a4_43 (by decide) ?_
  refine w_iushr hx hb dJ6_bitCount_0f7a4_45 ?_
  refine lv_iadd hx hb dJ6_bitCount_0f7a4_46 ?_
  refine nm_i h ?_
  clear h; intro v0_5 h
  refine lv_istore_n (lv' := [(0, .int (v0_5))]) hx hb dJ6_bitCount_0f7a4_47 rfl hl (by decide) rfl ?_
  clear hl; intro ls hl
  refine lv_iload_n hx hb dJ6_bitCount_0f7a4_48 rfl (lv_at hl 0 rfl) ?_
  refine lv_bipush (v := 63) hx hb dJ6_bitCount_0f7a4_49 (by decide) ?_
  refine lv_iand hx hb dJ6_bitCount_0f7a4_51 ?_
  exact ri_end0 hret h dJ6_bitCount_0f7a4_52 hW
set_option maxRecDepth 20000 in
set_option maxHeartbeats 4000000 in
theorem c_X10_shareOf {G : Gt} {l : Launch} {v0 : Nat} (h0 : kd v0 = 9) {v1 : Nat} (h1 : kd v1 = 3) {v2 : Int32} {σ : St} {r : Int32} {σ' : St} (hf : pf_X10_shareOf v0 v1 v2 σ = some (r, σ')) : Ct G l yX10_shareOf cX10_shareOf 3 (some .int) 7 [.ref (gz G + (v0)), .ref (gz G + (v1)), .int (v2)] σ (some (.int r)) σ' := by
  refine met_i (by decide +kernel) (Nat.le_of_ble_eq_true rfl) rfl ?_
  intro p e s m args below meth c Q ls X hW hret hl
  have hx := X.1.1
  have hb := X.1.2.1
  have hl : lv_has ls 3 [(0, .ref (gz G + (v0))), (1, .ref (gz G + (v1))), (2, .int (v2))] := hl
  have h := hf
  clear hf
  unfold pf_X10_shareOf at h
  refine lv_iload_n hx hb dX10_shareOf_0 rfl (lv_at hl 2 rfl) ?_
  by_cases hc0 : v2 = 1
  · replace h := if_t hc0 h
    refine lv_tableIn (off := 35) (tgt := 36) hx hb dX10_shareOf_1 (by rw [hc0]; decide) (by rw [hc0]; decide) (by rw [hc0]; rfl) (by decide) ?_
    refine lv_aload_n hx hb dX10_shareOf_36 rfl (lv_at hl 1 rfl) ?_
    refine gf_X3_stepCount X hW h1 m_1_53 dX10_shareOf_37 ?_
    exact ri_end hret h dX10_shareOf_40 hW
  replace h := if_f hc0 h
  by_cases hc1 : v2 = 2
  · replace h := if_t hc1 h
    refine lv_tableIn (off := 40) (tgt := 41) hx hb dX10_shareOf_1 (by rw [hc1]; decide) (by rw [hc1]; decide) (by rw [hc1]; rfl) (by decide) ?_
    refine lv_aload_n hx hb dX10_shareOf_41 rfl (lv_at hl 1 rfl) ?_
    refine gf_X3_status X hW h1 m_1_58 dX10_shareOf_42 ?_
    refine lv_iconst (v := 1) hx hb dX10_shareOf_45 (by decide) ?_
    refine lv_icmp_ne (tgt := 53) hx hb dX10_shareOf_46 (by decide) (fun hc => ?_) (fun hc => ?_)
    · replace h := if_f hc h
      refine lv_iconst (v := 0) hx hb dX10_shareOf_53 (by decide) ?_
      exact ri_end hret h dX10_shareOf_54 hW
    · replace h := if_t hc h
      refine lv_iconst (v := 1) hx hb dX10_shareOf_49 (by decide) ?_
      refine lv_goto (tgt := 54) hx hb dX10_shareOf_50 (by decide) ?_
      exact ri_end hret h dX10_shareOf_54 hW
  replace h := if_f hc1 h
  by_cases hc2 : v2 = 3
  · replace h := if_t hc2 h
    refine lv_tableIn (off := 54) (tgt := 55) hx hb dX10_shareOf_1 (by rw [hc2]; decide) (by rw [hc2]; decide) (by rw [hc2]; rfl) (by decide) ?_
    refine lv_aload_n hx hb dX10_shareOf_55 rfl (lv_at hl 1 rfl) ?_
    refine gf_X3_status X hW h1 m_1_58 dX10_shareOf_56 ?_
    refine lv_iconst (v := 2) hx hb dX10_shareOf_59 (by decide) ?_
    refine lv_icmp_ne (tgt := 67) hx hb dX10_shareOf_60 (by decide) (fun hc => ?_) (fun hc => ?_)
    · replace h := if_f hc h
      refine lv_iconst (v := 0) hx hb dX10_shareOf_67 (by decide) ?_
      exact ri_end hret h dX10_shareOf_68 hW
    · replace h := if_t hc h
      refine lv_iconst (v := 1) hx hb dX10_shareOf_63 (by decide) ?_
      refine lv_goto (tgt := 68) hx hb dX10_shareOf_64 (by decide) ?_
      exact ri_end hret h dX10_shareOf_68 hW
  replace h := if_f hc2 h
  by_cases hc3 : v2 = 4
  · replace h := if_t hc3 h
    refine lv_tableIn (off := 68) (tgt := 69) hx hb dX10_shareOf_1 (by rw [hc3]; decide) (by rw [hc3]; decide) (by rw [hc3]; rfl) (by decide) ?_
    refine lv_aload_n hx hb dX10_shareOf_69 rfl (lv_at hl 1 rfl) ?_
    refine gf_X3_done X hW h1 m_1_61 dX10_shareOf_70 ?_
    obtain ⟨r_1, hcl, h⟩ := bind_el h
    refine call_S1 X hW m_2_220 m_2_221 mv_J6_bitCount_0f7a4 (c_J6_bitCount_0f7a4 hcl) (by decide) rfl rfl (Nat.le_of_ble_eq_true rfl) hl.1 dX10_shareOf_73 ?_
    clear hW hcl; intro H locs hW
    exact ri_end hret h dX10_shareOf_76 hW
  replace h := if_f hc3 h
  by_cases hc4 : v2 = 5
  · replace h := if_t hc4 h
    refine lv_tableIn (off := 76) (tgt := 77) hx hb dX10_shareOf_1 (by rw [hc4]; decide) (by rw [hc4]; decide) (by rw [hc4]; rfl) (by decide) ?_
    refine lv_aload_n hx hb dX10_shareOf_77 rfl (lv_at hl 1 rfl) ?_
    obtain ⟨r_2, hcl, h⟩ := bind_el h
    refine call_V1 X hW (kC_X3 h1) m_2_226 m_2_227 m_2_228 mv_X3_sumOfFails (c_X3_sumOfFails h1 hcl) (by decide) rfl rfl (Nat.le_of_ble_eq_true rfl) hl.1 dX10_shareOf_78 ?_
    clear hW hcl; intro H locs hW
    exact ri_end hret h dX10_shareOf_81 hW
  replace h := if_f hc4 h
  refine lv_tableOut (tgt := 82) hx hb dX10_shareOf_1 (tb_out (n := 5) (by decide) rfl (fun k hk => match k, hk with | 0, _ => hc0 | 1, _ => hc1 | 2, _ => hc2 | 3, _ => hc3 | 4, _ => hc4 | k + 5, hk => absurd hk (by omega))) (by decide) ?_
  skip
  refine lv_aload_n hx hb dX10_shareOf_82 rfl (lv_at hl 0 rfl) ?_
  refine gf_X10_ways X hW h0 m_2_68 dX10_shareOf_83 ?_
  refine lv_aload_n hx hb dX10_shareOf_86 rfl (lv_at hl 1 rfl) ?_
  refine lv_aload_n hx hb dX10_shareOf_87 rfl (lv_at hl 0 rfl) ?_
  refine gf_X10_now X hW h0 m_2_64 dX10_shareOf_88 ?_
  refine gf_X2_stock X hW (kf_X10_now h0) m_1_136 dX10_shareOf_91 ?_
  obtain ⟨r_3, σ_3, hcl, h⟩ := bnd2_el h
  refine call_V1 X hW (kC_X7 (kf_X10_ways h0)) m_2_124 m_2_125 m_2_126 mv_X7_explore (c_X7_explore (kf_X10_ways h0) h1 (kf_X2_stock (kf_X10_now h0)) hcl) (by decide) rfl rfl (Nat.le_of_ble_eq_true rfl) hl.1 dX10_shareOf_94 ?_
  clear hW hcl; intro H locs hW
  refine lv_if_eq (tgt := 104) hx hb dX10_shareOf_97 (by decide) (fun hc => ?_) (fun hc => ?_)
  · replace h := if_t hc h
    refine lv_iconst (v := 0) hx hb dX10_shareOf_104 (by decide) ?_
    exact ri_end hret h dX10_shareOf_105 hW
  · replace h := if_f hc h
    refine lv_iconst (v := 1) hx hb dX10_shareOf_100 (by decide) ?_
    refine lv_goto (tgt := 105) hx hb dX10_shareOf_101 (by decide) ?_
    exact ri_end hret h dX10_shareOf_105 hW
set_option maxRecDepth 20000 in
set_option maxHeartbeats 4000000 in
theorem bl_X10_hasWayWithMore_b42 (X : Cx G p R s m args c cells slots cX10_hasWayWithMore 5 RX10 7) {r : Int32} {σ' : St} (hret : R_Z G p l e R s m args below meth c cells slots Q cX10_hasWayWithMore r σ') {k3 : Nat → Nat → Int32 → Int32 → Int32 → St → (Option (Int32 × St))}
    (hk3 : ∀ (v0 : Nat) (h0 : kd v0 = 9) (v1 : Nat) (h1 : kd v1 = 3) (v2 : Int32) (v3 : Int32) (v4 : Int32) (σ : St) (_ : k3 v0 v1 v2 v3 v4 σ = some (r, σ')) (H : Heap) (locs : List Loc) (ls : Array Slot) (_ : GW G σ s H locs) (_ : lv_has ls 5 [(0, .ref (gz G + (v0))), (1, .ref (gz G + (v1))), (2, .int (v2)), (3, .int (v3)), (4, .int (v4))]), W p l e R s m args below meth c H locs cells slots Q (F0 m 3 ls [])) :
    ∀ (v0 : Nat) (h0 : kd v0 = 9) (v1 : Nat) (h1 : kd v1 = 3) (v2 : Int32) (v3 : Int32) (v4 : Int32) (s0 : Nat) (hs0 : kd s0 = 11) (s1 : Int32) (s2 : Int32) (s3 : Int32) (σ : St) (_ : pf_X10_hasWayWithMore_b42 k3 v0 v1 v2 v3 v4 s0 s1 s2 s3 σ = some (r, σ')) (H : Heap) (locs : List Loc) (ls : Array Slot) (_ : GW G σ s H locs) (_ : lv_has ls 5 [(0, .ref (gz G + (v0))), (1, .ref (gz G + (v1))), (2, .int (v2)), (3, .int (v3)), (4, .int (v4))]), W p l e R s m args below meth c H locs cells slots Q (F0 m 42 ls [.int (s3), .int (s2), .int (s1), .ref (gz G + (s0))]) := by
  have hx := X.1.1
  have hb := X.1.2.1
  intro v0 h0 v1 h1 v2 v3 v4 s0 hs0 s1 s2 s3 σ h H locs ls hW hl
  unfold pf_X10_hasWayWithMore_b42 at h
  refine lv_iadd hx hb dX10_hasWayWithMore_42 ?_
  obtain ⟨σ_1, hcl, h⟩ := bind_el h
  refine call_S0 X hW m_2_97 m_2_98 mv_X10_put (c_X10_put hs0 hcl) (by decide) rfl rfl (Nat.le_of_ble_eq_true rfl) hl.1 dX10_hasWayWithMore_43 ?_
  clear hW hcl; intro H locs hW
  refine w_iinc (v := 1) (lv' := fun y => [(4, .int (y)), (0, .ref (gz G + (v0))), (1, .ref (gz G + (v1))), (2, .int (v2)), (3, .int (v3))]) hx hb dX10_hasWayWithMore_46 hl (k := 4) rfl (by decide) (by decide) (fun _ => rfl) h ?_
  clear h hl; intro v4_2 h ls hl
  refine lv_goto (tgt := 3) hx hb dX10_hasWayWithMore_49 (by decide) ?_
  exact hk3 v0 h0 v1 h1 v2 v3 v4_2 σ_1 h _ _ _ hW (lv_sub hl [1, 2, 3, 4, 0] rfl)
set_option maxRecDepth 20000 in
set_option maxHeartbeats 4000000 in
theorem bl_X10_hasWayWithMore_b52 (X : Cx G p R s m args c cells slots cX10_hasWayWithMore 5 RX10 7) {r : Int32} {σ' : St} (hret : R_Z G p l e R s m args below meth c cells slots Q cX10_hasWayWithMore r σ') :
    ∀ (v0 : Nat) (h0 : kd v0 = 9) (v1 : Nat) (h1 : kd v1 = 3) (σ : St) (_ : pf_X10_hasWayWithMore_b52 v0 v1 σ = some (r, σ')) (H : Heap) (locs : List Loc) (ls : Array Slot) (_ : GW G σ s H locs) (_ : lv_has ls 5 [(0, .ref (gz G + (v0))), (1, .ref (gz G + (v1)))]), W p l e R s m args below meth c H locs cells slots Q (F0 m 52 ls []) := by
  have hx := X.1.1
  have hb := X.1.2.1
  intro v0 h0 v1 h1 σ h H locs ls hW hl
  unfold pf_X10_hasWayWithMore_b52 at h
  refine lv_aload_n hx hb dX10_hasWayWithMore_52 rfl (lv_at hl 0 rfl) ?_
  refine gf_X10_ways X hW h0 m_2_68 dX10_hasWayWithMore_53 ?_
  refine lv_aload_n hx hb dX10_hasWayWithMore_56 rfl (lv_at hl 1 rfl) ?_
  refine lv_aload_n hx hb dX10_hasWayWithMore_57 rfl (lv_at hl 0 rfl) ?_
  refine gf_X10_draft X hW h0 m_2_65 dX10_hasWayWithMore_58 ?_
  refine gf_X2_stock X hW (kf_X10_draft h0) m_1_136 dX10_hasWayWithMore_61 ?_
  obtain ⟨r_1, σ_1, hcl, h⟩ := bnd2_el h
  refine call_V1 X hW (kC_X7 (kf_X10_ways h0)) m_2_124 m_2_125 m_2_126 mv_X7_explore (c_X7_explore (kf_X10_ways h0) h1 (kf_X2_stock (kf_X10_draft h0)) hcl) (by decide) rfl rfl (Nat.le_of_ble_eq_true rfl) hl.1 dX10_hasWayWithMore_64 ?_
  clear hW hcl; intro H locs hW
  obtain ⟨hz, h⟩ := ckZ_el h
  exact rz_end hret h hz dX10_hasWayWithMore_67 hW
set_option maxRecDepth 20000 in
set_option maxHeartbeats 4000000 in
theorem bl_X10_hasWayWithMore_L3 (X : Cx G p R s m args c cells slots cX10_hasWayWithMore 5 RX10 7) {r : Int32} {σ' : St} (hret : R_Z G p l e R s m args below meth c cells slots Q cX10_hasWayWithMore r σ') {k52 : Nat → Nat → St → (Option (Int32 × St))}
    (hk52 : ∀ (v0 : Nat) (h0 : kd v0 = 9) (v1 : Nat) (h1 : kd v1 = 3) (σ : St) (_ : k52 v0 v1 σ = some (r, σ')) (H : Heap) (locs : List Loc) (ls : Array Slot) (_ : GW G σ s H locs) (_ : lv_has ls 5 [(0, .ref (gz G + (v0))), (1, .ref (gz G + (v1)))]), W p l e R s m args below meth c H locs cells slots Q (F0 m 52 ls [])) :
    ∀ (n : Nat), ∀ (v0 : Nat) (h0 : kd v0 = 9) (v1 : Nat) (h1 : kd v1 = 3) (v2 : Int32) (v3 : Int32) (v4 : Int32) (σ : St) (_ : pf_X10_hasWayWithMore_L3 k52 n v0 v1 v2 v3 v4 σ = some (r, σ')) (H : Heap) (locs : List Loc) (ls : Array Slot) (_ : GW G σ s H locs) (_ : lv_has ls 5 [(0, .ref (gz G + (v0))), (1, .ref (gz G + (v1))), (2, .int (v2)), (3, .int (v3)), (4, .int (v4))]), W p l e R s m args below meth c H locs cells slots Q (F0 m 3 ls []) := by
  have hx := X.1.1
  have hb := X.1.2.1
  intro n
  induction n with
  | zero => intro v0 h0 v1 h1 v2 v3 v4 σ h H locs ls hW hl; cases h
  | succ n ih =>
    intro v0 h0 v1 h1 v2 v3 v4 σ h H locs ls hW hl
    rw [pf_X10_hasWayWithMore_L3.eq_2] at h
    refine lv_iload hx hb dX10_hasWayWithMore_3 (lv_at hl 4 rfl) ?_
    refine lv_bipush (v := 8) hx hb dX10_hasWayWithMore_5 (by decide) ?_
    refine lv_icmp_ge (tgt := 52) hx hb dX10_hasWayWithMore_7 (by decide) (fun hc => ?_) (fun hc => ?_)
    · replace h := if_t hc h
      exact hk52 v0 h0 v1 h1 σ h _ _ _ hW (lv_sub hl [0, 1] rfl)
    · replace h := if_f hc h
      refine lv_aload_n hx hb dX10_hasWayWithMore_10 rfl (lv_at hl 0 rfl) ?_
      refine gf_X10_draft X hW h0 m_2_65 dX10_hasWayWithMore_11 ?_
      refine gf_X2_stock X hW (kf_X10_draft h0) m_1_136 dX10_hasWayWithMore_14 ?_
      refine lv_iload hx hb dX10_hasWayWithMore_17 (lv_at hl 4 rfl) ?_
      refine lv_aload_n hx hb dX10_hasWayWithMore_19 rfl (lv_at hl 0 rfl) ?_
      refine gf_X10_now X hW h0 m_2_64 dX10_hasWayWithMore_20 ?_
      refine gf_X2_stock X hW (kf_X10_now h0) m_1_136 dX10_hasWayWithMore_23 ?_
      refine lv_iload hx hb dX10_hasWayWithMore_26 (lv_at hl 4 rfl) ?_
      obtain ⟨r_1, hcl, h⟩ := bind_el h
      refine call_S1 X hW m_3_104 m_2_132 mv_X10_at (c_X10_at (kf_X2_stock (kf_X10_now h0)) hcl) (by decide) rfl rfl (Nat.le_of_ble_eq_true rfl) hl.1 dX10_hasWayWithMore_28 ?_
      clear hW hcl; intro H locs hW
      refine lv_iload hx hb dX10_hasWayWithMore_31 (lv_at hl 4 rfl) ?_
      refine lv_iload_n hx hb dX10_hasWayWithMore_33 rfl (lv_at hl 2 rfl) ?_
      refine lv_icmp_ne (tgt := 41) hx hb dX10_hasWayWithMore_34 (by decide) (fun hc => ?_) (fun hc => ?_)
      · replace h := if_f hc h
        refine lv_iconst (v := 0) hx hb dX10_hasWayWithMore_41 (by decide) ?_
        exact bl_X10_hasWayWithMore_b42 X hret ih v0 h0 v1 h1 v2 v3 v4 (v0 + 61 + 1) (kf_X2_stock (kf_X10_draft h0)) v4 r_1 0 σ h _ _ _ hW (lv_sub hl [0, 1, 2, 3, 4] rfl)
      · replace h := if_t hc h
        refine lv_iload_n hx hb dX10_hasWayWithMore_37 rfl (lv_at hl 3 rfl) ?_
        refine lv_goto (tgt := 42) hx hb dX10_hasWayWithMore_38 (by decide) ?_
        exact bl_X10_hasWayWithMore_b42 X hret ih v0 h0 v1 h1 v2 v3 v4 (v0 + 61 + 1) (kf_X2_stock (kf_X10_draft h0)) v4 r_1 v3 σ h _ _ _ hW (lv_sub hl [0, 1, 2, 3, 4] rfl)
set_option maxRecDepth 20000 in
set_option maxHeartbeats 4000000 in
theorem c_X10_hasWayWithMore {G : Gt} {l : Launch} {v0 : Nat} (h0 : kd v0 = 9) {v1 : Nat} (h1 : kd v1 = 3) {v2 : Int32} {v3 : Int32} {σ : St} {r : Int32} {σ' : St} (hf : pf_X10_hasWayWithMore v0 v1 v2 v3 σ = some (r, σ')) : Ct G l yX10_hasWayWithMore cX10_hasWayWithMore 5 (some .boolean) 7 [.ref (gz G + (v0)), .ref (gz G + (v1)), .int (v2), .int (v3)] σ (some (.int r)) σ' := by
  refine met_z (by decide +kernel) (Nat.le_of_ble_eq_true rfl) rfl ?_
  intro p e s m args below meth c Q ls X hW hret hl
  have hx := X.1.1
  have hb := X.1.2.1
  have hl : lv_has ls 5 [(0, .ref (gz G + (v0))), (1, .ref (gz G + (v1))), (2, .int (v2)), (3, .int (v3))] := hl
  have h := hf
  clear hf
  unfold pf_X10_hasWayWithMore at h
  refine lv_iconst (v := 0) hx hb dX10_hasWayWithMore_0 (by decide) ?_
  refine lv_istore (lv' := [(4, .int (0)), (0, .ref (gz G + (v0))), (1, .ref (gz G + (v1))), (2, .int (v2)), (3, .int (v3))]) hx hb dX10_hasWayWithMore_1 hl (by decide) rfl ?_
  clear hl; intro ls hl
  exact bl_X10_hasWayWithMore_L3 X hret (bl_X10_hasWayWithMore_b52 X hret) FU v0 h0 v1 h1 v2 v3 0 σ h _ _ _ hW (lv_sub hl [1, 2, 3, 4, 0] rfl)
set_option maxRecDepth 20000 in
set_option maxHeartbeats 4000000 in
theorem bl_X10_finishFirstPossible_L51 (X : Cx G p R s m args c cells slots cX10_finishFirstPossible 6 RX10 7) {r : Int32} {σ' : St} (hret : R_Z G p l e R s m args below meth c cells slots Q cX10_finishFirstPossible r σ') :
    ∀ (n : Nat), ∀ (v0 : Nat) (h0 : kd v0 = 9) (v1 : Nat) (h1 : kd v1 = 2) (v3 : Nat) (h3 : kd v3 = 3) (v4 : Int32) (v5 : Int32) (σ : St) (_ : pf_X10_finishFirstPossible_L51 n v0 v1 v3 v4 v5 σ = some (r, σ')) (H : Heap) (locs : List Loc) (ls : Array Slot) (_ : GW G σ s H locs) (_ : lv_has ls 6 [(0, .ref (gz G + (v0))), (1, .ref (gz G + (v1))), (3, .ref (gz G + (v3))), (4, .int (v4)), (5, .int (v5))]), W p l e R s m args below meth c H locs cells slots Q (F0 m 51 ls []) := by
  have hx := X.1.1
  have hb := X.1.2.1
  intro n
  induction n with
  | zero => intro v0 h0 v1 h1 v3 h3 v4 v5 σ h H locs ls hW hl; cases h
  | succ n ih =>
    intro v0 h0 v1 h1 v3 h3 v4 v5 σ h H locs ls hW hl
    rw [pf_X10_finishFirstPossible_L51.eq_2] at h
    refine lv_iload hx hb dX10_finishFirstPossible_51 (lv_at hl 4 rfl) ?_
    refine lv_iload hx hb dX10_finishFirstPossible_53 (lv_at hl 3 rfl) ?_
    refine lv_icmp_ge (tgt := 80) hx hb dX10_finishFirstPossible_55 (by decide) (fun hc => ?_) (fun hc => ?_)
    · replace h := if_t hc h
      refine lv_iconst (v := 1) hx hb dX10_finishFirstPossible_80 (by decide) ?_
      exact rz_end hret h (by decide) dX10_finishFirstPossible_81 hW
    · replace h := if_f hc h
      refine lv_aload_n hx hb dX10_finishFirstPossible_58 rfl (lv_at hl 1 rfl) ?_
      refine lv_aload_n hx hb dX10_finishFirstPossible_59 rfl (lv_at hl 2 rfl) ?_
      refine lv_aload_n hx hb dX10_finishFirstPossible_60 rfl (lv_at hl 0 rfl) ?_
      refine gf_X10_ways X hW h0 m_2_68 dX10_finishFirstPossible_61 ?_
      refine lv_aload_n hx hb dX10_finishFirstPossible_64 rfl (lv_at hl 2 rfl) ?_
      refine gf_X3_done X hW h3 m_1_61 dX10_finishFirstPossible_65 ?_
      obtain ⟨r_1, hcl, h⟩ := bind_el h
      refine call_V1 X hW (kC_X7 (kf_X10_ways h0)) m_2_178 m_2_179 m_2_180 mv_X7_nextOfPlan (c_X7_nextOfPlan (kf_X10_ways h0) hcl) (by decide) rfl rfl (Nat.le_of_ble_eq_true rfl) hl.1 dX10_finishFirstPossible_68 ?_
      clear hW hcl; intro H locs hW
      obtain ⟨σ_2, hcl, h⟩ := bind_el h
      refine call_V0 X hW (kC_X2 h1) m_2_182 m_2_183 m_2_184 mv_X2_succeed (c_X2_succeed h1 h3 hcl) (by decide) rfl rfl (Nat.le_of_ble_eq_true rfl) hl.1 dX10_finishFirstPossible_71 ?_
      clear hW hcl; intro H locs hW
      refine w_iinc (v := 1) (lv' := fun y => [(5, .int (y)), (0, .ref (gz G + (v0))), (1, .ref (gz G + (v1))), (3, .ref (gz G + (v3))), (4, .int (v4))]) hx hb dX10_finishFirstPossible_74 hl (k := 4) rfl (by decide) (by decide) (fun _ => rfl) h ?_
      clear h hl; intro v5_3 h ls hl
      refine lv_goto (tgt := 51) hx hb dX10_finishFirstPossible_77 (by decide) ?_
      exact ih v0 h0 v1 h1 v3 h3 v4 v5_3 σ_2 h _ _ _ hW (lv_sub hl [1, 2, 3, 4, 0] rfl)
set_option maxRecDepth 20000 in
set_option maxHeartbeats 4000000 in
theorem bl_X10_finishFirstPossible_b38 (X : Cx G p R s m args c cells slots cX10_finishFirstPossible 6 RX10 7) {r : Int32} {σ' : St} (hret : R_Z G p l e R s m args below meth c cells slots Q cX10_finishFirstPossible r σ') :
    ∀ (v0 : Nat) (h0 : kd v0 = 9) (v1 : Nat) (h1 : kd v1 = 2) (v3 : Nat) (h3 : kd v3 = 3) (σ : St) (_ : pf_X10_finishFirstPossible_b38 v0 v1 v3 σ = some (r, σ')) (H : Heap) (locs : List Loc) (ls : Array Slot) (_ : GW G σ s H locs) (_ : lv_has ls 6 [(0, .ref (gz G + (v0))), (1, .ref (gz G + (v1))), (3, .ref (gz G + (v3)))]), W p l e R s m args below meth c H locs cells slots Q (F0 m 38 ls []) := by
  have hx := X.1.1
  have hb := X.1.2.1
  intro v0 h0 v1 h1 v3 h3 σ h H locs ls hW hl
  unfold pf_X10_finishFirstPossible_b38 at h
  refine lv_aload_n hx hb dX10_finishFirstPossible_38 rfl (lv_at hl 0 rfl) ?_
  refine gf_X10_ways X hW h0 m_2_68 dX10_finishFirstPossible_39 ?_
  refine lv_aload_n hx hb dX10_finishFirstPossible_42 rfl (lv_at hl 2 rfl) ?_
  obtain ⟨r_1, hcl, h⟩ := bind_el h
  refine call_V1 X hW (kC_X7 (kf_X10_ways h0)) m_2_174 m_2_175 m_2_176 mv_X7_lengthOfPlan (c_X7_lengthOfPlan (kf_X10_ways h0) h3 hcl) (by decide) rfl rfl (Nat.le_of_ble_eq_true rfl) hl.1 dX10_finishFirstPossible_43 ?_
  clear hW hcl; intro H locs hW
  refine lv_istore (lv' := [(4, .int (r_1)), (0, .ref (gz G + (v0))), (1, .ref (gz G + (v1))), (3, .ref (gz G + (v3)))]) hx hb dX10_finishFirstPossible_46 hl (by decide) rfl ?_
  clear hl; intro ls hl
  refine lv_iconst (v := 0) hx hb dX10_finishFirstPossible_48 (by decide) ?_
  refine lv_istore (lv' := [(5, .int (0)), (4, .int (r_1)), (0, .ref (gz G + (v0))), (1, .ref (gz G + (v1))), (3, .ref (gz G + (v3)))]) hx hb dX10_finishFirstPossible_49 hl (by decide) rfl ?_
  clear hl; intro ls hl
  exact bl_X10_finishFirstPossible_L51 X hret FU v0 h0 v1 h1 v3 h3 r_1 0 σ h _ _ _ hW (lv_sub hl [2, 3, 4, 1, 0] rfl)
set_option maxRecDepth 20000 in
set_option maxHeartbeats 4000000 in
theorem bl_X10_finishFirstPossible_L2 (X : Cx G p R s m args c cells slots cX10_finishFirstPossible 6 RX10 7) {r : Int32} {σ' : St} (hret : R_Z G p l e R s m args below meth c cells slots Q cX10_finishFirstPossible r σ') {k38 : Nat → Nat → Nat → St → (Option (Int32 × St))}
    (hk38 : ∀ (v0 : Nat) (h0 : kd v0 = 9) (v1 : Nat) (h1 : kd v1 = 2) (v3 : Nat) (h3 : kd v3 = 3) (σ : St) (_ : k38 v0 v1 v3 σ = some (r, σ')) (H : Heap) (locs : List Loc) (ls : Array Slot) (_ : GW G σ s H locs) (_ : lv_has ls 6 [(0, .ref (gz G + (v0))), (1, .ref (gz G + (v1))), (3, .ref (gz G + (v3)))]), W p l e R s m args below meth c H locs cells slots Q (F0 m 38 ls [])) :
    ∀ (n : Nat), ∀ (v0 : Nat) (h0 : kd v0 = 9) (v1 : Nat) (h1 : kd v1 = 2) (v2 : Int32) (σ : St) (_ : pf_X10_finishFirstPossible_L2 k38 n v0 v1 v2 σ = some (r, σ')) (H : Heap) (locs : List Loc) (ls : Array Slot) (_ : GW G σ s H locs) (_ : lv_has ls 6 [(0, .ref (gz G + (v0))), (1, .ref (gz G + (v1))), (2, .int (v2))]), W p l e R s m args below meth c H locs cells slots Q (F0 m 2 ls []) := by
  have hx := X.1.1
  have hb := X.1.2.1
  intro n
  induction n with
  | zero => intro v0 h0 v1 h1 v2 σ h H locs ls hW hl; cases h
  | succ n ih =>
    intro v0 h0 v1 h1 v2 σ h H locs ls hW hl
    rw [pf_X10_finishFirstPossible_L2.eq_2] at h
    refine lv_iload_n hx hb dX10_finishFirstPossible_2 rfl (lv_at hl 2 rfl) ?_
    refine lv_aload_n hx hb dX10_finishFirstPossible_3 rfl (lv_at hl 1 rfl) ?_
    refine gf_X2_questCount X hW h1 m_1_147 dX10_finishFirstPossible_4 ?_
    refine lv_icmp_ge (tgt := 88) hx hb dX10_finishFirstPossible_7 (by decide) (fun hc => ?_) (fun hc => ?_)
    · replace h := if_t hc h
      refine lv_iconst (v := 0) hx hb dX10_finishFirstPossible_88 (by decide) ?_
      exact rz_end hret h (by decide) dX10_finishFirstPossible_89 hW
    · replace h := if_f hc h
      refine lv_iload_n hx hb dX10_finishFirstPossible_10 rfl (lv_at hl 2 rfl) ?_
      refine lv_bipush (v := 6) hx hb dX10_finishFirstPossible_11 (by decide) ?_
      refine lv_icmp_ge (tgt := 88) hx hb dX10_finishFirstPossible_13 (by decide) (fun hc => ?_) (fun hc => ?_)
      · replace h := if_t hc h
        refine lv_iconst (v := 0) hx hb dX10_finishFirstPossible_88 (by decide) ?_
        exact rz_end hret h (by decide) dX10_finishFirstPossible_89 hW
      · replace h := if_f hc h
        refine lv_aload_n hx hb dX10_finishFirstPossible_16 rfl (lv_at hl 1 rfl) ?_
        refine gf_X2_quests X hW h1 m_1_144 dX10_finishFirstPossible_17 ?_
        refine lv_iload_n hx hb dX10_finishFirstPossible_20 rfl (lv_at hl 2 rfl) ?_
        obtain ⟨hi1, h⟩ := ckI_el h
        refine r_qald X hW (kf_X2_quests h1) hi1 dX10_finishFirstPossible_21 ?_
        refine lv_astore_n (lv' := [(3, .ref (gz G + (v1 + 3 + 2 + 9 * (v2).toNatClampNeg))), (0, .ref (gz G + (v0))), (1, .ref (gz G + (v1))), (2, .int (v2))]) hx hb dX10_finishFirstPossible_22 rfl hl (by decide) rfl ?_
        clear hl; intro ls hl
        refine lv_aload_n hx hb dX10_finishFirstPossible_23 rfl (lv_at hl 1 rfl) ?_
        refine gf_X10_ways X hW h0 m_2_68 dX10_finishFirstPossible_24 ?_
        refine lv_aload_n hx hb dX10_finishFirstPossible_27 rfl (lv_at hl 0 rfl) ?_
        refine lv_aload_n hx hb dX10_finishFirstPossible_28 rfl (lv_at hl 2 rfl) ?_
        refine gf_X2_stock X hW h1 m_1_136 dX10_finishFirstPossible_29 ?_
        obtain ⟨r_2, σ_2, hcl, h⟩ := bnd2_el h
        refine call_V1 X hW (kC_X7 (kf_X10_ways h0)) m_2_124 m_2_125 m_2_126 mv_X7_explore (c_X7_explore (kf_X10_ways h0) (kq_16 (kf_X2_quests h1) (vp_lt hi1)) (kf_X2_stock h1) hcl) (by decide) rfl rfl (Nat.le_of_ble_eq_true rfl) hl.1 dX10_finishFirstPossible_32 ?_
        clear hW hcl; intro H locs hW
        refine lv_if_eq (tgt := 82) hx hb dX10_finishFirstPossible_35 (by decide) (fun hc => ?_) (fun hc => ?_)
        · replace h := if_t hc h
          refine w_iinc (v := 1) (lv' := fun y => [(2, .int (y)), (3, .ref (gz G + (v1 + 3 + 2 + 9 * (v2).toNatClampNeg))), (0, .ref (gz G + (v0))), (1, .ref (gz G + (v1)))]) hx hb dX10_finishFirstPossible_82 hl (k := 3) rfl (by decide) (by decide) (fun _ => rfl) h ?_
          clear h hl; intro v2_3 h ls hl
          refine lv_goto (tgt := 2) hx hb dX10_finishFirstPossible_85 (by decide) ?_
          exact ih v0 h0 v1 h1 v2_3 σ_2 h _ _ _ hW (lv_sub hl [2, 3, 0] rfl)
        · replace h := if_f hc h
          exact hk38 v0 h0 v1 h1 (v1 + 3 + 2 + 9 * (v2).toNatClampNeg) (kq_16 (kf_X2_quests h1) (vp_lt hi1)) σ_2 h _ _ _ hW (lv_sub hl [1, 2, 0] rfl)
set_option maxRecDepth 20000 in
set_option maxHeartbeats 4000000 in
theorem c_X10_finishFirstPossible {G : Gt} {l : Launch} {v0 : Nat} (h0 : kd v0 = 9) {v1 : Nat} (h1 : kd v1 = 2) {σ : St} {r : Int32} {σ' : St} (hf : pf_X10_finishFirstPossible v0 v1 σ = some (r, σ')) : Ct G l yX10_finishFirstPossible cX10_finishFirstPossible 6 (some .boolean) 7 [.ref (gz G + (v0)), .ref (gz G + (v1))] σ (some (.int r)) σ' := by
  refine met_z (by decide +kernel) (Nat.le_of_ble_eq_true rfl) rfl ?_
  intro p e s m args below meth c Q ls X hW hret hl
  have hx := X.1.1
  have hb := X.1.2.1
  have hl : lv_has ls 6 [(0, .ref (gz G + (v0))), (1, .ref (gz G + (v1)))] := hl
  have h := hf
  clear hf
  unfold pf_X10_finishFirstPossible at h
  refine lv_iconst (v := 0) hx hb dX10_finishFirstPossible_0 (by decide) ?_
  refine lv_istore_n (lv' := [(2, .int (0)), (0, .ref (gz G + (v0))), (1, .ref (gz G + (v1)))]) hx hb dX10_finishFirstPossible_1 rfl hl (by decide) rfl ?_
  clear hl; intro ls hl
  exact bl_X10_finishFirstPossible_L2 X hret (bl_X10_finishFirstPossible_b38 X hret) FU v0 h0 v1 h1 0 σ h _ _ _ hW (lv_sub hl [1, 2, 0] rfl)
set_option maxRecDepth 20000 in
set_option maxHeartbeats 4000000 in
theorem bl_X10_campaign_L15 (X : Cx G p R s m args c cells slots cX10_campaign 3 RX10 8) {r : Int32} {σ' : St} (hret : R_I G p l e R s m args below meth c cells slots Q cX10_campaign r σ') :
    ∀ (n : Nat), ∀ (v0 : Nat) (h0 : kd v0 = 9) (v1 : Int32) (v2 : Int32) (σ : St) (_ : pf_X10_campaign_L15 n v0 v1 v2 σ = some (r, σ')) (H : Heap) (locs : List Loc) (ls : Array Slot) (_ : GW G σ s H locs) (_ : lv_has ls 3 [(0, .ref (gz G + (v0))), (1, .int (v1)), (2, .int (v2))]), W p l e R s m args below meth c H locs cells slots Q (F0 m 15 ls []) := by
  have hx := X.1.1
  have hb := X.1.2.1
  intro n
  induction n with
  | zero => intro v0 h0 v1 v2 σ h H locs ls hW hl; cases h
  | succ n ih =>
    intro v0 h0 v1 v2 σ h H locs ls hW hl
    rw [pf_X10_campaign_L15.eq_2] at h
    refine lv_iload_n hx hb dX10_campaign_15 rfl (lv_at hl 2 rfl) ?_
    refine lv_bipush (v := 6) hx hb dX10_campaign_16 (by decide) ?_
    refine lv_icmp_ge (tgt := 43) hx hb dX10_campaign_18 (by decide) (fun hc => ?_) (fun hc => ?_)
    · replace h := if_t hc h
      refine lv_iload_n hx hb dX10_campaign_43 rfl (lv_at hl 1 rfl) ?_
      exact ri_end hret h dX10_campaign_44 hW
    · replace h := if_f hc h
      refine lv_aload_n hx hb dX10_campaign_21 rfl (lv_at hl 0 rfl) ?_
      refine lv_aload_n hx hb dX10_campaign_22 rfl (lv_at hl 0 rfl) ?_
      refine gf_X10_draft X hW h0 m_2_65 dX10_campaign_23 ?_
      obtain ⟨r_1, σ_1, hcl, h⟩ := bnd2_el h
      refine call_V1 X hW (kC_X10 h0) m_2_120 m_2_122 m_0_1 mv_X10_finishFirstPossible (c_X10_finishFirstPossible h0 (kf_X10_draft h0) hcl) (by decide) rfl rfl (Nat.le_of_ble_eq_true rfl) hl.1 dX10_campaign_26 ?_
      clear hW hcl; intro H locs hW
      refine lv_if_ne (tgt := 34) hx hb dX10_campaign_29 (by decide) (fun hc => ?_) (fun hc => ?_)
      · replace h := if_f hc h
        refine w_iinc (v := 1) (lv' := fun y => [(1, .int (y)), (0, .ref (gz G + (v0))), (2, .int (v2))]) hx hb dX10_campaign_34 hl (k := 1) rfl (by decide) (by decide) (fun _ => rfl) h ?_
        clear h hl; intro v1_2 h ls hl
        refine w_iinc (v := 1) (lv' := fun y => [(2, .int (y)), (1, .int (v1_2)), (0, .ref (gz G + (v0)))]) hx hb dX10_campaign_37 hl (k := 2) rfl (by decide) (by decide) (fun _ => rfl) h ?_
        clear h hl; intro v2_3 h ls hl
        refine lv_goto (tgt := 15) hx hb dX10_campaign_40 (by decide) ?_
        exact ih v0 h0 v1_2 v2_3 σ_1 h _ _ _ hW (lv_sub hl [2, 1, 0] rfl)
      · replace h := if_t hc h
        refine lv_iload_n hx hb dX10_campaign_32 rfl (lv_at hl 1 rfl) ?_
        exact ri_end hret h dX10_campaign_33 hW
set_option maxRecDepth 20000 in
set_option maxHeartbeats 4000000 in
theorem c_X10_campaign {G : Gt} {l : Launch} {v0 : Nat} (h0 : kd v0 = 9) {σ : St} {r : Int32} {σ' : St} (hf : pf_X10_campaign v0 σ = some (r, σ')) : Ct G l yX10_campaign cX10_campaign 3 (some .int) 8 [.ref (gz G + (v0))] σ (some (.int r)) σ' := by
  refine met_i (by decide +kernel) (Nat.le_of_ble_eq_true rfl) rfl ?_
  intro p e s m args below meth c Q ls X hW hret hl
  have hx := X.1.1
  have hb := X.1.2.1
  have hl : lv_has ls 3 [(0, .ref (gz G + (v0)))] := hl
  have h := hf
  clear hf
  unfold pf_X10_campaign at h
  refine lv_aload_n hx hb dX10_campaign_0 rfl (lv_at hl 0 rfl) ?_
  refine gf_X10_draft X hW h0 m_2_65 dX10_campaign_1 ?_
  refine lv_aload_n hx hb dX10_campaign_4 rfl (lv_at hl 0 rfl) ?_
  refine gf_X10_now X hW h0 m_2_64 dX10_campaign_5 ?_
  obtain ⟨σ_1, hcl, h⟩ := bind_el h
  refine call_V0 X hW (kC_X2 (kf_X10_draft h0)) m_2_108 m_2_109 m_2_110 mv_X2_copyFrom (c_X2_copyFrom (kf_X10_draft h0) (kf_X10_now h0) hcl) (by decide) rfl rfl (Nat.le_of_ble_eq_true rfl) hl.1 dX10_campaign_8 ?_
  clear hW hcl; intro H locs hW
  refine lv_iconst (v := 0) hx hb dX10_campaign_11 (by decide) ?_
  refine lv_istore_n (lv' := [(1, .int (0)), (0, .ref (gz G + (v0)))]) hx hb dX10_campaign_12 rfl hl (by decide) rfl ?_
  clear hl; intro ls hl
  refine lv_iconst (v := 0) hx hb dX10_campaign_13 (by decide) ?_
  refine lv_istore_n (lv' := [(2, .int (0)), (1, .int (0)), (0, .ref (gz G + (v0)))]) hx hb dX10_campaign_14 rfl hl (by decide) rfl ?_
  clear hl; intro ls hl
  exact bl_X10_campaign_L15 X hret FU v0 h0 0 0 σ_1 h _ _ _ hW (lv_sub hl [2, 1, 0] rfl)
set_option maxRecDepth 20000 in
set_option maxHeartbeats 4000000 in
theorem c_X10_worthOf {G : Gt} {l : Launch} {v0 : Nat} (h0 : kd v0 = 9) {v1 : Nat} (h1 : kd v1 = 3) {v2 : Int32} {σ : St} {r : Int32} {σ' : St} (hf : pf_X10_worthOf v0 v1 v2 σ = some (r, σ')) : Ct G l yX10_worthOf cX10_worthOf 3 (some .int) 7 [.ref (gz G + (v0)), .ref (gz G + (v1)), .int (v2)] σ (some (.int r)) σ' := by
  refine met_i (by decide +kernel) (Nat.le_of_ble_eq_true rfl) rfl ?_
  intro p e s m args below meth c Q ls X hW hret hl
  have hx := X.1.1
  have hb := X.1.2.1
  have hl : lv_has ls 3 [(0, .ref (gz G + (v0))), (1, .ref (gz G + (v1))), (2, .int (v2))] := hl
  have h := hf
  clear hf
  unfold pf_X10_worthOf at h
  refine lv_aload_n hx hb dX10_worthOf_0 rfl (lv_at hl 0 rfl) ?_
  refine gf_X10_ways X hW h0 m_2_68 dX10_worthOf_1 ?_
  refine lv_aload_n hx hb dX10_worthOf_4 rfl (lv_at hl 1 rfl) ?_
  refine lv_aload_n hx hb dX10_worthOf_5 rfl (lv_at hl 0 rfl) ?_
  refine gf_X10_now X hW h0 m_2_64 dX10_worthOf_6 ?_
  refine gf_X2_stock X hW (kf_X10_now h0) m_1_136 dX10_worthOf_9 ?_
  obtain ⟨r_1, σ_1, hcl, h⟩ := bnd2_el h
  refine call_V1 X hW (kC_X7 (kf_X10_ways h0)) m_2_124 m_2_125 m_2_126 mv_X7_explore (c_X7_explore (kf_X10_ways h0) h1 (kf_X2_stock (kf_X10_now h0)) hcl) (by decide) rfl rfl (Nat.le_of_ble_eq_true rfl) hl.1 dX10_worthOf_12 ?_
  clear hW hcl; intro H locs hW
  refine lv_pop hx hb dX10_worthOf_15 rfl ?_
  refine lv_aload_n hx hb dX10_worthOf_16 rfl (lv_at hl 0 rfl) ?_
  refine gf_X10_worthMeter X hW h0 m_2_69 dX10_worthOf_17 ?_
  refine lv_iconst (v := (-1)) hx hb dX10_worthOf_20 (by decide) ?_
  refine lv_aload_n hx hb dX10_worthOf_21 rfl (lv_at hl 0 rfl) ?_
  refine gf_X10_ways X hW h0 m_2_68 dX10_worthOf_22 ?_
  refine lv_aload_n hx hb dX10_worthOf_25 rfl (lv_at hl 1 rfl) ?_
  obtain ⟨r_2, hcl, h⟩ := bind_el h
  refine call_V1 X hW (kC_X7 (kf_X10_ways h0)) m_2_174 m_2_175 m_2_176 mv_X7_lengthOfPlan (c_X7_lengthOfPlan (kf_X10_ways h0) h1 hcl) (by decide) rfl rfl (Nat.le_of_ble_eq_true rfl) hl.1 dX10_worthOf_26 ?_
  clear hW hcl; intro H locs hW
  obtain ⟨σ_3, hcl, h⟩ := bind_el h
  refine call_V0 X hW (kC_X8 (kf_X10_worthMeter h0)) m_2_201 m_2_202 m_2_203 mv_X8_see (c_X8_see (kf_X10_worthMeter h0) hcl) (by decide) rfl rfl (Nat.le_of_ble_eq_true rfl) hl.1 dX10_worthOf_29 ?_
  clear hW hcl; intro H locs hW
  refine lv_aload_n hx hb dX10_worthOf_32 rfl (lv_at hl 0 rfl) ?_
  refine gf_X10_worthMeter X hW h0 m_2_69 dX10_worthOf_33 ?_
  refine lv_bipush (v := (-2)) hx hb dX10_worthOf_36 (by decide) ?_
  refine lv_aload_n hx hb dX10_worthOf_38 rfl (lv_at hl 0 rfl) ?_
  refine gf_X10_ways X hW h0 m_2_68 dX10_worthOf_39 ?_
  refine lv_aload_n hx hb dX10_worthOf_42 rfl (lv_at hl 1 rfl) ?_
  obtain ⟨r_4, hcl, h⟩ := bind_el h
  refine call_V1 X hW (kC_X7 (kf_X10_ways h0)) m_2_206 m_2_207 m_2_208 mv_X7_riskOfPlan (c_X7_riskOfPlan (kf_X10_ways h0) h1 hcl) (by decide) rfl rfl (Nat.le_of_ble_eq_true rfl) hl.1 dX10_worthOf_43 ?_
  clear hW hcl; intro H locs hW
  obtain ⟨σ_5, hcl, h⟩ := bind_el h
  refine call_V0 X hW (kC_X8 (kf_X10_worthMeter h0)) m_2_201 m_2_202 m_2_203 mv_X8_see (c_X8_see (kf_X10_worthMeter h0) hcl) (by decide) rfl rfl (Nat.le_of_ble_eq_true rfl) hl.1 dX10_worthOf_46 ?_
  clear hW hcl; intro H locs hW
  refine lv_aload_n hx hb dX10_worthOf_49 rfl (lv_at hl 0 rfl) ?_
  refine gf_X10_worthMeter X hW h0 m_2_69 dX10_worthOf_50 ?_
  refine lv_bipush (v := (-3)) hx hb dX10_worthOf_53 (by decide) ?_
  refine lv_aload_n hx hb dX10_worthOf_55 rfl (lv_at hl 1 rfl) ?_
  refine gf_X3_done X hW h1 m_1_61 dX10_worthOf_56 ?_
  obtain ⟨r_6, hcl, h⟩ := bind_el h
  refine call_S1 X hW m_2_220 m_2_221 mv_J6_bitCount_0f7a4 (c_J6_bitCount_0f7a4 hcl) (by decide) rfl rfl (Nat.le_of_ble_eq_true rfl) hl.1 dX10_worthOf_59 ?_
  clear hW hcl; intro H locs hW
  obtain ⟨σ_7, hcl, h⟩ := bind_el h
  refine call_V0 X hW (kC_X8 (kf_X10_worthMeter h0)) m_2_201 m_2_202 m_2_203 mv_X8_see (c_X8_see (kf_X10_worthMeter h0) hcl) (by decide) rfl rfl (Nat.le_of_ble_eq_true rfl) hl.1 dX10_worthOf_62 ?_
  clear hW hcl; intro H locs hW
  refine lv_aload_n hx hb dX10_worthOf_65 rfl (lv_at hl 0 rfl) ?_
  refine gf_X10_worthMeter X hW h0 m_2_69 dX10_worthOf_66 ?_
  refine lv_bipush (v := (-4)) hx hb dX10_worthOf_69 (by decide) ?_
  refine lv_aload_n hx hb dX10_worthOf_71 rfl (lv_at hl 1 rfl) ?_
  obtain ⟨r_8, hcl, h⟩ := bind_el h
  refine call_V1 X hW (kC_X3 h1) m_2_226 m_2_227 m_2_228 mv_X3_sumOfFails (c_X3_sumOfFails h1 hcl) (by decide) rfl rfl (Nat.le_of_ble_eq_true rfl) hl.1 dX10_worthOf_72 ?_
  clear hW hcl; intro H locs hW
  obtain ⟨σ_9, hcl, h⟩ := bind_el h
  refine call_V0 X hW (kC_X8 (kf_X10_worthMeter h0)) m_2_201 m_2_202 m_2_203 mv_X8_see (c_X8_see (kf_X10_worthMeter h0) hcl) (by decide) rfl rfl (Nat.le_of_ble_eq_true rfl) hl.1 dX10_worthOf_75 ?_
  clear hW hcl; intro H locs hW
  refine lv_aload_n hx hb dX10_worthOf_78 rfl (lv_at hl 0 rfl) ?_
  refine gf_X10_worthMeter X hW h0 m_2_69 dX10_worthOf_79 ?_
  refine lv_bipush (v := (-5)) hx hb dX10_worthOf_82 (by decide) ?_
  refine lv_aload_n hx hb dX10_worthOf_84 rfl (lv_at hl 1 rfl) ?_
  refine gf_X3_rewardAmount X hW h1 m_1_70 dX10_worthOf_85 ?_
  obtain ⟨σ_10, hcl, h⟩ := bind_el h
  refine call_V0 X hW (kC_X8 (kf_X10_worthMeter h0)) m_2_201 m_2_202 m_2_203 mv_X8_see (c_X8_see (kf_X10_worthMeter h0) hcl) (by decide) rfl rfl (Nat.le_of_ble_eq_true rfl) hl.1 dX10_worthOf_88 ?_
  clear hW hcl; intro H locs hW
  refine lv_aload_n hx hb dX10_worthOf_91 rfl (lv_at hl 0 rfl) ?_
  refine gf_X10_worthMeter X hW h0 m_2_69 dX10_worthOf_92 ?_
  refine lv_bipush (v := (-6)) hx hb dX10_worthOf_95 (by decide) ?_
  refine lv_iload_n hx hb dX10_worthOf_97 rfl (lv_at hl 2 rfl) ?_
  obtain ⟨σ_11, hcl, h⟩ := bind_el h
  refine call_V0 X hW (kC_X8 (kf_X10_worthMeter h0)) m_2_201 m_2_202 m_2_203 mv_X8_see (c_X8_see (kf_X10_worthMeter h0) hcl) (by decide) rfl rfl (Nat.le_of_ble_eq_true rfl) hl.1 dX10_worthOf_98 ?_
  clear hW hcl; intro H locs hW
  refine lv_aload_n hx hb dX10_worthOf_101 rfl (lv_at hl 0 rfl) ?_
  refine gf_X10_worthMeter X hW h0 m_2_69 dX10_worthOf_102 ?_
  refine lv_aload_n hx hb dX10_worthOf_105 rfl (lv_at hl 0 rfl) ?_
  refine gf_X10_now X hW h0 m_2_64 dX10_worthOf_106 ?_
  refine gf_X2_worthCode X hW (kf_X10_now h0) m_1_150 dX10_worthOf_109 ?_
  refine lv_aload_n hx hb dX10_worthOf_112 rfl (lv_at hl 0 rfl) ?_
  refine gf_X10_now X hW h0 m_2_64 dX10_worthOf_113 ?_
  refine gf_X2_worthLength X hW (kf_X10_now h0) m_1_153 dX10_worthOf_116 ?_
  obtain ⟨r_12, σ_12, hcl, h⟩ := bnd2_el h
  refine call_V1 X hW (kC_X8 (kf_X10_worthMeter h0)) m_2_230 m_2_231 m_2_232 mv_X8_measure (c_X8_measure (kf_X10_worthMeter h0) (kf_X2_worthCode (kf_X10_now h0)) hcl) (by decide) rfl rfl (Nat.le_of_ble_eq_true rfl) hl.1 dX10_worthOf_119 ?_
  clear hW hcl; intro H locs hW
  exact ri_end hret h dX10_worthOf_122 hW
set_option maxRecDepth 20000 in
set_option maxHeartbeats 4000000 in
theorem bl_X10_best_b77 (X : Cx G p R s m args c cells slots cX10_best 6 RX10 8) {r : Int32} {σ' : St} (hret : R_I G p l e R s m args below meth c cells slots Q cX10_best r σ') {k6 : Nat → Int32 → Int32 → Int32 → St → (Option (Int32 × St))}
    (hk6 : ∀ (v0 : Nat) (h0 : kd v0 = 9) (v1 : Int32) (v2 : Int32) (v3 : Int32) (σ : St) (_ : k6 v0 v1 v2 v3 σ = some (r, σ')) (H : Heap) (locs : List Loc) (ls : Array Slot) (_ : GW G σ s H locs) (_ : lv_has ls 6 [(0, .ref (gz G + (v0))), (1, .int (v1)), (2, .int (v2)), (3, .int (v3))]), W p l e R s m args below meth c H locs cells slots Q (F0 m 6 ls [])) :
    ∀ (v0 : Nat) (h0 : kd v0 = 9) (v1 : Int32) (v2 : Int32) (v3 : Int32) (σ : St) (_ : pf_X10_best_b77 k6 v0 v1 v2 v3 σ = some (r, σ')) (H : Heap) (locs : List Loc) (ls : Array Slot) (_ : GW G σ s H locs) (_ : lv_has ls 6 [(0, .ref (gz G + (v0))), (1, .int (v1)), (2, .int (v2)), (3, .int (v3))]), W p l e R s m args below meth c H locs cells slots Q (F0 m 77 ls []) := by
  have hx := X.1.1
  have hb := X.1.2.1
  intro v0 h0 v1 v2 v3 σ h H locs ls hW hl
  unfold pf_X10_best_b77 at h
  refine w_iinc (v := 1) (lv' := fun y => [(3, .int (y)), (0, .ref (gz G + (v0))), (1, .int (v1)), (2, .int (v2))]) hx hb dX10_best_77 hl (k := 3) rfl (by decide) (by decide) (fun _ => rfl) h ?_
  clear h hl; intro v3_1 h ls hl
  refine lv_goto (tgt := 6) hx hb dX10_best_80 (by decide) ?_
  exact hk6 v0 h0 v1 v2 v3_1 σ h _ _ _ hW (lv_sub hl [1, 2, 3, 0] rfl)
set_option maxRecDepth 20000 in
set_option maxHeartbeats 4000000 in
theorem bl_X10_best_b72 (X : Cx G p R s m args c cells slots cX10_best 6 RX10 8) {r : Int32} {σ' : St} (hret : R_I G p l e R s m args below meth c cells slots Q cX10_best r σ') {k6 : Nat → Int32 → Int32 → Int32 → St → (Option (Int32 × St))}
    (hk6 : ∀ (v0 : Nat) (h0 : kd v0 = 9) (v1 : Int32) (v2 : Int32) (v3 : Int32) (σ : St) (_ : k6 v0 v1 v2 v3 σ = some (r, σ')) (H : Heap) (locs : List Loc) (ls : Array Slot) (_ : GW G σ s H locs) (_ : lv_has ls 6 [(0, .ref (gz G + (v0))), (1, .int (v1)), (2, .int (v2)), (3, .int (v3))]), W p l e R s m args below meth c H locs cells slots Q (F0 m 6 ls [])) :
    ∀ (v0 : Nat) (h0 : kd v0 = 9) (v3 : Int32) (v5 : Int32) (σ : St) (_ : pf_X10_best_b72 k6 v0 v3 v5 σ = some (r, σ')) (H : Heap) (locs : List Loc) (ls : Array Slot) (_ : GW G σ s H locs) (_ : lv_has ls 6 [(0, .ref (gz G + (v0))), (3, .int (v3)), (5, .int (v5))]), W p l e R s m args below meth c H locs cells slots Q (F0 m 72 ls []) := by
  have hx := X.1.1
  have hb := X.1.2.1
  intro v0 h0 v3 v5 σ h H locs ls hW hl
  unfold pf_X10_best_b72 at h
  refine lv_iload_n hx hb dX10_best_72 rfl (lv_at hl 1 rfl) ?_
  refine lv_istore_n (lv' := [(1, .int (v3)), (0, .ref (gz G + (v0))), (3, .int (v3)), (5, .int (v5))]) hx hb dX10_best_73 rfl hl (by decide) rfl ?_
  clear hl; intro ls hl
  refine lv_iload hx hb dX10_best_74 (lv_at hl 3 rfl) ?_
  refine lv_istore_n (lv' := [(2, .int (v5)), (1, .int (v3)), (0, .ref (gz G + (v0))), (3, .int (v3)), (5, .int (v5))]) hx hb dX10_best_76 rfl hl (by decide) rfl ?_
  clear hl; intro ls hl
  exact bl_X10_best_b77 X hret hk6 v0 h0 v3 v5 v3 σ h _ _ _ hW (lv_sub hl [2, 1, 0, 3] rfl)
set_option maxRecDepth 20000 in
set_option maxHeartbeats 4000000 in
theorem bl_X10_best_L6 (X : Cx G p R s m args c cells slots cX10_best 6 RX10 8) {r : Int32} {σ' : St} (hret : R_I G p l e R s m args below meth c cells slots Q cX10_best r σ') :
    ∀ (n : Nat), ∀ (v0 : Nat) (h0 : kd v0 = 9) (v1 : Int32) (v2 : Int32) (v3 : Int32) (σ : St) (_ : pf_X10_best_L6 n v0 v1 v2 v3 σ = some (r, σ')) (H : Heap) (locs : List Loc) (ls : Array Slot) (_ : GW G σ s H locs) (_ : lv_has ls 6 [(0, .ref (gz G + (v0))), (1, .int (v1)), (2, .int (v2)), (3, .int (v3))]), W p l e R s m args below meth c H locs cells slots Q (F0 m 6 ls []) := by
  have hx := X.1.1
  have hb := X.1.2.1
  intro n
  induction n with
  | zero => intro v0 h0 v1 v2 v3 σ h H locs ls hW hl; cases h
  | succ n ih =>
    intro v0 h0 v1 v2 v3 σ h H locs ls hW hl
    rw [pf_X10_best_L6.eq_2] at h
    refine lv_iload_n hx hb dX10_best_6 rfl (lv_at hl 3 rfl) ?_
    refine lv_aload_n hx hb dX10_best_7 rfl (lv_at hl 0 rfl) ?_
    refine gf_X10_now X hW h0 m_2_64 dX10_best_8 ?_
    refine gf_X2_questCount X hW (kf_X10_now h0) m_1_147 dX10_best_11 ?_
    refine lv_icmp_ge (tgt := 83) hx hb dX10_best_14 (by decide) (fun hc => ?_) (fun hc => ?_)
    · replace h := if_t hc h
      refine lv_iload_n hx hb dX10_best_83 rfl (lv_at hl 1 rfl) ?_
      exact ri_end hret h dX10_best_84 hW
    · replace h := if_f hc h
      refine lv_iload_n hx hb dX10_best_17 rfl (lv_at hl 3 rfl) ?_
      refine lv_bipush (v := 6) hx hb dX10_best_18 (by decide) ?_
      refine lv_icmp_ge (tgt := 83) hx hb dX10_best_20 (by decide) (fun hc => ?_) (fun hc => ?_)
      · replace h := if_t hc h
        refine lv_iload_n hx hb dX10_best_83 rfl (lv_at hl 1 rfl) ?_
        exact ri_end hret h dX10_best_84 hW
      · replace h := if_f hc h
        refine lv_aload_n hx hb dX10_best_23 rfl (lv_at hl 0 rfl) ?_
        refine gf_X10_now X hW h0 m_2_64 dX10_best_24 ?_
        refine gf_X2_quests X hW (kf_X10_now h0) m_1_144 dX10_best_27 ?_
        refine lv_iload_n hx hb dX10_best_30 rfl (lv_at hl 3 rfl) ?_
        obtain ⟨hi1, h⟩ := ckI_el h
        refine r_qald X hW (kf_X2_quests (kf_X10_now h0)) hi1 dX10_best_31 ?_
        refine lv_astore (lv' := [(4, .ref (gz G + (v0 + 2 + 3 + 2 + 9 * (v3).toNatClampNeg))), (0, .ref (gz G + (v0))), (1, .int (v1)), (2, .int (v2)), (3, .int (v3))]) hx hb dX10_best_32 hl (by decide) rfl ?_
        clear hl; intro ls hl
        refine lv_aload_n hx hb dX10_best_34 rfl (lv_at hl 1 rfl) ?_
        refine gf_X10_ways X hW h0 m_2_68 dX10_best_35 ?_
        refine lv_aload hx hb dX10_best_38 (lv_at hl 0 rfl) ?_
        refine lv_aload_n hx hb dX10_best_40 rfl (lv_at hl 1 rfl) ?_
        refine gf_X10_now X hW h0 m_2_64 dX10_best_41 ?_
        refine gf_X2_stock X hW (kf_X10_now h0) m_1_136 dX10_best_44 ?_
        obtain ⟨r_2, σ_2, hcl, h⟩ := bnd2_el h
        refine call_V1 X hW (kC_X7 (kf_X10_ways h0)) m_2_124 m_2_125 m_2_126 mv_X7_explore (c_X7_explore (kf_X10_ways h0) (kq_16 (kf_X2_quests (kf_X10_now h0)) (vp_lt hi1)) (kf_X2_stock (kf_X10_now h0)) hcl) (by decide) rfl rfl (Nat.le_of_ble_eq_true rfl) hl.1 dX10_best_47 ?_
        clear hW hcl; intro H locs hW
        refine lv_if_eq (tgt := 77) hx hb dX10_best_50 (by decide) (fun hc => ?_) (fun hc => ?_)
        · replace h := if_t hc h
          exact bl_X10_best_b77 X hret ih v0 h0 v1 v2 v3 σ_2 h _ _ _ hW (lv_sub hl [1, 2, 3, 4] rfl)
        · replace h := if_f hc h
          refine lv_aload_n hx hb dX10_best_53 rfl (lv_at hl 1 rfl) ?_
          refine lv_aload hx hb dX10_best_54 (lv_at hl 0 rfl) ?_
          refine lv_iload_n hx hb dX10_best_56 rfl (lv_at hl 4 rfl) ?_
          obtain ⟨r_3, σ_3, hcl, h⟩ := bnd2_el h
          refine call_V1 X hW (kC_X10 h0) m_2_197 m_2_199 m_0_9 mv_X10_worthOf (c_X10_worthOf h0 (kq_16 (kf_X2_quests (kf_X10_now h0)) (vp_lt hi1)) hcl) (by decide) rfl rfl (Nat.le_of_ble_eq_true rfl) hl.1 dX10_best_57 ?_
          clear hW hcl; intro H locs hW
          refine lv_istore (lv' := [(5, .int (r_3)), (4, .ref (gz G + (v0 + 2 + 3 + 2 + 9 * (v3).toNatClampNeg))), (0, .ref (gz G + (v0))), (1, .int (v1)), (2, .int (v2)), (3, .int (v3))]) hx hb dX10_best_60 hl (by decide) rfl ?_
          clear hl; intro ls hl
          refine lv_iload_n hx hb dX10_best_62 rfl (lv_at hl 3 rfl) ?_
          refine lv_if_lt (tgt := 72) hx hb dX10_best_63 (by decide) (fun hc => ?_) (fun hc => ?_)
          · replace h := if_t hc h
            exact bl_X10_best_b72 X hret ih v0 h0 v3 r_3 σ_3 h _ _ _ hW (lv_sub hl [2, 5, 0] rfl)
          · replace h := if_f hc h
            refine lv_iload hx hb dX10_best_66 (lv_at hl 0 rfl) ?_
            refine lv_iload_n hx hb dX10_best_68 rfl (lv_at hl 4 rfl) ?_
            refine lv_icmp_le (tgt := 77) hx hb dX10_best_69 (by decide) (fun hc => ?_) (fun hc => ?_)
            · replace h := if_t hc h
              exact bl_X10_best_b77 X hret ih v0 h0 v1 v2 v3 σ_3 h _ _ _ hW (lv_sub hl [2, 3, 4, 5] rfl)
            · replace h := if_f hc h
              exact bl_X10_best_b72 X hret ih v0 h0 v3 r_3 σ_3 h _ _ _ hW (lv_sub hl [2, 5, 0] rfl)
set_option maxRecDepth 20000 in
set_option maxHeartbeats 4000000 in
theorem c_X10_best {G : Gt} {l : Launch} {v0 : Nat} (h0 : kd v0 = 9) {σ : St} {r : Int32} {σ' : St} (hf : pf_X10_best v0 σ = some (r, σ')) : Ct G l yX10_best cX10_best 6 (some .int) 8 [.ref (gz G + (v0))] σ (some (.int r)) σ' := by
  refine met_i (by decide +kernel) (Nat.le_of_ble_eq_true rfl) rfl ?_
  intro p e s m args below meth c Q ls X hW hret hl
  have hx := X.1.1
  have hb := X.1.2.1
  have hl : lv_has ls 6 [(0, .ref (gz G + (v0)))] := hl
  have h := hf
  clear hf
  unfold pf_X10_best at h
  refine lv_iconst (v := (-1)) hx hb dX10_best_0 (by decide) ?_
  refine lv_istore_n (lv' := [(1, .int ((-1))), (0, .ref (gz G + (v0)))]) hx hb dX10_best_1 rfl hl (by decide) rfl ?_
  clear hl; intro ls hl
  refine lv_iconst (v := 0) hx hb dX10_best_2 (by decide) ?_
  refine lv_istore_n (lv' := [(2, .int (0)), (1, .int ((-1))), (0, .ref (gz G + (v0)))]) hx hb dX10_best_3 rfl hl (by decide) rfl ?_
  clear hl; intro ls hl
  refine lv_iconst (v := 0) hx hb dX10_best_4 (by decide) ?_
  refine lv_istore_n (lv' := [(3, .int (0)), (2, .int (0)), (1, .int ((-1))), (0, .ref (gz G + (v0)))]) hx hb dX10_best_5 rfl hl (by decide) rfl ?_
  clear hl; intro ls hl
  exact bl_X10_best_L6 X hret FU v0 h0 (-1) 0 0 σ h _ _ _ hW (lv_sub hl [3, 2, 1, 0] rfl)
end
