section
variable {G : Gt} {p : Program} {l : Launch} {e : Env} {R : Room} {s : State} {m : MethodId} {args : Array Value} {below : List Frame} {meth : Method} {c : Code} {cells slots : Nat} {Q : State → Prop}
set_option maxRecDepth 20000 in
set_option maxHeartbeats 4000000 in
theorem c_X0_putTally {G : Gt} {l : Launch} {v0 : Nat} (h0 : kd v0 = 0) {v1 : Int32} {v2 : Int32} {v3 : Int64} {σ : St} {σ' : St} (hf : pf_X0_putTally v0 v1 v2 v3 σ = some σ') : Ct G l yX0_putTally cX0_putTally 6 none 2 [.ref (gz G + (v0)), .int (v1), .int (v2), .long (v3)] σ none σ' := by
  refine met_v (by decide +kernel) (Nat.le_of_ble_eq_true rfl) rfl ?_
  intro p e s m args below meth c Q ls X hW hret hl
  have hx := X.1.1
  have hb := X.1.2.1
  have hl : lv_has ls 6 [(0, .ref (gz G + (v0))), (1, .int (v1)), (2, .int (v2)), (3, .long (v3))] := hl
  have h := hf
  clear hf
  unfold pf_X0_putTally at h
  refine lv_iload_n hx hb dX0_putTally_0 rfl (lv_at hl 1 rfl) ?_
  refine lv_bipush (v := 7) hx hb dX0_putTally_1 (by decide) ?_
  refine lv_imul hx hb dX0_putTally_3 ?_
  refine lv_iload_n hx hb dX0_putTally_4 rfl (lv_at hl 2 rfl) ?_
  refine lv_iadd hx hb dX0_putTally_5 ?_
  refine nm_i h ?_
  clear h; intro v5_1 h
  refine lv_istore (lv' := [(5, .int (v5_1)), (0, .ref (gz G + (v0))), (1, .int (v1)), (2, .int (v2)), (3, .long (v3))]) hx hb dX0_putTally_6 hl (by decide) rfl ?_
  clear hl; intro ls hl
  refine lv_iload hx hb dX0_putTally_8 (lv_at hl 0 rfl) ?_
  refine lv_if_lt (tgt := 31) hx hb dX0_putTally_10 (by decide) (fun hc => ?_) (fun hc => ?_)
  · replace h := if_t hc h
    exact rv_end hret h dX0_putTally_31 hW
  · replace h := if_f hc h
    refine lv_iload hx hb dX0_putTally_13 (lv_at hl 0 rfl) ?_
    refine lv_aload_n hx hb dX0_putTally_15 rfl (lv_at hl 1 rfl) ?_
    refine gf_X0_atLeast X hW h0 m_2_0 dX0_putTally_16 ?_
    refine r_alen12 X hW (kf_X0_atLeast h0) dX0_putTally_19 ?_
    refine lv_icmp_ge (tgt := 31) hx hb dX0_putTally_20 (by decide) (fun hc => ?_) (fun hc => ?_)
    · replace h := if_t hc h
      exact rv_end hret h dX0_putTally_31 hW
    · replace h := if_f hc h
      refine lv_aload_n hx hb dX0_putTally_23 rfl (lv_at hl 1 rfl) ?_
      refine gf_X0_atLeast X hW h0 m_2_0 dX0_putTally_24 ?_
      refine lv_iload hx hb dX0_putTally_27 (lv_at hl 0 rfl) ?_
      refine lv_lload_n hx hb dX0_putTally_29 rfl (lv_at hl 4 rfl) ?_
      obtain ⟨hi2, h⟩ := ckI_el h
      refine r_last X hW (kf_X0_atLeast h0) hi2 dX0_putTally_30 ?_
      clear hW; intro H locs hW
      refine nm_s hW h ?_
      clear hW h; intro σ_3 hW h
      exact rv_end hret h dX0_putTally_31 hW
set_option maxRecDepth 20000 in
set_option maxHeartbeats 4000000 in
theorem c_X0_tallied {G : Gt} {l : Launch} {v0 : Nat} (h0 : kd v0 = 0) {v1 : Int32} {v2 : Int32} {σ : St} {r : Int64} (hf : pf_X0_tallied v0 v1 v2 σ = some r) : Ct G l yX0_tallied cX0_tallied 4 (some .long) 2 [.ref (gz G + (v0)), .int (v1), .int (v2)] σ (some (.long r)) σ := by
  refine met_l (by decide +kernel) (Nat.le_of_ble_eq_true rfl) rfl ?_
  intro p e s m args below meth c Q ls X hW hret hl
  have hx := X.1.1
  have hb := X.1.2.1
  have hl : lv_has ls 4 [(0, .ref (gz G + (v0))), (1, .int (v1)), (2, .int (v2))] := hl
  have h := hf
  clear hf
  unfold pf_X0_tallied at h
  refine lv_iload_n hx hb dX0_tallied_0 rfl (lv_at hl 1 rfl) ?_
  refine lv_bipush (v := 7) hx hb dX0_tallied_1 (by decide) ?_
  refine lv_imul hx hb dX0_tallied_3 ?_
  refine lv_iload_n hx hb dX0_tallied_4 rfl (lv_at hl 2 rfl) ?_
  refine lv_iadd hx hb dX0_tallied_5 ?_
  refine nm_i h ?_
  clear h; intro v3_1 h
  refine lv_istore_n (lv' := [(3, .int (v3_1)), (0, .ref (gz G + (v0))), (1, .int (v1)), (2, .int (v2))]) hx hb dX0_tallied_6 rfl hl (by decide) rfl ?_
  clear hl; intro ls hl
  refine lv_iload_n hx hb dX0_tallied_7 rfl (lv_at hl 0 rfl) ?_
  refine lv_if_lt (tgt := 29) hx hb dX0_tallied_8 (by decide) (fun hc => ?_) (fun hc => ?_)
  · replace h := if_t hc h
    refine lv_lconst (v := 0) hx hb dX0_tallied_29 (by decide) ?_
    exact rl_end0 hret h dX0_tallied_30 hW
  · replace h := if_f hc h
    refine lv_iload_n hx hb dX0_tallied_11 rfl (lv_at hl 0 rfl) ?_
    refine lv_aload_n hx hb dX0_tallied_12 rfl (lv_at hl 1 rfl) ?_
    refine gf_X0_atLeast X hW h0 m_2_0 dX0_tallied_13 ?_
    refine r_alen12 X hW (kf_X0_atLeast h0) dX0_tallied_16 ?_
    refine lv_icmp_ge (tgt := 29) hx hb dX0_tallied_17 (by decide) (fun hc => ?_) (fun hc => ?_)
    · replace h := if_t hc h
      refine lv_lconst (v := 0) hx hb dX0_tallied_29 (by decide) ?_
      exact rl_end0 hret h dX0_tallied_30 hW
    · replace h := if_f hc h
      refine lv_aload_n hx hb dX0_tallied_20 rfl (lv_at hl 1 rfl) ?_
      refine gf_X0_atLeast X hW h0 m_2_0 dX0_tallied_21 ?_
      refine lv_iload_n hx hb dX0_tallied_24 rfl (lv_at hl 0 rfl) ?_
      obtain ⟨hi2, h⟩ := ckI_el h
      refine r_lald X hW (kf_X0_atLeast h0) hi2 dX0_tallied_25 ?_
      refine lv_goto (tgt := 30) hx hb dX0_tallied_26 (by decide) ?_
      exact rl_end0 hret h dX0_tallied_30 hW
set_option maxRecDepth 20000 in
set_option maxHeartbeats 4000000 in
theorem bl_X0_tally_L4 (X : Cx G p R s m args c cells slots cX0_tally 5 RX0 3) {σ' : St} (hret : R_V G p l e R s m args below meth c cells slots Q cX0_tally σ') :
    ∀ (n : Nat), ∀ (v0 : Nat) (h0 : kd v0 = 0) (v1 : Int32) (v2 : Int64) (v4 : Int32) (σ : St) (_ : pf_X0_tally_L4 n v0 v1 v2 v4 σ = some σ') (H : Heap) (locs : List Loc) (ls : Array Slot) (_ : GW G σ s H locs) (_ : lv_has ls 5 [(0, .ref (gz G + (v0))), (1, .int (v1)), (2, .long (v2)), (4, .int (v4))]), W p l e R s m args below meth c H locs cells slots Q (F0 m 4 ls []) := by
  have hx := X.1.1
  have hb := X.1.2.1
  intro n
  induction n with
  | zero => intro v0 h0 v1 v2 v4 σ h H locs ls hW hl; cases h
  | succ n ih =>
    intro v0 h0 v1 v2 v4 σ h H locs ls hW hl
    rw [pf_X0_tally_L4.eq_2] at h
    refine lv_iload hx hb dX0_tally_4 (lv_at hl 3 rfl) ?_
    refine lv_if_le (tgt := 41) hx hb dX0_tally_6 (by decide) (fun hc => ?_) (fun hc => ?_)
    · replace h := if_t hc h
      exact rv_end hret h dX0_tally_41 hW
    · replace h := if_f hc h
      refine lv_aload_n hx hb dX0_tally_9 rfl (lv_at hl 0 rfl) ?_
      refine lv_iload_n hx hb dX0_tally_10 rfl (lv_at hl 1 rfl) ?_
      refine lv_iload hx hb dX0_tally_11 (lv_at hl 3 rfl) ?_
      refine lv_aload_n hx hb dX0_tally_13 rfl (lv_at hl 0 rfl) ?_
      refine lv_iload_n hx hb dX0_tally_14 rfl (lv_at hl 1 rfl) ?_
      refine lv_iload hx hb dX0_tally_15 (lv_at hl 3 rfl) ?_
      obtain ⟨r_1, hcl, h⟩ := bind_el h
      refine call_V1 X hW (kC_X0 h0) m_6_180 m_6_182 m_0_34 mv_X0_tallied (c_X0_tallied h0 hcl) (by decide) rfl rfl (Nat.le_of_ble_eq_true rfl) hl.1 dX0_tally_17 ?_
      clear hW hcl; intro H locs hW
      refine lv_aload_n hx hb dX0_tally_20 rfl (lv_at hl 0 rfl) ?_
      refine lv_iload_n hx hb dX0_tally_21 rfl (lv_at hl 1 rfl) ?_
      refine lv_iload hx hb dX0_tally_22 (lv_at hl 3 rfl) ?_
      refine lv_iconst (v := 1) hx hb dX0_tally_24 (by decide) ?_
      refine lv_isub hx hb dX0_tally_25 ?_
      obtain ⟨r_2, hcl, h⟩ := bind_el h
      refine call_V1 X hW (kC_X0 h0) m_6_180 m_6_182 m_0_34 mv_X0_tallied (c_X0_tallied h0 hcl) (by decide) rfl rfl (Nat.le_of_ble_eq_true rfl) hl.1 dX0_tally_26 ?_
      clear hW hcl; intro H locs hW
      refine lv_lload_n hx hb dX0_tally_29 rfl (lv_at hl 2 rfl) ?_
      refine lv_land hx hb dX0_tally_30 ?_
      refine lv_lor hx hb dX0_tally_31 ?_
      obtain ⟨σ_3, hcl, h⟩ := bind_el h
      refine call_V0 X hW (kC_X0 h0) m_6_171 m_6_173 m_0_32 mv_X0_putTally (c_X0_putTally h0 hcl) (by decide) rfl rfl (Nat.le_of_ble_eq_true rfl) hl.1 dX0_tally_32 ?_
      clear hW hcl; intro H locs hW
      refine w_iinc (v := (-1)) (lv' := fun y => [(4, .int (y)), (0, .ref (gz G + (v0))), (1, .int (v1)), (2, .long (v2))]) hx hb dX0_tally_35 hl (k := 3) rfl (by decide) (by decide) (fun _ => rfl) h ?_
      clear h hl; intro v4_4 h ls hl
      refine lv_goto (tgt := 4) hx hb dX0_tally_38 (by decide) ?_
      exact ih v0 h0 v1 v2 v4_4 σ_3 h _ _ _ hW (lv_sub hl [1, 2, 3, 0] rfl)
set_option maxRecDepth 20000 in
set_option maxHeartbeats 4000000 in
theorem c_X0_tally {G : Gt} {l : Launch} {v0 : Nat} (h0 : kd v0 = 0) {v1 : Int32} {v2 : Int64} {σ : St} {σ' : St} (hf : pf_X0_tally v0 v1 v2 σ = some σ') : Ct G l yX0_tally cX0_tally 5 none 3 [.ref (gz G + (v0)), .int (v1), .long (v2)] σ none σ' := by
  refine met_v (by decide +kernel) (Nat.le_of_ble_eq_true rfl) rfl ?_
  intro p e s m args below meth c Q ls X hW hret hl
  have hx := X.1.1
  have hb := X.1.2.1
  have hl : lv_has ls 5 [(0, .ref (gz G + (v0))), (1, .int (v1)), (2, .long (v2))] := hl
  have h := hf
  clear hf
  unfold pf_X0_tally at h
  refine lv_bipush (v := 6) hx hb dX0_tally_0 (by decide) ?_
  refine lv_istore (lv' := [(4, .int (6)), (0, .ref (gz G + (v0))), (1, .int (v1)), (2, .long (v2))]) hx hb dX0_tally_2 hl (by decide) rfl ?_
  clear hl; intro ls hl
  exact bl_X0_tally_L4 X hret FU v0 h0 v1 v2 6 σ h _ _ _ hW (lv_sub hl [1, 2, 3, 0] rfl)
set_option maxRecDepth 20000 in
set_option maxHeartbeats 4000000 in
theorem c_X6_ahead {G : Gt} {l : Launch} {v0 : Nat} (h0 : kd v0 = 5) {σ : St} {r : Option Nat} (hf : pf_X6_ahead v0 σ = some r) : Ct G l yX6_ahead cX6_ahead 1 (some (.object "QuestLedger$Token")) 2 [.ref (gz G + (v0))] σ (some (va_re (gad G) r)) σ := by
  refine met_a (by decide +kernel) (Nat.le_of_ble_eq_true rfl) rfl (Or.inl ⟨_, rfl⟩) (va_re_or _ _) ?_
  intro p e s m args below meth c Q ls X hW hret hl
  have hx := X.1.1
  have hb := X.1.2.1
  have hl : lv_has ls 1 [(0, .ref (gz G + (v0)))] := hl
  have h := hf
  clear hf
  unfold pf_X6_ahead at h
  refine lv_aload_n hx hb dX6_ahead_0 rfl (lv_at hl 0 rfl) ?_
  refine gf_X6_error X hW h0 m_1_215 dX6_ahead_1 ?_
  refine lv_if_ne (tgt := 35) hx hb dX6_ahead_4 (by decide) (fun hc => ?_) (fun hc => ?_)
  · replace h := if_f hc h
    refine r_gtok (k := 3) X hW (by decide) m_6_10 dX6_ahead_35 ?_
    exact rt_end hret h dX6_ahead_38 hW
  · replace h := if_t hc h
    refine lv_aload_n hx hb dX6_ahead_7 rfl (lv_at hl 0 rfl) ?_
    refine gf_X6_place X hW h0 m_1_214 dX6_ahead_8 ?_
    refine lv_if_lt (tgt := 35) hx hb dX6_ahead_11 (by decide) (fun hc => ?_) (fun hc => ?_)
    · replace h := if_t hc h
      refine r_gtok (k := 3) X hW (by decide) m_6_10 dX6_ahead_35 ?_
      exact rt_end hret h dX6_ahead_38 hW
    · replace h := if_f hc h
      refine lv_aload_n hx hb dX6_ahead_14 rfl (lv_at hl 0 rfl) ?_
      refine gf_X6_place X hW h0 m_1_214 dX6_ahead_15 ?_
      refine lv_aload_n hx hb dX6_ahead_18 rfl (lv_at hl 0 rfl) ?_
      refine gf_X6_count X hW h0 m_1_213 dX6_ahead_19 ?_
      refine lv_icmp_ge (tgt := 35) hx hb dX6_ahead_22 (by decide) (fun hc => ?_) (fun hc => ?_)
      · replace h := if_t hc h
        refine r_gtok (k := 3) X hW (by decide) m_6_10 dX6_ahead_35 ?_
        exact rt_end hret h dX6_ahead_38 hW
      · replace h := if_f hc h
        refine lv_aload_n hx hb dX6_ahead_25 rfl (lv_at hl 0 rfl) ?_
        refine gf_X6_place X hW h0 m_1_214 dX6_ahead_26 ?_
        refine lv_sipush (v := 800) hx hb dX6_ahead_29 (by decide) ?_
        refine lv_icmp_le (tgt := 39) hx hb dX6_ahead_32 (by decide) (fun hc => ?_) (fun hc => ?_)
        · replace h := if_t hc h
          refine lv_aload_n hx hb dX6_ahead_39 rfl (lv_at hl 0 rfl) ?_
          refine gf_X6_kinds X hW h0 m_1_210 dX6_ahead_40 ?_
          refine lv_aload_n hx hb dX6_ahead_43 rfl (lv_at hl 0 rfl) ?_
          refine gf_X6_place X hW h0 m_1_214 dX6_ahead_44 ?_
          obtain ⟨hi1, h⟩ := ckI_el h
          refine r_tald X hW (kf_X6_kinds h0) hi1 dX6_ahead_47 ?_
          exact rt_end hret h dX6_ahead_48 hW
        · replace h := if_f hc h
          refine r_gtok (k := 3) X hW (by decide) m_6_10 dX6_ahead_35 ?_
          exact rt_end hret h dX6_ahead_38 hW
set_option maxRecDepth 20000 in
set_option maxHeartbeats 4000000 in
theorem c_X6_fail {G : Gt} {l : Launch} {v0 : Nat} (h0 : kd v0 = 5) {v1 : Int32} {v2 : Int32} {σ : St} {σ' : St} (hf : pf_X6_fail v0 v1 v2 σ = some σ') : Ct G l yX6_fail cX6_fail 3 none 2 [.ref (gz G + (v0)), .int (v1), .int (v2)] σ none σ' := by
  refine met_v (by decide +kernel) (Nat.le_of_ble_eq_true rfl) rfl ?_
  intro p e s m args below meth c Q ls X hW hret hl
  have hx := X.1.1
  have hb := X.1.2.1
  have hl : lv_has ls 3 [(0, .ref (gz G + (v0))), (1, .int (v1)), (2, .int (v2))] := hl
  have h := hf
  clear hf
  unfold pf_X6_fail at h
  refine lv_aload_n hx hb dX6_fail_0 rfl (lv_at hl 0 rfl) ?_
  refine gf_X6_error X hW h0 m_1_215 dX6_fail_1 ?_
  refine lv_if_ne (tgt := 17) hx hb dX6_fail_4 (by decide) (fun hc => ?_) (fun hc => ?_)
  · replace h := if_f hc h
    exact rv_end hret h dX6_fail_17 hW
  · replace h := if_t hc h
    refine lv_aload_n hx hb dX6_fail_7 rfl (lv_at hl 0 rfl) ?_
    refine lv_iload_n hx hb dX6_fail_8 rfl (lv_at hl 1 rfl) ?_
    refine sf_X6_error X hW h0 m_1_215 dX6_fail_9 ?_
    clear hW; intro H locs hW
    refine nm_s hW h ?_
    clear hW h; intro σ_1 hW h
    refine lv_aload_n hx hb dX6_fail_12 rfl (lv_at hl 0 rfl) ?_
    refine lv_iload_n hx hb dX6_fail_13 rfl (lv_at hl 2 rfl) ?_
    refine sf_X6_errorOffset X hW h0 m_1_217 dX6_fail_14 ?_
    clear hW; intro H locs hW
    refine nm_s hW h ?_
    clear hW h; intro σ_2 hW h
    exact rv_end hret h dX6_fail_17 hW
set_option maxRecDepth 20000 in
set_option maxHeartbeats 4000000 in
theorem c_X6_start {G : Gt} {l : Launch} {v0 : Nat} (h0 : kd v0 = 5) {σ : St} {r : Int32} (hf : pf_X6_start v0 σ = some r) : Ct G l yX6_start cX6_start 1 (some .int) 2 [.ref (gz G + (v0))] σ (some (.int r)) σ := by
  refine met_i (by decide +kernel) (Nat.le_of_ble_eq_true rfl) rfl ?_
  intro p e s m args below meth c Q ls X hW hret hl
  have hx := X.1.1
  have hb := X.1.2.1
  have hl : lv_has ls 1 [(0, .ref (gz G + (v0)))] := hl
  have h := hf
  clear hf
  unfold pf_X6_start at h
  refine lv_aload_n hx hb dX6_start_0 rfl (lv_at hl 0 rfl) ?_
  refine gf_X6_place X hW h0 m_1_214 dX6_start_1 ?_
  refine lv_if_lt (tgt := 29) hx hb dX6_start_4 (by decide) (fun hc => ?_) (fun hc => ?_)
  · replace h := if_t hc h
    refine lv_iconst (v := 0) hx hb dX6_start_29 (by decide) ?_
    exact ri_end0 hret h dX6_start_30 hW
  · replace h := if_f hc h
    refine lv_aload_n hx hb dX6_start_7 rfl (lv_at hl 0 rfl) ?_
    refine gf_X6_place X hW h0 m_1_214 dX6_start_8 ?_
    refine lv_sipush (v := 800) hx hb dX6_start_11 (by decide) ?_
    refine lv_icmp_gt (tgt := 29) hx hb dX6_start_14 (by decide) (fun hc => ?_) (fun hc => ?_)
    · replace h := if_t hc h
      refine lv_iconst (v := 0) hx hb dX6_start_29 (by decide) ?_
      exact ri_end0 hret h dX6_start_30 hW
    · replace h := if_f hc h
      refine lv_aload_n hx hb dX6_start_17 rfl (lv_at hl 0 rfl) ?_
      refine gf_X6_starts X hW h0 m_1_211 dX6_start_18 ?_
      refine lv_aload_n hx hb dX6_start_21 rfl (lv_at hl 0 rfl) ?_
      refine gf_X6_place X hW h0 m_1_214 dX6_start_22 ?_
      obtain ⟨hi1, h⟩ := ckI_el h
      refine r_iald X hW (kf_X6_starts h0) hi1 dX6_start_25 ?_
      refine lv_goto (tgt := 30) hx hb dX6_start_26 (by decide) ?_
      exact ri_end0 hret h dX6_start_30 hW
set_option maxRecDepth 20000 in
set_option maxHeartbeats 4000000 in
theorem c_X6_expect {G : Gt} {l : Launch} {v0 : Nat} (h0 : kd v0 = 5) {v1 : Option Nat} {σ : St} {σ' : St} (hf : pf_X6_expect v0 v1 σ = some σ') : Ct G l yX6_expect cX6_expect 2 none 3 [.ref (gz G + (v0)), va_re (gad G) (v1)] σ none σ' := by
  refine met_v (by decide +kernel) (by cases v1 <;> exact Nat.le_of_ble_eq_true rfl) rfl ?_
  intro p e s m args below meth c Q ls X hW hret hl
  have hx := X.1.1
  have hb := X.1.2.1
  have hl : lv_has ls 2 [(0, .ref (gz G + (v0))), (1, va_re (gad G) (v1))] := hl
  have h := hf
  clear hf
  unfold pf_X6_expect at h
  refine lv_aload_n hx hb dX6_expect_0 rfl (lv_at hl 0 rfl) ?_
  obtain ⟨r_1, hcl, h⟩ := bind_el h
  refine call_V1 X hW (kC_X6 h0) m_6_6 m_6_7 m_6_8 mv_X6_ahead (c_X6_ahead h0 hcl) (by decide) rfl rfl (Nat.le_of_ble_eq_true rfl) hl.1 dX6_expect_1 ?_
  clear hW hcl; intro H locs hW
  refine lv_aload_nT hx hb dX6_expect_4 rfl (lv_at hl 1 rfl) ?_
  refine r_acmp_ne (a := r_1) (b := v1) (tgt := 21) X hx hb dX6_expect_5 (by decide) (fun hc => ?_) (fun hc => ?_)
  · replace h := if_f hc h
    refine lv_aload_n hx hb dX6_expect_21 rfl (lv_at hl 0 rfl) ?_
    refine lv_bipush (v := (-2)) hx hb dX6_expect_22 (by decide) ?_
    refine lv_aload_n hx hb dX6_expect_24 rfl (lv_at hl 0 rfl) ?_
    obtain ⟨r_3, hcl, h⟩ := bind_el h
    refine call_V1 X hW (kC_X6 h0) m_6_12 m_6_13 m_6_14 mv_X6_start (c_X6_start h0 hcl) (by decide) rfl rfl (Nat.le_of_ble_eq_true rfl) hl.1 dX6_expect_25 ?_
    clear hW hcl; intro H locs hW
    obtain ⟨σ_4, hcl, h⟩ := bind_el h
    refine call_V0 X hW (kC_X6 h0) m_6_16 m_6_17 m_6_18 mv_X6_fail (c_X6_fail h0 hcl) (by decide) rfl rfl (Nat.le_of_ble_eq_true rfl) hl.1 dX6_expect_28 ?_
    clear hW hcl; intro H locs hW
    exact rv_end hret h dX6_expect_31 hW
  · replace h := if_t hc h
    refine lv_aload_n hx hb dX6_expect_8 rfl (lv_at hl 0 rfl) ?_
    refine lv_dup hx hb dX6_expect_9 rfl ?_
    refine gf_X6_place X hW h0 m_1_214 dX6_expect_10 ?_
    refine lv_iconst (v := 1) hx hb dX6_expect_13 (by decide) ?_
    refine lv_iadd hx hb dX6_expect_14 ?_
    refine sf_X6_place X hW h0 m_1_214 dX6_expect_15 ?_
    clear hW; intro H locs hW
    refine nm_s hW h ?_
    clear hW h; intro σ_2 hW h
    refine lv_goto (tgt := 31) hx hb dX6_expect_18 (by decide) ?_
    exact rv_end hret h dX6_expect_31 hW
set_option maxRecDepth 20000 in
set_option maxHeartbeats 4000000 in
theorem bl_X6_open_b38 (X : Cx G p R s m args c cells slots cX6_open 2 RX6 3) {r : Int32} {σ' : St} (hret : R_Z G p l e R s m args below meth c cells slots Q cX6_open r σ') :
    ∀ (v0 : Nat) (h0 : kd v0 = 5) (σ : St) (_ : pf_X6_open_b38 v0 σ = some (r, σ')) (H : Heap) (locs : List Loc) (ls : Array Slot) (_ : GW G σ s H locs) (_ : lv_has ls 2 [(0, .ref (gz G + (v0)))]), W p l e R s m args below meth c H locs cells slots Q (F0 m 38 ls []) := by
  have hx := X.1.1
  have hb := X.1.2.1
  intro v0 h0 σ h H locs ls hW hl
  unfold pf_X6_open_b38 at h
  refine lv_aload_n hx hb dX6_open_38 rfl (lv_at hl 0 rfl) ?_
  refine lv_dup hx hb dX6_open_39 rfl ?_
  refine gf_X6_place X hW h0 m_1_214 dX6_open_40 ?_
  refine lv_iconst (v := 1) hx hb dX6_open_43 (by decide) ?_
  refine lv_iadd hx hb dX6_open_44 ?_
  refine sf_X6_place X hW h0 m_1_214 dX6_open_45 ?_
  clear hW; intro H locs hW
  refine nm_s hW h ?_
  clear hW h; intro σ_1 hW h
  refine lv_aload_n hx hb dX6_open_48 rfl (lv_at hl 0 rfl) ?_
  refine gf_X6_error X hW h0 m_1_215 dX6_open_49 ?_
  refine lv_if_ne (tgt := 59) hx hb dX6_open_52 (by decide) (fun hc => ?_) (fun hc => ?_)
  · replace h := if_f hc h
    refine lv_iconst (v := 0) hx hb dX6_open_59 (by decide) ?_
    exact rz_end hret h (by decide) dX6_open_60 hW
  · replace h := if_t hc h
    refine lv_iconst (v := 1) hx hb dX6_open_55 (by decide) ?_
    refine lv_goto (tgt := 60) hx hb dX6_open_56 (by decide) ?_
    exact rz_end hret h (by decide) dX6_open_60 hW
set_option maxRecDepth 20000 in
set_option maxHeartbeats 4000000 in
theorem c_X6_open {G : Gt} {l : Launch} {v0 : Nat} (h0 : kd v0 = 5) {v1 : Int32} {σ : St} {r : Int32} {σ' : St} (hf : pf_X6_open v0 v1 σ = some (r, σ')) : Ct G l yX6_open cX6_open 2 (some .boolean) 3 [.ref (gz G + (v0)), .int (v1)] σ (some (.int r)) σ' := by
  refine met_z (by decide +kernel) (Nat.le_of_ble_eq_true rfl) rfl ?_
  intro p e s m args below meth c Q ls X hW hret hl
  have hx := X.1.1
  have hb := X.1.2.1
  have hl : lv_has ls 2 [(0, .ref (gz G + (v0))), (1, .int (v1))] := hl
  have h := hf
  clear hf
  unfold pf_X6_open at h
  refine lv_aload_n hx hb dX6_open_0 rfl (lv_at hl 0 rfl) ?_
  obtain ⟨r_1, hcl, h⟩ := bind_el h
  refine call_V1 X hW (kC_X6 h0) m_6_6 m_6_7 m_6_8 mv_X6_ahead (c_X6_ahead h0 hcl) (by decide) rfl rfl (Nat.le_of_ble_eq_true rfl) hl.1 dX6_open_1 ?_
  clear hW hcl; intro H locs hW
  refine r_gtok (k := 26) X hW (by decide) m_6_82 dX6_open_4 ?_
  refine r_acmp_eq (a := r_1) (b := some 26) (tgt := 23) X hx hb dX6_open_7 (by decide) (fun hc => ?_) (fun hc => ?_)
  · replace h := if_t hc h
    refine lv_iload_n hx hb dX6_open_23 rfl (lv_at hl 1 rfl) ?_
    refine lv_iconst (v := 4) hx hb dX6_open_24 (by decide) ?_
    refine lv_icmp_lt (tgt := 38) hx hb dX6_open_25 (by decide) (fun hc => ?_) (fun hc => ?_)
    · replace h := if_t hc h
      exact bl_X6_open_b38 X hret v0 h0 σ h _ _ _ hW (lv_sub hl [0] rfl)
    · replace h := if_f hc h
      refine lv_aload_n hx hb dX6_open_28 rfl (lv_at hl 0 rfl) ?_
      refine lv_bipush (v := (-6)) hx hb dX6_open_29 (by decide) ?_
      refine lv_aload_n hx hb dX6_open_31 rfl (lv_at hl 0 rfl) ?_
      obtain ⟨r_2, hcl, h⟩ := bind_el h
      refine call_V1 X hW (kC_X6 h0) m_6_12 m_6_13 m_6_14 mv_X6_start (c_X6_start h0 hcl) (by decide) rfl rfl (Nat.le_of_ble_eq_true rfl) hl.1 dX6_open_32 ?_
      clear hW hcl; intro H locs hW
      obtain ⟨σ_3, hcl, h⟩ := bind_el h
      refine call_V0 X hW (kC_X6 h0) m_6_16 m_6_17 m_6_18 mv_X6_fail (c_X6_fail h0 hcl) (by decide) rfl rfl (Nat.le_of_ble_eq_true rfl) hl.1 dX6_open_35 ?_
      clear hW hcl; intro H locs hW
      exact bl_X6_open_b38 X hret v0 h0 σ_3 h _ _ _ hW (lv_sub hl [0] rfl)
  · replace h := if_f hc h
    refine lv_aload_n hx hb dX6_open_10 rfl (lv_at hl 0 rfl) ?_
    refine lv_bipush (v := (-2)) hx hb dX6_open_11 (by decide) ?_
    refine lv_aload_n hx hb dX6_open_13 rfl (lv_at hl 0 rfl) ?_
    obtain ⟨r_4, hcl, h⟩ := bind_el h
    refine call_V1 X hW (kC_X6 h0) m_6_12 m_6_13 m_6_14 mv_X6_start (c_X6_start h0 hcl) (by decide) rfl rfl (Nat.le_of_ble_eq_true rfl) hl.1 dX6_open_14 ?_
    clear hW hcl; intro H locs hW
    obtain ⟨σ_5, hcl, h⟩ := bind_el h
    refine call_V0 X hW (kC_X6 h0) m_6_16 m_6_17 m_6_18 mv_X6_fail (c_X6_fail h0 hcl) (by decide) rfl rfl (Nat.le_of_ble_eq_true rfl) hl.1 dX6_open_17 ?_
    clear hW hcl; intro H locs hW
    refine lv_goto (tgt := 38) hx hb dX6_open_20 (by decide) ?_
    exact bl_X6_open_b38 X hret v0 h0 σ_5 h _ _ _ hW (lv_sub hl [0] rfl)
set_option maxRecDepth 20000 in
set_option maxHeartbeats 4000000 in
theorem c_X6_take {G : Gt} {l : Launch} {v0 : Nat} (h0 : kd v0 = 5) {v1 : Option Nat} {σ : St} {r : Int32} {σ' : St} (hf : pf_X6_take v0 v1 σ = some (r, σ')) : Ct G l yX6_take cX6_take 2 (some .boolean) 3 [.ref (gz G + (v0)), va_re (gad G) (v1)] σ (some (.int r)) σ' := by
  refine met_z (by decide +kernel) (by cases v1 <;> exact Nat.le_of_ble_eq_true rfl) rfl ?_
  intro p e s m args below meth c Q ls X hW hret hl
  have hx := X.1.1
  have hb := X.1.2.1
  have hl : lv_has ls 2 [(0, .ref (gz G + (v0))), (1, va_re (gad G) (v1))] := hl
  have h := hf
  clear hf
  unfold pf_X6_take at h
  refine lv_aload_n hx hb dX6_take_0 rfl (lv_at hl 0 rfl) ?_
  obtain ⟨r_1, hcl, h⟩ := bind_el h
  refine call_V1 X hW (kC_X6 h0) m_6_6 m_6_7 m_6_8 mv_X6_ahead (c_X6_ahead h0 hcl) (by decide) rfl rfl (Nat.le_of_ble_eq_true rfl) hl.1 dX6_take_1 ?_
  clear hW hcl; intro H locs hW
  refine lv_aload_nT hx hb dX6_take_4 rfl (lv_at hl 1 rfl) ?_
  refine r_acmp_eq (a := r_1) (b := v1) (tgt := 10) X hx hb dX6_take_5 (by decide) (fun hc => ?_) (fun hc => ?_)
  · replace h := if_t hc h
    refine lv_aload_n hx hb dX6_take_10 rfl (lv_at hl 0 rfl) ?_
    refine lv_dup hx hb dX6_take_11 rfl ?_
    refine gf_X6_place X hW h0 m_1_214 dX6_take_12 ?_
    refine lv_iconst (v := 1) hx hb dX6_take_15 (by decide) ?_
    refine lv_iadd hx hb dX6_take_16 ?_
    refine sf_X6_place X hW h0 m_1_214 dX6_take_17 ?_
    clear hW; intro H locs hW
    refine nm_s hW h ?_
    clear hW h; intro σ_2 hW h
    refine lv_iconst (v := 1) hx hb dX6_take_20 (by decide) ?_
    exact rz_end hret h (by decide) dX6_take_21 hW
  · replace h := if_f hc h
    refine lv_iconst (v := 0) hx hb dX6_take_8 (by decide) ?_
    exact rz_end hret h (by decide) dX6_take_9 hW
set_option maxRecDepth 20000 in
set_option maxHeartbeats 4000000 in
theorem bl_X0_readGroup_b36 {rc : Nat → Nat → Int32 → Int32 → St → Option (Int64 × St)} {hr : Nat} (hB : 4 ≤ hr) (hrc : ∀ {a0 : Nat} (_ : kd a0 = 0) {a1 : Nat} (_ : kd a1 = 5) {a2 : Int32} {a3 : Int32} {τ : St} {w : Int64} {τ' : St} (_ : rc a0 a1 a2 a3 τ = some (w, τ')), Ct G l yX0_readGoal cX0_readGoal 9 (some .long) hr [.ref (gz G + a0), .ref (gz G + (a1)), .int (a2), .int (a3)] τ (some (.long w)) τ') (X : Cx G p R s m args c cells slots cX0_readGroup 7 RX0 (hr + 1)) {r : Int64} {σ' : St} (hret : R_L G p l e R s m args below meth c cells slots Q cX0_readGroup r σ') {k13 : Nat → Nat → Int32 → Int32 → Int32 → Int32 → Int32 → St → (Option (Int64 × St))}
    (hk13 : ∀ (v0 : Nat) (h0 : kd v0 = 0) (v1 : Nat) (h1 : kd v1 = 5) (v2 : Int32) (v3 : Int32) (v4 : Int32) (v5 : Int32) (v6 : Int32) (σ : St) (_ : k13 v0 v1 v2 v3 v4 v5 v6 σ = some (r, σ')) (H : Heap) (locs : List Loc) (ls : Array Slot) (_ : GW G σ s H locs) (_ : lv_has ls 7 [(0, .ref (gz G + (v0))), (1, .ref (gz G + (v1))), (2, .int (v2)), (3, .int (v3)), (4, .int (v4)), (5, .int (v5)), (6, .int (v6))]), W p l e R s m args below meth c H locs cells slots Q (F0 m 13 ls [])) :
    ∀ (v0 : Nat) (h0 : kd v0 = 0) (v1 : Nat) (h1 : kd v1 = 5) (v2 : Int32) (v3 : Int32) (v4 : Int32) (v5 : Int32) (v6 : Int32) (s0 : Nat) (hs0 : kd s0 = 0) (s1 : Int32) (s2 : Int32) (s3 : Int64) (σ : St) (_ : pf_X0_readGroup_b36 rc k13 v0 v1 v2 v3 v4 v5 v6 s0 s1 s2 s3 σ = some (r, σ')) (H : Heap) (locs : List Loc) (ls : Array Slot) (_ : GW G σ s H locs) (_ : lv_has ls 7 [(0, .ref (gz G + (v0))), (1, .ref (gz G + (v1))), (2, .int (v2)), (3, .int (v3)), (4, .int (v4)), (5, .int (v5)), (6, .int (v6))]), W p l e R s m args below meth c H locs cells slots Q (F0 m 36 ls [.long (s3), .int (s2), .int (s1), .ref (gz G + (s0))]) := by
  have hx := X.1.1
  have hb := X.1.2.1
  intro v0 h0 v1 h1 v2 v3 v4 v5 v6 s0 hs0 s1 s2 s3 σ h H locs ls hW hl
  unfold pf_X0_readGroup_b36 at h
  obtain ⟨σ_1, hcl, h⟩ := bind_el h
  refine call_V0 X hW (kC_X0 hs0) m_6_171 m_6_173 m_0_32 mv_X0_putTally (c_X0_putTally hs0 hcl) (by omega) rfl rfl (Nat.le_of_ble_eq_true rfl) hl.1 dX0_readGroup_36 ?_
  clear hW hcl; intro H locs hW
  refine w_iinc (v := 1) (lv' := fun y => [(6, .int (y)), (0, .ref (gz G + (v0))), (1, .ref (gz G + (v1))), (2, .int (v2)), (3, .int (v3)), (4, .int (v4)), (5, .int (v5))]) hx hb dX0_readGroup_39 hl (k := 6) rfl (by decide) (by decide) (fun _ => rfl) h ?_
  clear h hl; intro v6_2 h ls hl
  refine lv_goto (tgt := 13) hx hb dX0_readGroup_42 (by decide) ?_
  exact hk13 v0 h0 v1 h1 v2 v3 v4 v5 v6_2 σ_1 h _ _ _ hW (lv_sub hl [1, 2, 3, 4, 5, 6, 0] rfl)
set_option maxRecDepth 20000 in
set_option maxHeartbeats 4000000 in
theorem bl_X0_readGroup_b99 {rc : Nat → Nat → Int32 → Int32 → St → Option (Int64 × St)} {hr : Nat} (hB : 4 ≤ hr) (hrc : ∀ {a0 : Nat} (_ : kd a0 = 0) {a1 : Nat} (_ : kd a1 = 5) {a2 : Int32} {a3 : Int32} {τ : St} {w : Int64} {τ' : St} (_ : rc a0 a1 a2 a3 τ = some (w, τ')), Ct G l yX0_readGoal cX0_readGoal 9 (some .long) hr [.ref (gz G + a0), .ref (gz G + (a1)), .int (a2), .int (a3)] τ (some (.long w)) τ') (X : Cx G p R s m args c cells slots cX0_readGroup 7 RX0 (hr + 1)) {r : Int64} {σ' : St} (hret : R_L G p l e R s m args below meth c cells slots Q cX0_readGroup r σ') :
    ∀ (v0 : Nat) (h0 : kd v0 = 0) (v1 : Nat) (h1 : kd v1 = 5) (v3 : Int32) (v4 : Int32) (σ : St) (_ : pf_X0_readGroup_b99 rc v0 v1 v3 v4 σ = some (r, σ')) (H : Heap) (locs : List Loc) (ls : Array Slot) (_ : GW G σ s H locs) (_ : lv_has ls 7 [(0, .ref (gz G + (v0))), (1, .ref (gz G + (v1))), (3, .int (v3)), (4, .int (v4))]), W p l e R s m args below meth c H locs cells slots Q (F0 m 99 ls []) := by
  have hx := X.1.1
  have hb := X.1.2.1
  intro v0 h0 v1 h1 v3 v4 σ h H locs ls hW hl
  unfold pf_X0_readGroup_b99 at h
  refine lv_aload_n hx hb dX0_readGroup_99 rfl (lv_at hl 1 rfl) ?_
  refine r_gtok (k := 27) X hW (by decide) m_6_187 dX0_readGroup_100 ?_
  obtain ⟨σ_1, hcl, h⟩ := bind_el h
  refine call_V0 X hW (kC_X6 h1) m_6_188 m_6_3 m_6_4 mv_X6_expect (c_X6_expect h1 hcl) (by omega) rfl rfl (Nat.le_of_ble_eq_true rfl) hl.1 dX0_readGroup_103 ?_
  clear hW hcl; intro H locs hW
  refine lv_aload_n hx hb dX0_readGroup_106 rfl (lv_at hl 0 rfl) ?_
  refine lv_iload_n hx hb dX0_readGroup_107 rfl (lv_at hl 2 rfl) ?_
  refine lv_iload hx hb dX0_readGroup_108 (lv_at hl 3 rfl) ?_
  obtain ⟨r_2, hcl, h⟩ := bind_el h
  refine call_V1 X hW (kC_X0 h0) m_6_180 m_6_182 m_0_34 mv_X0_tallied (c_X0_tallied h0 hcl) (by omega) rfl rfl (Nat.le_of_ble_eq_true rfl) hl.1 dX0_readGroup_110 ?_
  clear hW hcl; intro H locs hW
  exact rl_end hret h dX0_readGroup_113 hW
set_option maxRecDepth 20000 in
set_option maxHeartbeats 4000000 in
theorem bl_X0_readGroup_L62 {rc : Nat → Nat → Int32 → Int32 → St → Option (Int64 × St)} {hr : Nat} (hB : 4 ≤ hr) (hrc : ∀ {a0 : Nat} (_ : kd a0 = 0) {a1 : Nat} (_ : kd a1 = 5) {a2 : Int32} {a3 : Int32} {τ : St} {w : Int64} {τ' : St} (_ : rc a0 a1 a2 a3 τ = some (w, τ')), Ct G l yX0_readGoal cX0_readGoal 9 (some .long) hr [.ref (gz G + a0), .ref (gz G + (a1)), .int (a2), .int (a3)] τ (some (.long w)) τ') (X : Cx G p R s m args c cells slots cX0_readGroup 7 RX0 (hr + 1)) {r : Int64} {σ' : St} (hret : R_L G p l e R s m args below meth c cells slots Q cX0_readGroup r σ') {k99 : Nat → Nat → Int32 → Int32 → St → (Option (Int64 × St))}
    (hk99 : ∀ (v0 : Nat) (h0 : kd v0 = 0) (v1 : Nat) (h1 : kd v1 = 5) (v3 : Int32) (v4 : Int32) (σ : St) (_ : k99 v0 v1 v3 v4 σ = some (r, σ')) (H : Heap) (locs : List Loc) (ls : Array Slot) (_ : GW G σ s H locs) (_ : lv_has ls 7 [(0, .ref (gz G + (v0))), (1, .ref (gz G + (v1))), (3, .int (v3)), (4, .int (v4))]), W p l e R s m args below meth c H locs cells slots Q (F0 m 99 ls [])) :
    ∀ (n : Nat), ∀ (v0 : Nat) (h0 : kd v0 = 0) (v1 : Nat) (h1 : kd v1 = 5) (v2 : Int32) (v3 : Int32) (v4 : Int32) (v5 : Int32) (v6 : Int32) (σ : St) (_ : pf_X0_readGroup_L62 rc k99 n v0 v1 v2 v3 v4 v5 v6 σ = some (r, σ')) (H : Heap) (locs : List Loc) (ls : Array Slot) (_ : GW G σ s H locs) (_ : lv_has ls 7 [(0, .ref (gz G + (v0))), (1, .ref (gz G + (v1))), (2, .int (v2)), (3, .int (v3)), (4, .int (v4)), (5, .int (v5)), (6, .int (v6))]), W p l e R s m args below meth c H locs cells slots Q (F0 m 62 ls []) := by
  have hx := X.1.1
  have hb := X.1.2.1
  intro n
  induction n with
  | zero => intro v0 h0 v1 h1 v2 v3 v4 v5 v6 σ h H locs ls hW hl; cases h
  | succ n ih =>
    intro v0 h0 v1 h1 v2 v3 v4 v5 v6 σ h H locs ls hW hl
    rw [pf_X0_readGroup_L62.eq_2] at h
    refine lv_iload hx hb dX0_readGroup_62 (lv_at hl 6 rfl) ?_
    refine lv_iload hx hb dX0_readGroup_64 (lv_at hl 5 rfl) ?_
    refine lv_icmp_ge (tgt := 99) hx hb dX0_readGroup_66 (by decide) (fun hc => ?_) (fun hc => ?_)
    · replace h := if_t hc h
      exact hk99 v0 h0 v1 h1 v3 v4 σ h _ _ _ hW (lv_sub hl [0, 1, 3, 4] rfl)
    · replace h := if_f hc h
      refine lv_aload_n hx hb dX0_readGroup_69 rfl (lv_at hl 1 rfl) ?_
      refine r_gtok (k := 25) X hW (by decide) m_6_184 dX0_readGroup_70 ?_
      obtain ⟨r_1, σ_1, hcl, h⟩ := bnd2_el h
      refine call_V1 X hW (kC_X6 h1) m_6_186 m_6_137 m_6_138 mv_X6_take (c_X6_take h1 hcl) (by omega) rfl rfl (Nat.le_of_ble_eq_true rfl) hl.1 dX0_readGroup_73 ?_
      clear hW hcl; intro H locs hW
      refine lv_if_eq (tgt := 99) hx hb dX0_readGroup_76 (by decide) (fun hc => ?_) (fun hc => ?_)
      · replace h := if_t hc h
        exact hk99 v0 h0 v1 h1 v3 v4 σ_1 h _ _ _ hW (lv_sub hl [0, 1, 3, 4] rfl)
      · replace h := if_f hc h
        refine lv_aload_n hx hb dX0_readGroup_79 rfl (lv_at hl 0 rfl) ?_
        refine lv_iload_n hx hb dX0_readGroup_80 rfl (lv_at hl 3 rfl) ?_
        refine lv_aload_n hx hb dX0_readGroup_81 rfl (lv_at hl 0 rfl) ?_
        refine lv_aload_n hx hb dX0_readGroup_82 rfl (lv_at hl 1 rfl) ?_
        refine lv_iload_n hx hb dX0_readGroup_83 rfl (lv_at hl 2 rfl) ?_
        refine lv_iload_n hx hb dX0_readGroup_84 rfl (lv_at hl 3 rfl) ?_
        refine lv_iconst (v := 1) hx hb dX0_readGroup_85 (by decide) ?_
        refine lv_iadd hx hb dX0_readGroup_86 ?_
        obtain ⟨r_2, σ_2, hcl, h⟩ := bnd2_el h
        refine call_V1 X hW (kC_X0 h0) m_6_175 m_6_157 m_0_29 mv_X0_readGoal (hrc h0 h1 hcl) (by omega) rfl rfl (Nat.le_of_ble_eq_true rfl) hl.1 dX0_readGroup_87 ?_
        clear hW hcl; intro H locs hW
        obtain ⟨σ_3, hcl, h⟩ := bind_el h
        refine call_V0 X hW (kC_X0 h0) m_6_176 m_6_178 m_0_33 mv_X0_tally (c_X0_tally h0 hcl) (by omega) rfl rfl (Nat.le_of_ble_eq_true rfl) hl.1 dX0_readGroup_90 ?_
        clear hW hcl; intro H locs hW
        refine w_iinc (v := 1) (lv' := fun y => [(6, .int (y)), (0, .ref (gz G + (v0))), (1, .ref (gz G + (v1))), (2, .int (v2)), (3, .int (v3)), (4, .int (v4)), (5, .int (v5))]) hx hb dX0_readGroup_93 hl (k := 6) rfl (by decide) (by decide) (fun _ => rfl) h ?_
        clear h hl; intro v6_4 h ls hl
        refine lv_goto (tgt := 62) hx hb dX0_readGroup_96 (by decide) ?_
        exact ih v0 h0 v1 h1 v2 v3 v4 v5 v6_4 σ_3 h _ _ _ hW (lv_sub hl [1, 2, 3, 4, 5, 6, 0] rfl)
set_option maxRecDepth 20000 in
set_option maxHeartbeats 4000000 in
theorem bl_X0_readGroup_b45 {rc : Nat → Nat → Int32 → Int32 → St → Option (Int64 × St)} {hr : Nat} (hB : 4 ≤ hr) (hrc : ∀ {a0 : Nat} (_ : kd a0 = 0) {a1 : Nat} (_ : kd a1 = 5) {a2 : Int32} {a3 : Int32} {τ : St} {w : Int64} {τ' : St} (_ : rc a0 a1 a2 a3 τ = some (w, τ')), Ct G l yX0_readGoal cX0_readGoal 9 (some .long) hr [.ref (gz G + a0), .ref (gz G + (a1)), .int (a2), .int (a3)] τ (some (.long w)) τ') (X : Cx G p R s m args c cells slots cX0_readGroup 7 RX0 (hr + 1)) {r : Int64} {σ' : St} (hret : R_L G p l e R s m args below meth c cells slots Q cX0_readGroup r σ') :
    ∀ (v0 : Nat) (h0 : kd v0 = 0) (v1 : Nat) (h1 : kd v1 = 5) (v2 : Int32) (v3 : Int32) (v4 : Int32) (v5 : Int32) (σ : St) (_ : pf_X0_readGroup_b45 rc v0 v1 v2 v3 v4 v5 σ = some (r, σ')) (H : Heap) (locs : List Loc) (ls : Array Slot) (_ : GW G σ s H locs) (_ : lv_has ls 7 [(0, .ref (gz G + (v0))), (1, .ref (gz G + (v1))), (2, .int (v2)), (3, .int (v3)), (4, .int (v4)), (5, .int (v5))]), W p l e R s m args below meth c H locs cells slots Q (F0 m 45 ls []) := by
  have hx := X.1.1
  have hb := X.1.2.1
  intro v0 h0 v1 h1 v2 v3 v4 v5 σ h H locs ls hW hl
  unfold pf_X0_readGroup_b45 at h
  refine lv_aload_n hx hb dX0_readGroup_45 rfl (lv_at hl 0 rfl) ?_
  refine lv_iload_n hx hb dX0_readGroup_46 rfl (lv_at hl 3 rfl) ?_
  refine lv_aload_n hx hb dX0_readGroup_47 rfl (lv_at hl 0 rfl) ?_
  refine lv_aload_n hx hb dX0_readGroup_48 rfl (lv_at hl 1 rfl) ?_
  refine lv_iload_n hx hb dX0_readGroup_49 rfl (lv_at hl 2 rfl) ?_
  refine lv_iload_n hx hb dX0_readGroup_50 rfl (lv_at hl 3 rfl) ?_
  refine lv_iconst (v := 1) hx hb dX0_readGroup_51 (by decide) ?_
  refine lv_iadd hx hb dX0_readGroup_52 ?_
  obtain ⟨r_1, σ_1, hcl, h⟩ := bnd2_el h
  refine call_V1 X hW (kC_X0 h0) m_6_175 m_6_157 m_0_29 mv_X0_readGoal (hrc h0 h1 hcl) (by omega) rfl rfl (Nat.le_of_ble_eq_true rfl) hl.1 dX0_readGroup_53 ?_
  clear hW hcl; intro H locs hW
  obtain ⟨σ_2, hcl, h⟩ := bind_el h
  refine call_V0 X hW (kC_X0 h0) m_6_176 m_6_178 m_0_33 mv_X0_tally (c_X0_tally h0 hcl) (by omega) rfl rfl (Nat.le_of_ble_eq_true rfl) hl.1 dX0_readGroup_56 ?_
  clear hW hcl; intro H locs hW
  refine lv_iconst (v := 1) hx hb dX0_readGroup_59 (by decide) ?_
  refine lv_istore (lv' := [(6, .int (1)), (0, .ref (gz G + (v0))), (1, .ref (gz G + (v1))), (2, .int (v2)), (3, .int (v3)), (4, .int (v4)), (5, .int (v5))]) hx hb dX0_readGroup_60 hl (by decide) rfl ?_
  clear hl; intro ls hl
  exact bl_X0_readGroup_L62 hB hrc X hret (bl_X0_readGroup_b99 hB hrc X hret) FU v0 h0 v1 h1 v2 v3 v4 v5 1 σ_2 h _ _ _ hW (lv_sub hl [1, 2, 3, 4, 5, 6, 0] rfl)
set_option maxRecDepth 20000 in
set_option maxHeartbeats 4000000 in
theorem bl_X0_readGroup_L13 {rc : Nat → Nat → Int32 → Int32 → St → Option (Int64 × St)} {hr : Nat} (hB : 4 ≤ hr) (hrc : ∀ {a0 : Nat} (_ : kd a0 = 0) {a1 : Nat} (_ : kd a1 = 5) {a2 : Int32} {a3 : Int32} {τ : St} {w : Int64} {τ' : St} (_ : rc a0 a1 a2 a3 τ = some (w, τ')), Ct G l yX0_readGoal cX0_readGoal 9 (some .long) hr [.ref (gz G + a0), .ref (gz G + (a1)), .int (a2), .int (a3)] τ (some (.long w)) τ') (X : Cx G p R s m args c cells slots cX0_readGroup 7 RX0 (hr + 1)) {r : Int64} {σ' : St} (hret : R_L G p l e R s m args below meth c cells slots Q cX0_readGroup r σ') {k45 : Nat → Nat → Int32 → Int32 → Int32 → Int32 → St → (Option (Int64 × St))}
    (hk45 : ∀ (v0 : Nat) (h0 : kd v0 = 0) (v1 : Nat) (h1 : kd v1 = 5) (v2 : Int32) (v3 : Int32) (v4 : Int32) (v5 : Int32) (σ : St) (_ : k45 v0 v1 v2 v3 v4 v5 σ = some (r, σ')) (H : Heap) (locs : List Loc) (ls : Array Slot) (_ : GW G σ s H locs) (_ : lv_has ls 7 [(0, .ref (gz G + (v0))), (1, .ref (gz G + (v1))), (2, .int (v2)), (3, .int (v3)), (4, .int (v4)), (5, .int (v5))]), W p l e R s m args below meth c H locs cells slots Q (F0 m 45 ls [])) :
    ∀ (n : Nat), ∀ (v0 : Nat) (h0 : kd v0 = 0) (v1 : Nat) (h1 : kd v1 = 5) (v2 : Int32) (v3 : Int32) (v4 : Int32) (v5 : Int32) (v6 : Int32) (σ : St) (_ : pf_X0_readGroup_L13 rc k45 n v0 v1 v2 v3 v4 v5 v6 σ = some (r, σ')) (H : Heap) (locs : List Loc) (ls : Array Slot) (_ : GW G σ s H locs) (_ : lv_has ls 7 [(0, .ref (gz G + (v0))), (1, .ref (gz G + (v1))), (2, .int (v2)), (3, .int (v3)), (4, .int (v4)), (5, .int (v5)), (6, .int (v6))]), W p l e R s m args below meth c H locs cells slots Q (F0 m 13 ls []) := by
  have hx := X.1.1
  have hb := X.1.2.1
  intro n
  induction n with
  | zero => intro v0 h0 v1 h1 v2 v3 v4 v5 v6 σ h H locs ls hW hl; cases h
  | succ n ih =>
    intro v0 h0 v1 h1 v2 v3 v4 v5 v6 σ h H locs ls hW hl
    rw [pf_X0_readGroup_L13.eq_2] at h
    refine lv_iload hx hb dX0_readGroup_13 (lv_at hl 6 rfl) ?_
    refine lv_bipush (v := 7) hx hb dX0_readGroup_15 (by decide) ?_
    refine lv_icmp_ge (tgt := 45) hx hb dX0_readGroup_17 (by decide) (fun hc => ?_) (fun hc => ?_)
    · replace h := if_t hc h
      exact hk45 v0 h0 v1 h1 v2 v3 v4 v5 σ h _ _ _ hW (lv_sub hl [0, 1, 2, 3, 4, 5] rfl)
    · replace h := if_f hc h
      refine lv_aload_n hx hb dX0_readGroup_20 rfl (lv_at hl 0 rfl) ?_
      refine lv_iload_n hx hb dX0_readGroup_21 rfl (lv_at hl 3 rfl) ?_
      refine lv_iload hx hb dX0_readGroup_22 (lv_at hl 6 rfl) ?_
      refine lv_iload hx hb dX0_readGroup_24 (lv_at hl 6 rfl) ?_
      refine lv_if_ne (tgt := 35) hx hb dX0_readGroup_26 (by decide) (fun hc => ?_) (fun hc => ?_)
      · replace h := if_f hc h
        refine lv_lconst (v := 0) hx hb dX0_readGroup_35 (by decide) ?_
        exact bl_X0_readGroup_b36 hB hrc X hret ih v0 h0 v1 h1 v2 v3 v4 v5 v6 v0 h0 v3 v6 0 σ h _ _ _ hW (lv_sub hl [0, 1, 2, 3, 4, 5, 6] rfl)
      · replace h := if_t hc h
        refine lv_ldc2 (v := (-1)) hx hb X.1.2.2.2.1 (X.1.2.2.2.2 _ m_6_170) dX0_readGroup_29 ?_
        refine lv_goto (tgt := 36) hx hb dX0_readGroup_32 (by decide) ?_
        exact bl_X0_readGroup_b36 hB hrc X hret ih v0 h0 v1 h1 v2 v3 v4 v5 v6 v0 h0 v3 v6 (-1) σ h _ _ _ hW (lv_sub hl [0, 1, 2, 3, 4, 5, 6] rfl)
set_option maxRecDepth 20000 in
set_option maxHeartbeats 4000000 in
theorem c_X0_readGroup {G : Gt} {l : Launch} {rc : Nat → Nat → Int32 → Int32 → St → Option (Int64 × St)} {hr : Nat} (hB : 4 ≤ hr) (hrc : ∀ {a0 : Nat} (_ : kd a0 = 0) {a1 : Nat} (_ : kd a1 = 5) {a2 : Int32} {a3 : Int32} {τ : St} {w : Int64} {τ' : St} (_ : rc a0 a1 a2 a3 τ = some (w, τ')), Ct G l yX0_readGoal cX0_readGoal 9 (some .long) hr [.ref (gz G + a0), .ref (gz G + (a1)), .int (a2), .int (a3)] τ (some (.long w)) τ') {v0 : Nat} (h0 : kd v0 = 0) {v1 : Nat} (h1 : kd v1 = 5) {v2 : Int32} {v3 : Int32} {v4 : Int32} {v5 : Int32} {σ : St} {r : Int64} {σ' : St} (hf : pf_X0_readGroup rc v0 v1 v2 v3 v4 v5 σ = some (r, σ')) : Ct G l yX0_readGroup cX0_readGroup 7 (some .long) (hr + 1) [.ref (gz G + (v0)), .ref (gz G + (v1)), .int (v2), .int (v3), .int (v4), .int (v5)] σ (some (.long r)) σ' := by
  refine met_l (by decide +kernel) (Nat.le_of_ble_eq_true rfl) rfl ?_
  intro p e s m args below meth c Q ls X hW hret hl
  have hx := X.1.1
  have hb := X.1.2.1
  have hl : lv_has ls 7 [(0, .ref (gz G + (v0))), (1, .ref (gz G + (v1))), (2, .int (v2)), (3, .int (v3)), (4, .int (v4)), (5, .int (v5))] := hl
  have h := hf
  clear hf
  unfold pf_X0_readGroup at h
  refine lv_aload_n hx hb dX0_readGroup_0 rfl (lv_at hl 1 rfl) ?_
  refine lv_iload_n hx hb dX0_readGroup_1 rfl (lv_at hl 3 rfl) ?_
  obtain ⟨r_1, σ_1, hcl, h⟩ := bnd2_el h
  refine call_V1 X hW (kC_X6 h1) m_6_169 m_6_79 m_6_80 mv_X6_open (c_X6_open h1 hcl) (by omega) rfl rfl (Nat.le_of_ble_eq_true rfl) hl.1 dX0_readGroup_2 ?_
  clear hW hcl; intro H locs hW
  refine lv_if_ne (tgt := 10) hx hb dX0_readGroup_5 (by decide) (fun hc => ?_) (fun hc => ?_)
  · replace h := if_f hc h
    refine lv_iconst (v := 0) hx hb dX0_readGroup_10 (by decide) ?_
    refine lv_istore (lv' := [(6, .int (0)), (0, .ref (gz G + (v0))), (1, .ref (gz G + (v1))), (2, .int (v2)), (3, .int (v3)), (4, .int (v4)), (5, .int (v5))]) hx hb dX0_readGroup_11 hl (by decide) rfl ?_
    clear hl; intro ls hl
    exact bl_X0_readGroup_L13 hB hrc X hret (bl_X0_readGroup_b45 hB hrc X hret) FU v0 h0 v1 h1 v2 v3 v4 v5 0 σ_1 h _ _ _ hW (lv_sub hl [1, 2, 3, 4, 5, 6, 0] rfl)
  · replace h := if_t hc h
    refine lv_lconst (v := 0) hx hb dX0_readGroup_8 (by decide) ?_
    exact rl_end hret h dX0_readGroup_9 hW
set_option maxRecDepth 20000 in
set_option maxHeartbeats 4000000 in
theorem c_X10_at {G : Gt} {l : Launch} {v0 : Nat} (h0 : kd v0 = 11) {v1 : Int32} {σ : St} {r : Int32} (hf : pf_X10_at v0 v1 σ = some r) : Ct G l yX10_at cX10_at 2 (some .int) 2 [.ref (gz G + (v0)), .int (v1)] σ (some (.int r)) σ := by
  refine met_i (by decide +kernel) (Nat.le_of_ble_eq_true rfl) rfl ?_
  intro p e s m args below meth c Q ls X hW hret hl
  have hx := X.1.1
  have hb := X.1.2.1
  have hl : lv_has ls 2 [(0, .ref (gz G + (v0))), (1, .int (v1))] := hl
  have h := hf
  clear hf
  unfold pf_X10_at at h
  refine lv_iload_n hx hb dX10_at_0 rfl (lv_at hl 1 rfl) ?_
  refine lv_if_lt (tgt := 16) hx hb dX10_at_1 (by decide) (fun hc => ?_) (fun hc => ?_)
  · replace h := if_t hc h
    refine lv_iconst (v := 0) hx hb dX10_at_16 (by decide) ?_
    exact ri_end0 hret h dX10_at_17 hW
  · replace h := if_f hc h
    refine lv_iload_n hx hb dX10_at_4 rfl (lv_at hl 1 rfl) ?_
    refine lv_aload_n hx hb dX10_at_5 rfl (lv_at hl 0 rfl) ?_
    refine r_alen11 X hW h0 dX10_at_6 ?_
    refine lv_icmp_ge (tgt := 16) hx hb dX10_at_7 (by decide) (fun hc => ?_) (fun hc => ?_)
    · replace h := if_t hc h
      refine lv_iconst (v := 0) hx hb dX10_at_16 (by decide) ?_
      exact ri_end0 hret h dX10_at_17 hW
    · replace h := if_f hc h
      refine lv_aload_n hx hb dX10_at_10 rfl (lv_at hl 0 rfl) ?_
      refine lv_iload_n hx hb dX10_at_11 rfl (lv_at hl 1 rfl) ?_
      obtain ⟨hi1, h⟩ := ckI_el h
      refine r_iald X hW h0 hi1 dX10_at_12 ?_
      refine lv_goto (tgt := 17) hx hb dX10_at_13 (by decide) ?_
      exact ri_end0 hret h dX10_at_17 hW
set_option maxRecDepth 20000 in
set_option maxHeartbeats 4000000 in
theorem bl_X6_number_b59 (X : Cx G p R s m args c cells slots cX6_number 5 RX6 3) {r : Int32} {σ' : St} (hret : R_I G p l e R s m args below meth c cells slots Q cX6_number r σ') :
    ∀ (v0 : Nat) (h0 : kd v0 = 5) (v1 : Int32) (v3 : Int32) (σ : St) (_ : pf_X6_number_b59 v0 v1 v3 σ = some (r, σ')) (H : Heap) (locs : List Loc) (ls : Array Slot) (_ : GW G σ s H locs) (_ : lv_has ls 5 [(0, .ref (gz G + (v0))), (1, .int (v1)), (3, .int (v3))]), W p l e R s m args below meth c H locs cells slots Q (F0 m 59 ls []) := by
  have hx := X.1.1
  have hb := X.1.2.1
  intro v0 h0 v1 v3 σ h H locs ls hW hl
  unfold pf_X6_number_b59 at h
  refine lv_aload_n hx hb dX6_number_59 rfl (lv_at hl 0 rfl) ?_
  refine lv_bipush (v := (-3)) hx hb dX6_number_60 (by decide) ?_
  refine lv_iload_n hx hb dX6_number_62 rfl (lv_at hl 2 rfl) ?_
  obtain ⟨σ_1, hcl, h⟩ := bind_el h
  refine call_V0 X hW (kC_X6 h0) m_6_16 m_6_17 m_6_18 mv_X6_fail (c_X6_fail h0 hcl) (by decide) rfl rfl (Nat.le_of_ble_eq_true rfl) hl.1 dX6_number_63 ?_
  clear hW hcl; intro H locs hW
  refine lv_iload_n hx hb dX6_number_66 rfl (lv_at hl 1 rfl) ?_
  exact ri_end hret h dX6_number_67 hW
set_option maxRecDepth 20000 in
set_option maxHeartbeats 4000000 in
theorem c_X6_number {G : Gt} {l : Launch} {v0 : Nat} (h0 : kd v0 = 5) {v1 : Int32} {v2 : Int32} {σ : St} {r : Int32} {σ' : St} (hf : pf_X6_number v0 v1 v2 σ = some (r, σ')) : Ct G l yX6_number cX6_number 5 (some .int) 3 [.ref (gz G + (v0)), .int (v1), .int (v2)] σ (some (.int r)) σ' := by
  refine met_i (by decide +kernel) (Nat.le_of_ble_eq_true rfl) rfl ?_
  intro p e s m args below meth c Q ls X hW hret hl
  have hx := X.1.1
  have hb := X.1.2.1
  have hl : lv_has ls 5 [(0, .ref (gz G + (v0))), (1, .int (v1)), (2, .int (v2))] := hl
  have h := hf
  clear hf
  unfold pf_X6_number at h
  refine lv_aload_n hx hb dX6_number_0 rfl (lv_at hl 0 rfl) ?_
  obtain ⟨r_1, hcl, h⟩ := bind_el h
  refine call_V1 X hW (kC_X6 h0) m_6_12 m_6_13 m_6_14 mv_X6_start (c_X6_start h0 hcl) (by decide) rfl rfl (Nat.le_of_ble_eq_true rfl) hl.1 dX6_number_1 ?_
  clear hW hcl; intro H locs hW
  refine lv_istore_n (lv' := [(3, .int (r_1)), (0, .ref (gz G + (v0))), (1, .int (v1)), (2, .int (v2))]) hx hb dX6_number_4 rfl hl (by decide) rfl ?_
  clear hl; intro ls hl
  refine lv_aload_n hx hb dX6_number_5 rfl (lv_at hl 1 rfl) ?_
  obtain ⟨r_2, hcl, h⟩ := bind_el h
  refine call_V1 X hW (kC_X6 h0) m_6_6 m_6_7 m_6_8 mv_X6_ahead (c_X6_ahead h0 hcl) (by decide) rfl rfl (Nat.le_of_ble_eq_true rfl) hl.1 dX6_number_6 ?_
  clear hW hcl; intro H locs hW
  refine r_gtok (k := 0) X hW (by decide) m_5_206 dX6_number_9 ?_
  refine r_acmp_eq (a := r_2) (b := some 0) (tgt := 24) X hx hb dX6_number_12 (by decide) (fun hc => ?_) (fun hc => ?_)
  · replace h := if_t hc h
    refine lv_aload_n hx hb dX6_number_24 rfl (lv_at hl 1 rfl) ?_
    refine gf_X6_numbers X hW h0 m_1_212 dX6_number_25 ?_
    refine lv_aload_n hx hb dX6_number_28 rfl (lv_at hl 1 rfl) ?_
    refine gf_X6_place X hW h0 m_1_214 dX6_number_29 ?_
    obtain ⟨r_3, hcl, h⟩ := bind_el h
    refine call_SN1 X hW m_5_190 m_2_178 mv_X10_at (c_X10_at (kf_X6_numbers h0) hcl) (by decide) rfl rfl (Nat.le_of_ble_eq_true rfl) hl.1 dX6_number_32 ?_
    clear hW hcl; intro H locs hW
    refine lv_istore (lv' := [(4, .int (r_3)), (3, .int (r_1)), (0, .ref (gz G + (v0))), (1, .int (v1)), (2, .int (v2))]) hx hb dX6_number_35 hl (by decide) rfl ?_
    clear hl; intro ls hl
    refine lv_aload_n hx hb dX6_number_37 rfl (lv_at hl 2 rfl) ?_
    refine lv_dup hx hb dX6_number_38 rfl ?_
    refine gf_X6_place X hW h0 m_1_214 dX6_number_39 ?_
    refine lv_iconst (v := 1) hx hb dX6_number_42 (by decide) ?_
    refine lv_iadd hx hb dX6_number_43 ?_
    refine sf_X6_place X hW h0 m_1_214 dX6_number_44 ?_
    clear hW; intro H locs hW
    refine nm_s hW h ?_
    clear hW h; intro σ_4 hW h
    refine lv_iload hx hb dX6_number_47 (lv_at hl 0 rfl) ?_
    refine lv_iload_n hx hb dX6_number_49 rfl (lv_at hl 3 rfl) ?_
    refine lv_icmp_lt (tgt := 59) hx hb dX6_number_50 (by decide) (fun hc => ?_) (fun hc => ?_)
    · replace h := if_t hc h
      exact bl_X6_number_b59 X hret v0 h0 v1 r_1 σ_4 h _ _ _ hW (lv_sub hl [2, 3, 1] rfl)
    · replace h := if_f hc h
      refine lv_iload hx hb dX6_number_53 (lv_at hl 0 rfl) ?_
      refine lv_iload_n hx hb dX6_number_55 rfl (lv_at hl 4 rfl) ?_
      refine lv_icmp_le (tgt := 68) hx hb dX6_number_56 (by decide) (fun hc => ?_) (fun hc => ?_)
      · replace h := if_t hc h
        refine lv_iload hx hb dX6_number_68 (lv_at hl 0 rfl) ?_
        exact ri_end hret h dX6_number_70 hW
      · replace h := if_f hc h
        exact bl_X6_number_b59 X hret v0 h0 v1 r_1 σ_4 h _ _ _ hW (lv_sub hl [2, 3, 1] rfl)
  · replace h := if_f hc h
    refine lv_aload_n hx hb dX6_number_15 rfl (lv_at hl 1 rfl) ?_
    refine lv_bipush (v := (-2)) hx hb dX6_number_16 (by decide) ?_
    refine lv_iload_n hx hb dX6_number_18 rfl (lv_at hl 0 rfl) ?_
    obtain ⟨σ_5, hcl, h⟩ := bind_el h
    refine call_V0 X hW (kC_X6 h0) m_6_16 m_6_17 m_6_18 mv_X6_fail (c_X6_fail h0 hcl) (by decide) rfl rfl (Nat.le_of_ble_eq_true rfl) hl.1 dX6_number_19 ?_
    clear hW hcl; intro H locs hW
    refine lv_iload_n hx hb dX6_number_22 rfl (lv_at hl 2 rfl) ?_
    exact ri_end hret h dX6_number_23 hW
set_option maxRecDepth 20000 in
set_option maxHeartbeats 4000000 in
theorem bl_X0_readSingle_b66 {rc : Nat → Nat → Int32 → Int32 → St → Option (Int64 × St)} {hr : Nat} (hB : 4 ≤ hr) (hrc : ∀ {a0 : Nat} (_ : kd a0 = 0) {a1 : Nat} (_ : kd a1 = 5) {a2 : Int32} {a3 : Int32} {τ : St} {w : Int64} {τ' : St} (_ : rc a0 a1 a2 a3 τ = some (w, τ')), Ct G l yX0_readGoal cX0_readGoal 9 (some .long) hr [.ref (gz G + a0), .ref (gz G + (a1)), .int (a2), .int (a3)] τ (some (.long w)) τ') (X : Cx G p R s m args c cells slots cX0_readSingle 6 RX0 (hr + 2)) {r : Int64} {σ' : St} (hret : R_L G p l e R s m args below meth c cells slots Q cX0_readSingle r σ') :
    ∀ (v0 : Nat) (h0 : kd v0 = 0) (v1 : Nat) (h1 : kd v1 = 5) (v2 : Int32) (v3 : Int32) (v5 : Int32) (σ : St) (_ : pf_X0_readSingle_b66 rc v0 v1 v2 v3 v5 σ = some (r, σ')) (H : Heap) (locs : List Loc) (ls : Array Slot) (_ : GW G σ s H locs) (_ : lv_has ls 6 [(0, .ref (gz G + (v0))), (1, .ref (gz G + (v1))), (2, .int (v2)), (3, .int (v3)), (5, .int (v5))]), W p l e R s m args below meth c H locs cells slots Q (F0 m 66 ls []) := by
  have hx := X.1.1
  have hb := X.1.2.1
  intro v0 h0 v1 h1 v2 v3 v5 σ h H locs ls hW hl
  unfold pf_X0_readSingle_b66 at h
  refine lv_aload_n hx hb dX0_readSingle_66 rfl (lv_at hl 0 rfl) ?_
  refine lv_aload_n hx hb dX0_readSingle_67 rfl (lv_at hl 1 rfl) ?_
  refine lv_iload_n hx hb dX0_readSingle_68 rfl (lv_at hl 2 rfl) ?_
  refine lv_iload_n hx hb dX0_readSingle_69 rfl (lv_at hl 3 rfl) ?_
  refine lv_iload hx hb dX0_readSingle_70 (lv_at hl 4 rfl) ?_
  refine lv_sipush (v := 800) hx hb dX0_readSingle_72 (by decide) ?_
  obtain ⟨r_1, σ_1, hcl, h⟩ := bnd2_el h
  refine call_V1 X hW (kC_X0 h0) m_6_165 m_6_167 m_0_31 mv_X0_readGroup (c_X0_readGroup hB hrc h0 h1 hcl) (by omega) rfl rfl (Nat.le_of_ble_eq_true rfl) hl.1 dX0_readSingle_75 ?_
  clear hW hcl; intro H locs hW
  exact rl_end hret h dX0_readSingle_78 hW
set_option maxRecDepth 20000 in
set_option maxHeartbeats 4000000 in
theorem bl_X0_readSingle_b58 {rc : Nat → Nat → Int32 → Int32 → St → Option (Int64 × St)} {hr : Nat} (hB : 4 ≤ hr) (hrc : ∀ {a0 : Nat} (_ : kd a0 = 0) {a1 : Nat} (_ : kd a1 = 5) {a2 : Int32} {a3 : Int32} {τ : St} {w : Int64} {τ' : St} (_ : rc a0 a1 a2 a3 τ = some (w, τ')), Ct G l yX0_readGoal cX0_readGoal 9 (some .long) hr [.ref (gz G + a0), .ref (gz G + (a1)), .int (a2), .int (a3)] τ (some (.long w)) τ') (X : Cx G p R s m args c cells slots cX0_readSingle 6 RX0 (hr + 2)) {r : Int64} {σ' : St} (hret : R_L G p l e R s m args below meth c cells slots Q cX0_readSingle r σ') :
    ∀ (v0 : Nat) (h0 : kd v0 = 0) (v1 : Nat) (h1 : kd v1 = 5) (v2 : Int32) (v3 : Int32) (v4 : Int32) (v5 : Int32) (σ : St) (_ : pf_X0_readSingle_b58 rc v0 v1 v2 v3 v4 v5 σ = some (r, σ')) (H : Heap) (locs : List Loc) (ls : Array Slot) (_ : GW G σ s H locs) (_ : lv_has ls 6 [(0, .ref (gz G + (v0))), (1, .ref (gz G + (v1))), (2, .int (v2)), (3, .int (v3)), (4, .int (v4)), (5, .int (v5))]), W p l e R s m args below meth c H locs cells slots Q (F0 m 58 ls []) := by
  have hx := X.1.1
  have hb := X.1.2.1
  intro v0 h0 v1 h1 v2 v3 v4 v5 σ h H locs ls hW hl
  unfold pf_X0_readSingle_b58 at h
  refine lv_aload_n hx hb dX0_readSingle_58 rfl (lv_at hl 1 rfl) ?_
  refine lv_bipush (v := (-3)) hx hb dX0_readSingle_59 (by decide) ?_
  refine lv_iload hx hb dX0_readSingle_61 (lv_at hl 4 rfl) ?_
  obtain ⟨σ_1, hcl, h⟩ := bind_el h
  refine call_V0 X hW (kC_X6 h1) m_6_194 m_6_17 m_6_18 mv_X6_fail (c_X6_fail h1 hcl) (by omega) rfl rfl (Nat.le_of_ble_eq_true rfl) hl.1 dX0_readSingle_63 ?_
  clear hW hcl; intro H locs hW
  exact bl_X0_readSingle_b66 hB hrc X hret v0 h0 v1 h1 v2 v3 v5 σ_1 h _ _ _ hW (lv_sub hl [0, 1, 2, 3, 5] rfl)
set_option maxRecDepth 20000 in
set_option maxHeartbeats 4000000 in
theorem bl_X0_readSingle_b99 {rc : Nat → Nat → Int32 → Int32 → St → Option (Int64 × St)} {hr : Nat} (hB : 4 ≤ hr) (hrc : ∀ {a0 : Nat} (_ : kd a0 = 0) {a1 : Nat} (_ : kd a1 = 5) {a2 : Int32} {a3 : Int32} {τ : St} {w : Int64} {τ' : St} (_ : rc a0 a1 a2 a3 τ = some (w, τ')), Ct G l yX0_readGoal cX0_readGoal 9 (some .long) hr [.ref (gz G + a0), .ref (gz G + (a1)), .int (a2), .int (a3)] τ (some (.long w)) τ') (X : Cx G p R s m args c cells slots cX0_readSingle 6 RX0 (hr + 2)) {r : Int64} {σ' : St} (hret : R_L G p l e R s m args below meth c cells slots Q cX0_readSingle r σ') :
    ∀ (v1 : Nat) (h1 : kd v1 = 5) (v4 : Int32) (σ : St) (_ : pf_X0_readSingle_b99 rc v1 v4 σ = some (r, σ')) (H : Heap) (locs : List Loc) (ls : Array Slot) (_ : GW G σ s H locs) (_ : lv_has ls 6 [(1, .ref (gz G + (v1))), (4, .int (v4))]), W p l e R s m args below meth c H locs cells slots Q (F0 m 99 ls []) := by
  have hx := X.1.1
  have hb := X.1.2.1
  intro v1 h1 v4 σ h H locs ls hW hl
  unfold pf_X0_readSingle_b99 at h
  refine lv_aload_n hx hb dX0_readSingle_99 rfl (lv_at hl 0 rfl) ?_
  refine lv_bipush (v := (-3)) hx hb dX0_readSingle_100 (by decide) ?_
  refine lv_iload hx hb dX0_readSingle_102 (lv_at hl 1 rfl) ?_
  obtain ⟨σ_1, hcl, h⟩ := bind_el h
  refine call_V0 X hW (kC_X6 h1) m_6_194 m_6_17 m_6_18 mv_X6_fail (c_X6_fail h1 hcl) (by omega) rfl rfl (Nat.le_of_ble_eq_true rfl) hl.1 dX0_readSingle_104 ?_
  clear hW hcl; intro H locs hW
  refine lv_lconst (v := 0) hx hb dX0_readSingle_107 (by decide) ?_
  exact rl_end hret h dX0_readSingle_108 hW
set_option maxRecDepth 20000 in
set_option maxHeartbeats 4000000 in
theorem c_X0_readSingle {G : Gt} {l : Launch} {rc : Nat → Nat → Int32 → Int32 → St → Option (Int64 × St)} {hr : Nat} (hB : 4 ≤ hr) (hrc : ∀ {a0 : Nat} (_ : kd a0 = 0) {a1 : Nat} (_ : kd a1 = 5) {a2 : Int32} {a3 : Int32} {τ : St} {w : Int64} {τ' : St} (_ : rc a0 a1 a2 a3 τ = some (w, τ')), Ct G l yX0_readGoal cX0_readGoal 9 (some .long) hr [.ref (gz G + a0), .ref (gz G + (a1)), .int (a2), .int (a3)] τ (some (.long w)) τ') {v0 : Nat} (h0 : kd v0 = 0) {v1 : Nat} (h1 : kd v1 = 5) {v2 : Int32} {v3 : Int32} {σ : St} {r : Int64} {σ' : St} (hf : pf_X0_readSingle rc v0 v1 v2 v3 σ = some (r, σ')) : Ct G l yX0_readSingle cX0_readSingle 6 (some .long) (hr + 2) [.ref (gz G + (v0)), .ref (gz G + (v1)), .int (v2), .int (v3)] σ (some (.long r)) σ' := by
  refine met_l (by decide +kernel) (Nat.le_of_ble_eq_true rfl) rfl ?_
  intro p e s m args below meth c Q ls X hW hret hl
  have hx := X.1.1
  have hb := X.1.2.1
  have hl : lv_has ls 6 [(0, .ref (gz G + (v0))), (1, .ref (gz G + (v1))), (2, .int (v2)), (3, .int (v3))] := hl
  have h := hf
  clear hf
  unfold pf_X0_readSingle at h
  refine lv_aload_n hx hb dX0_readSingle_0 rfl (lv_at hl 1 rfl) ?_
  obtain ⟨r_1, hcl, h⟩ := bind_el h
  refine call_V1 X hW (kC_X6 h1) m_6_163 m_6_7 m_6_8 mv_X6_ahead (c_X6_ahead h1 hcl) (by omega) rfl rfl (Nat.le_of_ble_eq_true rfl) hl.1 dX0_readSingle_1 ?_
  clear hW hcl; intro H locs hW
  refine r_gtok (k := 0) X hW (by decide) m_6_164 dX0_readSingle_4 ?_
  refine r_acmp_eq (a := r_1) (b := some 0) (tgt := 20) X hx hb dX0_readSingle_7 (by decide) (fun hc => ?_) (fun hc => ?_)
  · replace h := if_t hc h
    refine lv_aload_n hx hb dX0_readSingle_20 rfl (lv_at hl 1 rfl) ?_
    obtain ⟨r_2, hcl, h⟩ := bind_el h
    refine call_V1 X hW (kC_X6 h1) m_6_189 m_6_13 m_6_14 mv_X6_start (c_X6_start h1 hcl) (by omega) rfl rfl (Nat.le_of_ble_eq_true rfl) hl.1 dX0_readSingle_21 ?_
    clear hW hcl; intro H locs hW
    refine lv_istore (lv' := [(4, .int (r_2)), (0, .ref (gz G + (v0))), (1, .ref (gz G + (v1))), (2, .int (v2)), (3, .int (v3))]) hx hb dX0_readSingle_24 hl (by decide) rfl ?_
    clear hl; intro ls hl
    refine lv_aload_n hx hb dX0_readSingle_26 rfl (lv_at hl 2 rfl) ?_
    refine lv_iconst (v := 0) hx hb dX0_readSingle_27 (by decide) ?_
    refine lv_ldc (v := 1000000) hx hb X.1.2.2.2.1 (X.1.2.2.2.2 _ m_6_190) dX0_readSingle_28 ?_
    obtain ⟨r_3, σ_3, hcl, h⟩ := bnd2_el h
    refine call_V1 X hW (kC_X6 h1) m_6_191 m_6_40 m_6_41 mv_X6_number (c_X6_number h1 hcl) (by omega) rfl rfl (Nat.le_of_ble_eq_true rfl) hl.1 dX0_readSingle_30 ?_
    clear hW hcl; intro H locs hW
    refine lv_istore (lv' := [(5, .int (r_3)), (4, .int (r_2)), (0, .ref (gz G + (v0))), (1, .ref (gz G + (v1))), (2, .int (v2)), (3, .int (v3))]) hx hb dX0_readSingle_33 hl (by decide) rfl ?_
    clear hl; intro ls hl
    refine lv_aload_n hx hb dX0_readSingle_35 rfl (lv_at hl 3 rfl) ?_
    refine r_gtok (k := 18) X hW (by decide) m_6_192 dX0_readSingle_36 ?_
    obtain ⟨r_4, σ_4, hcl, h⟩ := bnd2_el h
    refine call_V1 X hW (kC_X6 h1) m_6_186 m_6_137 m_6_138 mv_X6_take (c_X6_take h1 hcl) (by omega) rfl rfl (Nat.le_of_ble_eq_true rfl) hl.1 dX0_readSingle_39 ?_
    clear hW hcl; intro H locs hW
    refine lv_if_eq (tgt := 79) hx hb dX0_readSingle_42 (by decide) (fun hc => ?_) (fun hc => ?_)
    · replace h := if_t hc h
      refine lv_iload hx hb dX0_readSingle_79 (lv_at hl 0 rfl) ?_
      refine lv_if_lt (tgt := 99) hx hb dX0_readSingle_81 (by decide) (fun hc => ?_) (fun hc => ?_)
      · replace h := if_t hc h
        exact bl_X0_readSingle_b99 hB hrc X hret v1 h1 r_2 σ_4 h _ _ _ hW (lv_sub hl [3, 1] rfl)
      · replace h := if_f hc h
        refine lv_iload hx hb dX0_readSingle_84 (lv_at hl 0 rfl) ?_
        refine lv_iload_n hx hb dX0_readSingle_86 rfl (lv_at hl 4 rfl) ?_
        refine lv_icmp_ge (tgt := 99) hx hb dX0_readSingle_87 (by decide) (fun hc => ?_) (fun hc => ?_)
        · replace h := if_t hc h
          exact bl_X0_readSingle_b99 hB hrc X hret v1 h1 r_2 σ_4 h _ _ _ hW (lv_sub hl [3, 1] rfl)
        · replace h := if_f hc h
          refine lv_iload hx hb dX0_readSingle_90 (lv_at hl 0 rfl) ?_
          refine r_gswN X hW m_6_195 dX0_readSingle_92 ?_
          refine r_swlen X hW dX0_readSingle_95 ?_
          refine lv_icmp_lt (tgt := 109) hx hb dX0_readSingle_96 (by decide) (fun hc => ?_) (fun hc => ?_)
          · replace h := if_t hc h
            refine r_gswN X hW m_6_195 dX0_readSingle_109 ?_
            refine lv_iload hx hb dX0_readSingle_112 (lv_at hl 0 rfl) ?_
            obtain ⟨hi, h⟩ := ckI_el h
            refine r_sw X hW hi dX0_readSingle_114 ?_
            exact rl_end hret h dX0_readSingle_115 hW
          · replace h := if_f hc h
            exact bl_X0_readSingle_b99 hB hrc X hret v1 h1 r_2 σ_4 h _ _ _ hW (lv_sub hl [3, 1] rfl)
    · replace h := if_f hc h
      refine lv_iload hx hb dX0_readSingle_45 (lv_at hl 0 rfl) ?_
      refine lv_iconst (v := 1) hx hb dX0_readSingle_47 (by decide) ?_
      refine lv_icmp_lt (tgt := 58) hx hb dX0_readSingle_48 (by decide) (fun hc => ?_) (fun hc => ?_)
      · replace h := if_t hc h
        exact bl_X0_readSingle_b58 hB hrc X hret v0 h0 v1 h1 v2 v3 r_2 r_3 σ_4 h _ _ _ hW (lv_sub hl [2, 3, 4, 5, 1, 0] rfl)
      · replace h := if_f hc h
        refine lv_iload hx hb dX0_readSingle_51 (lv_at hl 0 rfl) ?_
        refine lv_bipush (v := 6) hx hb dX0_readSingle_53 (by decide) ?_
        refine lv_icmp_le (tgt := 66) hx hb dX0_readSingle_55 (by decide) (fun hc => ?_) (fun hc => ?_)
        · replace h := if_t hc h
          exact bl_X0_readSingle_b66 hB hrc X hret v0 h0 v1 h1 v2 v3 r_3 σ_4 h _ _ _ hW (lv_sub hl [2, 3, 4, 5, 0] rfl)
        · replace h := if_f hc h
          exact bl_X0_readSingle_b58 hB hrc X hret v0 h0 v1 h1 v2 v3 r_2 r_3 σ_4 h _ _ _ hW (lv_sub hl [2, 3, 4, 5, 1, 0] rfl)
  · replace h := if_f hc h
    refine lv_aload_n hx hb dX0_readSingle_10 rfl (lv_at hl 0 rfl) ?_
    refine lv_aload_n hx hb dX0_readSingle_11 rfl (lv_at hl 1 rfl) ?_
    refine lv_iload_n hx hb dX0_readSingle_12 rfl (lv_at hl 2 rfl) ?_
    refine lv_iload_n hx hb dX0_readSingle_13 rfl (lv_at hl 3 rfl) ?_
    refine lv_iconst (v := 1) hx hb dX0_readSingle_14 (by decide) ?_
    refine lv_iconst (v := 1) hx hb dX0_readSingle_15 (by decide) ?_
    obtain ⟨r_5, σ_5, hcl, h⟩ := bnd2_el h
    refine call_V1 X hW (kC_X0 h0) m_6_165 m_6_167 m_0_31 mv_X0_readGroup (c_X0_readGroup hB hrc h0 h1 hcl) (by omega) rfl rfl (Nat.le_of_ble_eq_true rfl) hl.1 dX0_readSingle_16 ?_
    clear hW hcl; intro H locs hW
    exact rl_end hret h dX0_readSingle_19 hW
set_option maxRecDepth 20000 in
set_option maxHeartbeats 4000000 in
theorem bl_X0_readGoal_b77 {rc : Nat → Nat → Int32 → Int32 → St → Option (Int64 × St)} {hr : Nat} (hB : 4 ≤ hr) (hrc : ∀ {a0 : Nat} (_ : kd a0 = 0) {a1 : Nat} (_ : kd a1 = 5) {a2 : Int32} {a3 : Int32} {τ : St} {w : Int64} {τ' : St} (_ : rc a0 a1 a2 a3 τ = some (w, τ')), Ct G l yX0_readGoal cX0_readGoal 9 (some .long) hr [.ref (gz G + a0), .ref (gz G + (a1)), .int (a2), .int (a3)] τ (some (.long w)) τ') (X : Cx G p R s m args c cells slots cX0_readGoal 9 RX0 (hr + 3)) {r : Int64} {σ' : St} (hret : R_L G p l e R s m args below meth c cells slots Q cX0_readGoal r σ') :
    ∀ (v4 : Int64) (v6 : Int64) (σ : St) (_ : pf_X0_readGoal_b77 rc v4 v6 σ = some (r, σ')) (H : Heap) (locs : List Loc) (ls : Array Slot) (_ : GW G σ s H locs) (_ : lv_has ls 9 [(4, .long (v4)), (6, .long (v6))]), W p l e R s m args below meth c H locs cells slots Q (F0 m 77 ls []) := by
  have hx := X.1.1
  have hb := X.1.2.1
  intro v4 v6 σ h H locs ls hW hl
  unfold pf_X0_readGoal_b77 at h
  refine lv_lload hx hb dX0_readGoal_77 (lv_at hl 0 rfl) ?_
  refine lv_lload hx hb dX0_readGoal_79 (lv_at hl 1 rfl) ?_
  refine lv_lor hx hb dX0_readGoal_81 ?_
  exact rl_end hret h dX0_readGoal_82 hW
set_option maxRecDepth 20000 in
set_option maxHeartbeats 4000000 in
theorem bl_X0_readGoal_b83 {rc : Nat → Nat → Int32 → Int32 → St → Option (Int64 × St)} {hr : Nat} (hB : 4 ≤ hr) (hrc : ∀ {a0 : Nat} (_ : kd a0 = 0) {a1 : Nat} (_ : kd a1 = 5) {a2 : Int32} {a3 : Int32} {τ : St} {w : Int64} {τ' : St} (_ : rc a0 a1 a2 a3 τ = some (w, τ')), Ct G l yX0_readGoal cX0_readGoal 9 (some .long) hr [.ref (gz G + a0), .ref (gz G + (a1)), .int (a2), .int (a3)] τ (some (.long w)) τ') (X : Cx G p R s m args c cells slots cX0_readGoal 9 RX0 (hr + 3)) {r : Int64} {σ' : St} (hret : R_L G p l e R s m args below meth c cells slots Q cX0_readGoal r σ') {k15 : Nat → Nat → Int32 → Int32 → Int64 → Int64 → Int32 → St → (Option (Int64 × St))}
    (hk15 : ∀ (v0 : Nat) (h0 : kd v0 = 0) (v1 : Nat) (h1 : kd v1 = 5) (v2 : Int32) (v3 : Int32) (v4 : Int64) (v6 : Int64) (v8 : Int32) (σ : St) (_ : k15 v0 v1 v2 v3 v4 v6 v8 σ = some (r, σ')) (H : Heap) (locs : List Loc) (ls : Array Slot) (_ : GW G σ s H locs) (_ : lv_has ls 9 [(0, .ref (gz G + (v0))), (1, .ref (gz G + (v1))), (2, .int (v2)), (3, .int (v3)), (4, .long (v4)), (6, .long (v6)), (8, .int (v8))]), W p l e R s m args below meth c H locs cells slots Q (F0 m 15 ls [])) :
    ∀ (v0 : Nat) (h0 : kd v0 = 0) (v1 : Nat) (h1 : kd v1 = 5) (v2 : Int32) (v3 : Int32) (v4 : Int64) (v6 : Int64) (v8 : Int32) (σ : St) (_ : pf_X0_readGoal_b83 rc k15 v0 v1 v2 v3 v4 v6 v8 σ = some (r, σ')) (H : Heap) (locs : List Loc) (ls : Array Slot) (_ : GW G σ s H locs) (_ : lv_has ls 9 [(0, .ref (gz G + (v0))), (1, .ref (gz G + (v1))), (2, .int (v2)), (3, .int (v3)), (4, .long (v4)), (6, .long (v6)), (8, .int (v8))]), W p l e R s m args below meth c H locs cells slots Q (F0 m 83 ls []) := by
  have hx := X.1.1
  have hb := X.1.2.1
  intro v0 h0 v1 h1 v2 v3 v4 v6 v8 σ h H locs ls hW hl
  unfold pf_X0_readGoal_b83 at h
  refine w_iinc (v := 1) (lv' := fun y => [(8, .int (y)), (0, .ref (gz G + (v0))), (1, .ref (gz G + (v1))), (2, .int (v2)), (3, .int (v3)), (4, .long (v4)), (6, .long (v6))]) hx hb dX0_readGoal_83 hl (k := 6) rfl (by decide) (by decide) (fun _ => rfl) h ?_
  clear h hl; intro v8_1 h ls hl
  refine lv_goto (tgt := 15) hx hb dX0_readGoal_86 (by decide) ?_
  exact hk15 v0 h0 v1 h1 v2 v3 v4 v6 v8_1 σ h _ _ _ hW (lv_sub hl [1, 2, 3, 4, 5, 6, 0] rfl)
set_option maxRecDepth 20000 in
set_option maxHeartbeats 4000000 in
theorem bl_X0_readGoal_b89 {rc : Nat → Nat → Int32 → Int32 → St → Option (Int64 × St)} {hr : Nat} (hB : 4 ≤ hr) (hrc : ∀ {a0 : Nat} (_ : kd a0 = 0) {a1 : Nat} (_ : kd a1 = 5) {a2 : Int32} {a3 : Int32} {τ : St} {w : Int64} {τ' : St} (_ : rc a0 a1 a2 a3 τ = some (w, τ')), Ct G l yX0_readGoal cX0_readGoal 9 (some .long) hr [.ref (gz G + a0), .ref (gz G + (a1)), .int (a2), .int (a3)] τ (some (.long w)) τ') (X : Cx G p R s m args c cells slots cX0_readGoal 9 RX0 (hr + 3)) {r : Int64} {σ' : St} (hret : R_L G p l e R s m args below meth c cells slots Q cX0_readGoal r σ') :
    ∀ (v4 : Int64) (v6 : Int64) (σ : St) (_ : pf_X0_readGoal_b89 rc v4 v6 σ = some (r, σ')) (H : Heap) (locs : List Loc) (ls : Array Slot) (_ : GW G σ s H locs) (_ : lv_has ls 9 [(4, .long (v4)), (6, .long (v6))]), W p l e R s m args below meth c H locs cells slots Q (F0 m 89 ls []) := by
  have hx := X.1.1
  have hb := X.1.2.1
  intro v4 v6 σ h H locs ls hW hl
  unfold pf_X0_readGoal_b89 at h
  refine lv_lload hx hb dX0_readGoal_89 (lv_at hl 0 rfl) ?_
  refine lv_lload hx hb dX0_readGoal_91 (lv_at hl 1 rfl) ?_
  refine lv_lor hx hb dX0_readGoal_93 ?_
  exact rl_end hret h dX0_readGoal_94 hW
set_option maxRecDepth 20000 in
set_option maxHeartbeats 4000000 in
theorem bl_X0_readGoal_L15 {rc : Nat → Nat → Int32 → Int32 → St → Option (Int64 × St)} {hr : Nat} (hB : 4 ≤ hr) (hrc : ∀ {a0 : Nat} (_ : kd a0 = 0) {a1 : Nat} (_ : kd a1 = 5) {a2 : Int32} {a3 : Int32} {τ : St} {w : Int64} {τ' : St} (_ : rc a0 a1 a2 a3 τ = some (w, τ')), Ct G l yX0_readGoal cX0_readGoal 9 (some .long) hr [.ref (gz G + a0), .ref (gz G + (a1)), .int (a2), .int (a3)] τ (some (.long w)) τ') (X : Cx G p R s m args c cells slots cX0_readGoal 9 RX0 (hr + 3)) {r : Int64} {σ' : St} (hret : R_L G p l e R s m args below meth c cells slots Q cX0_readGoal r σ') {k77 : Int64 → Int64 → St → (Option (Int64 × St))} {k89 : Int64 → Int64 → St → (Option (Int64 × St))}
    (hk77 : ∀ (v4 : Int64) (v6 : Int64) (σ : St) (_ : k77 v4 v6 σ = some (r, σ')) (H : Heap) (locs : List Loc) (ls : Array Slot) (_ : GW G σ s H locs) (_ : lv_has ls 9 [(4, .long (v4)), (6, .long (v6))]), W p l e R s m args below meth c H locs cells slots Q (F0 m 77 ls []))
    (hk89 : ∀ (v4 : Int64) (v6 : Int64) (σ : St) (_ : k89 v4 v6 σ = some (r, σ')) (H : Heap) (locs : List Loc) (ls : Array Slot) (_ : GW G σ s H locs) (_ : lv_has ls 9 [(4, .long (v4)), (6, .long (v6))]), W p l e R s m args below meth c H locs cells slots Q (F0 m 89 ls [])) :
    ∀ (n : Nat), ∀ (v0 : Nat) (h0 : kd v0 = 0) (v1 : Nat) (h1 : kd v1 = 5) (v2 : Int32) (v3 : Int32) (v4 : Int64) (v6 : Int64) (v8 : Int32) (σ : St) (_ : pf_X0_readGoal_L15 rc k77 k89 n v0 v1 v2 v3 v4 v6 v8 σ = some (r, σ')) (H : Heap) (locs : List Loc) (ls : Array Slot) (_ : GW G σ s H locs) (_ : lv_has ls 9 [(0, .ref (gz G + (v0))), (1, .ref (gz G + (v1))), (2, .int (v2)), (3, .int (v3)), (4, .long (v4)), (6, .long (v6)), (8, .int (v8))]), W p l e R s m args below meth c H locs cells slots Q (F0 m 15 ls []) := by
  have hx := X.1.1
  have hb := X.1.2.1
  intro n
  induction n with
  | zero => intro v0 h0 v1 h1 v2 v3 v4 v6 v8 σ h H locs ls hW hl; cases h
  | succ n ih =>
    intro v0 h0 v1 h1 v2 v3 v4 v6 v8 σ h H locs ls hW hl
    rw [pf_X0_readGoal_L15.eq_2] at h
    refine lv_iload hx hb dX0_readGoal_15 (lv_at hl 6 rfl) ?_
    refine lv_sipush (v := 800) hx hb dX0_readGoal_17 (by decide) ?_
    refine lv_icmp_ge (tgt := 89) hx hb dX0_readGoal_20 (by decide) (fun hc => ?_) (fun hc => ?_)
    · replace h := if_t hc h
      exact hk89 v4 v6 σ h _ _ _ hW (lv_sub hl [4, 5] rfl)
    · replace h := if_f hc h
      refine lv_aload_n hx hb dX0_readGoal_23 rfl (lv_at hl 1 rfl) ?_
      refine r_gtok (k := 17) X hW (by decide) m_6_197 dX0_readGoal_24 ?_
      obtain ⟨r_1, σ_1, hcl, h⟩ := bnd2_el h
      refine call_V1 X hW (kC_X6 h1) m_6_186 m_6_137 m_6_138 mv_X6_take (c_X6_take h1 hcl) (by omega) rfl rfl (Nat.le_of_ble_eq_true rfl) hl.1 dX0_readGoal_27 ?_
      clear hW hcl; intro H locs hW
      refine lv_if_eq (tgt := 48) hx hb dX0_readGoal_30 (by decide) (fun hc => ?_) (fun hc => ?_)
      · replace h := if_t hc h
        refine lv_aload_n hx hb dX0_readGoal_48 rfl (lv_at hl 1 rfl) ?_
        refine r_gtok (k := 16) X hW (by decide) m_6_199 dX0_readGoal_49 ?_
        obtain ⟨r_2, σ_2, hcl, h⟩ := bnd2_el h
        refine call_V1 X hW (kC_X6 h1) m_6_186 m_6_137 m_6_138 mv_X6_take (c_X6_take h1 hcl) (by omega) rfl rfl (Nat.le_of_ble_eq_true rfl) hl.1 dX0_readGoal_52 ?_
        clear hW hcl; intro H locs hW
        refine lv_if_eq (tgt := 77) hx hb dX0_readGoal_55 (by decide) (fun hc => ?_) (fun hc => ?_)
        · replace h := if_t hc h
          exact hk77 v4 v6 σ_2 h _ _ _ hW (lv_sub hl [4, 5] rfl)
        · replace h := if_f hc h
          refine lv_lload hx hb dX0_readGoal_58 (lv_at hl 4 rfl) ?_
          refine lv_lload hx hb dX0_readGoal_60 (lv_at hl 5 rfl) ?_
          refine lv_lor hx hb dX0_readGoal_62 ?_
          refine nm_l h ?_
          clear h; intro v4_3 h
          refine lv_lstore (lv' := [(4, .long (v4_3)), (0, .ref (gz G + (v0))), (1, .ref (gz G + (v1))), (2, .int (v2)), (3, .int (v3)), (6, .long (v6)), (8, .int (v8))]) hx hb dX0_readGoal_63 hl (by decide) rfl ?_
          clear hl; intro ls hl
          refine lv_aload_n hx hb dX0_readGoal_65 rfl (lv_at hl 1 rfl) ?_
          refine lv_aload_n hx hb dX0_readGoal_66 rfl (lv_at hl 2 rfl) ?_
          refine lv_iload_n hx hb dX0_readGoal_67 rfl (lv_at hl 3 rfl) ?_
          refine lv_iload_n hx hb dX0_readGoal_68 rfl (lv_at hl 4 rfl) ?_
          obtain ⟨r_4, σ_4, hcl, h⟩ := bnd2_el h
          refine call_V1 X hW (kC_X0 h0) m_6_159 m_6_161 m_0_30 mv_X0_readSingle (c_X0_readSingle hB hrc h0 h1 hcl) (by omega) rfl rfl (Nat.le_of_ble_eq_true rfl) hl.1 dX0_readGoal_69 ?_
          clear hW hcl; intro H locs hW
          refine lv_lstore (lv' := [(6, .long (r_4)), (4, .long (v4_3)), (0, .ref (gz G + (v0))), (1, .ref (gz G + (v1))), (2, .int (v2)), (3, .int (v3)), (8, .int (v8))]) hx hb dX0_readGoal_72 hl (by decide) rfl ?_
          clear hl; intro ls hl
          refine lv_goto (tgt := 83) hx hb dX0_readGoal_74 (by decide) ?_
          exact bl_X0_readGoal_b83 hB hrc X hret ih v0 h0 v1 h1 v2 v3 v4_3 r_4 v8 σ_4 h _ _ _ hW (lv_sub hl [2, 3, 4, 5, 1, 0, 6] rfl)
      · replace h := if_f hc h
        refine lv_lload hx hb dX0_readGoal_33 (lv_at hl 5 rfl) ?_
        refine lv_aload_n hx hb dX0_readGoal_35 rfl (lv_at hl 0 rfl) ?_
        refine lv_aload_n hx hb dX0_readGoal_36 rfl (lv_at hl 1 rfl) ?_
        refine lv_iload_n hx hb dX0_readGoal_37 rfl (lv_at hl 2 rfl) ?_
        refine lv_iload_n hx hb dX0_readGoal_38 rfl (lv_at hl 3 rfl) ?_
        obtain ⟨r_5, σ_5, hcl, h⟩ := bnd2_el h
        refine call_V1 X hW (kC_X0 h0) m_6_159 m_6_161 m_0_30 mv_X0_readSingle (c_X0_readSingle hB hrc h0 h1 hcl) (by omega) rfl rfl (Nat.le_of_ble_eq_true rfl) hl.1 dX0_readGoal_39 ?_
        clear hW hcl; intro H locs hW
        refine lv_land hx hb dX0_readGoal_42 ?_
        refine nm_l h ?_
        clear h; intro v6_6 h
        refine lv_lstore (lv' := [(6, .long (v6_6)), (0, .ref (gz G + (v0))), (1, .ref (gz G + (v1))), (2, .int (v2)), (3, .int (v3)), (4, .long (v4)), (8, .int (v8))]) hx hb dX0_readGoal_43 hl (by decide) rfl ?_
        clear hl; intro ls hl
        refine lv_goto (tgt := 83) hx hb dX0_readGoal_45 (by decide) ?_
        exact bl_X0_readGoal_b83 hB hrc X hret ih v0 h0 v1 h1 v2 v3 v4 v6_6 v8 σ_5 h _ _ _ hW (lv_sub hl [1, 2, 3, 4, 5, 0, 6] rfl)
set_option maxRecDepth 20000 in
set_option maxHeartbeats 4000000 in
theorem c_X0_readGoal_B {G : Gt} {l : Launch} {rc : Nat → Nat → Int32 → Int32 → St → Option (Int64 × St)} {hr : Nat} (hB : 4 ≤ hr) (hrc : ∀ {a0 : Nat} (_ : kd a0 = 0) {a1 : Nat} (_ : kd a1 = 5) {a2 : Int32} {a3 : Int32} {τ : St} {w : Int64} {τ' : St} (_ : rc a0 a1 a2 a3 τ = some (w, τ')), Ct G l yX0_readGoal cX0_readGoal 9 (some .long) hr [.ref (gz G + a0), .ref (gz G + (a1)), .int (a2), .int (a3)] τ (some (.long w)) τ') {v0 : Nat} (h0 : kd v0 = 0) {v1 : Nat} (h1 : kd v1 = 5) {v2 : Int32} {v3 : Int32} {σ : St} {r : Int64} {σ' : St} (hf : pf_X0_readGoal_B rc v0 v1 v2 v3 σ = some (r, σ')) : Ct G l yX0_readGoal cX0_readGoal 9 (some .long) (hr + 3) [.ref (gz G + (v0)), .ref (gz G + (v1)), .int (v2), .int (v3)] σ (some (.long r)) σ' := by
  refine met_l (by decide +kernel) (Nat.le_of_ble_eq_true rfl) rfl ?_
  intro p e s m args below meth c Q ls X hW hret hl
  have hx := X.1.1
  have hb := X.1.2.1
  have hl : lv_has ls 9 [(0, .ref (gz G + (v0))), (1, .ref (gz G + (v1))), (2, .int (v2)), (3, .int (v3))] := hl
  have h := hf
  clear hf
  unfold pf_X0_readGoal_B at h
  refine lv_lconst (v := 0) hx hb dX0_readGoal_0 (by decide) ?_
  refine lv_lstore (lv' := [(4, .long (0)), (0, .ref (gz G + (v0))), (1, .ref (gz G + (v1))), (2, .int (v2)), (3, .int (v3))]) hx hb dX0_readGoal_1 hl (by decide) rfl ?_
  clear hl; intro ls hl
  refine lv_aload_n hx hb dX0_readGoal_3 rfl (lv_at hl 1 rfl) ?_
  refine lv_aload_n hx hb dX0_readGoal_4 rfl (lv_at hl 2 rfl) ?_
  refine lv_iload_n hx hb dX0_readGoal_5 rfl (lv_at hl 3 rfl) ?_
  refine lv_iload_n hx hb dX0_readGoal_6 rfl (lv_at hl 4 rfl) ?_
  obtain ⟨r_1, σ_1, hcl, h⟩ := bnd2_el h
  refine call_V1 X hW (kC_X0 h0) m_6_159 m_6_161 m_0_30 mv_X0_readSingle (c_X0_readSingle hB hrc h0 h1 hcl) (by omega) rfl rfl (Nat.le_of_ble_eq_true rfl) hl.1 dX0_readGoal_7 ?_
  clear hW hcl; intro H locs hW
  refine lv_lstore (lv' := [(6, .long (r_1)), (4, .long (0)), (0, .ref (gz G + (v0))), (1, .ref (gz G + (v1))), (2, .int (v2)), (3, .int (v3))]) hx hb dX0_readGoal_10 hl (by decide) rfl ?_
  clear hl; intro ls hl
  refine lv_iconst (v := 0) hx hb dX0_readGoal_12 (by decide) ?_
  refine lv_istore (lv' := [(8, .int (0)), (6, .long (r_1)), (4, .long (0)), (0, .ref (gz G + (v0))), (1, .ref (gz G + (v1))), (2, .int (v2)), (3, .int (v3))]) hx hb dX0_readGoal_13 hl (by decide) rfl ?_
  clear hl; intro ls hl
  exact bl_X0_readGoal_L15 hB hrc X hret (bl_X0_readGoal_b77 hB hrc X hret) (bl_X0_readGoal_b89 hB hrc X hret) FU v0 h0 v1 h1 v2 v3 0 r_1 0 σ_1 h _ _ _ hW (lv_sub hl [3, 4, 5, 6, 2, 1, 0] rfl)
theorem c_X0_readGoal {G : Gt} {l : Launch} : ∀ (d : Nat) {v0 : Nat} (h0 : kd v0 = 0) {v1 : Nat} (h1 : kd v1 = 5) {v2 : Int32} {v3 : Int32} {σ : St} {r : Int64} {σ' : St} (_ : pf_X0_readGoal d v0 v1 v2 v3 σ = some (r, σ')), Ct G l yX0_readGoal cX0_readGoal 9 (some .long) (hRec 4 3 d) [.ref (gz G + (v0)), .ref (gz G + (v1)), .int (v2), .int (v3)] σ (some (.long r)) σ' := by
  intro d
  induction d with
  | zero => intro v0 h0 v1 h1 v2 v3 σ r σ' hf; cases hf
  | succ d ih =>
    intro v0 h0 v1 h1 v2 v3 σ r σ' hf
    exact c_X0_readGoal_B (hr := hRec 4 3 d) (hRec_le _ _ _) ih h0 h1 hf
set_option maxRecDepth 20000 in
set_option maxHeartbeats 4000000 in
theorem c_J9_min_7cf53 {G : Gt} {l : Launch} {v0 : Int32} {v1 : Int32} {σ : St} {r : Int32} (hf : pf_J9_min_7cf53 v0 v1 σ = some r) : Ct G l yJ9_min_7cf53 cJ9_min_7cf53 2 (some .int) 2 [.int (v0), .int (v1)] σ (some (.int r)) σ := by
  refine met_i (by decide +kernel) (Nat.le_of_ble_eq_true rfl) rfl ?_
  intro p e s m args below meth c Q ls X hW hret hl
  have hx := X.1.1
  have hb := X.1.2.1
  have hl : lv_has ls 2 [(0, .int (v0)), (1, .int (v1))] := hl
  have h := hf
  clear hf
  unfold pf_J9_min_7cf53 at h
  refine lv_iload_n hx hb dJ9_min_7cf53_0 rfl (lv_at hl 0 rfl) ?_
  refine lv_iload_n hx hb dJ9_min_7cf53_1 rfl (lv_at hl 1 rfl) ?_
  refine lv_icmp_gt (tgt := 9) hx hb dJ9_min_7cf53_2 (by decide) (fun hc => ?_) (fun hc => ?_)
  · replace h := if_t hc h
    refine lv_iload_n hx hb dJ9_min_7cf53_9 rfl (lv_at hl 1 rfl) ?_
    exact ri_end0 hret h dJ9_min_7cf53_10 hW
  · replace h := if_f hc h
    refine lv_iload_n hx hb dJ9_min_7cf53_5 rfl (lv_at hl 0 rfl) ?_
    refine lv_goto (tgt := 10) hx hb dJ9_min_7cf53_6 (by decide) ?_
    exact ri_end0 hret h dJ9_min_7cf53_10 hW
set_option maxRecDepth 20000 in
set_option maxHeartbeats 4000000 in
theorem c_X3_copyFrom {G : Gt} {l : Launch} {v0 : Nat} (h0 : kd v0 = 3) {v1 : Nat} (h1 : kd v1 = 3) {σ : St} {σ' : St} (hf : pf_X3_copyFrom v0 v1 σ = some σ') : Ct G l yX3_copyFrom cX3_copyFrom 2 none 2 [.ref (gz G + (v0)), .ref (gz G + (v1))] σ none σ' := by
  refine met_v (by decide +kernel) (Nat.le_of_ble_eq_true rfl) rfl ?_
  intro p e s m args below meth c Q ls X hW hret hl
  have hx := X.1.1
  have hb := X.1.2.1
  have hl : lv_has ls 2 [(0, .ref (gz G + (v0))), (1, .ref (gz G + (v1)))] := hl
  have h := hf
  clear hf
  unfold pf_X3_copyFrom at h
  refine lv_aload_n hx hb dX3_copyFrom_0 rfl (lv_at hl 0 rfl) ?_
  refine lv_aload_n hx hb dX3_copyFrom_1 rfl (lv_at hl 1 rfl) ?_
  refine gf_X3_stepCount X hW h1 m_1_60 dX3_copyFrom_2 ?_
  refine sf_X3_stepCount X hW h0 m_1_60 dX3_copyFrom_5 ?_
  clear hW; intro H locs hW
  refine nm_s hW h ?_
  clear hW h; intro σ_1 hW h
  refine lv_aload_n hx hb dX3_copyFrom_8 rfl (lv_at hl 0 rfl) ?_
  refine lv_aload_n hx hb dX3_copyFrom_9 rfl (lv_at hl 1 rfl) ?_
  refine gf_X3_status X hW h1 m_1_64 dX3_copyFrom_10 ?_
  refine sf_X3_status X hW h0 m_1_64 dX3_copyFrom_13 ?_
  clear hW; intro H locs hW
  refine nm_s hW h ?_
  clear hW h; intro σ_2 hW h
  refine lv_aload_n hx hb dX3_copyFrom_16 rfl (lv_at hl 0 rfl) ?_
  refine lv_aload_n hx hb dX3_copyFrom_17 rfl (lv_at hl 1 rfl) ?_
  refine gf_X3_done X hW h1 m_1_68 dX3_copyFrom_18 ?_
  refine sf_X3_done X hW h0 m_1_68 dX3_copyFrom_21 ?_
  clear hW; intro H locs hW
  refine nm_s hW h ?_
  clear hW h; intro σ_3 hW h
  refine lv_aload_n hx hb dX3_copyFrom_24 rfl (lv_at hl 0 rfl) ?_
  refine lv_aload_n hx hb dX3_copyFrom_25 rfl (lv_at hl 1 rfl) ?_
  refine gf_X3_rewardItem X hW h1 m_1_72 dX3_copyFrom_26 ?_
  refine sf_X3_rewardItem X hW h0 m_1_72 dX3_copyFrom_29 ?_
  clear hW; intro H locs hW
  refine nm_s hW h ?_
  clear hW h; intro σ_4 hW h
  refine lv_aload_n hx hb dX3_copyFrom_32 rfl (lv_at hl 0 rfl) ?_
  refine lv_aload_n hx hb dX3_copyFrom_33 rfl (lv_at hl 1 rfl) ?_
  refine gf_X3_rewardAmount X hW h1 m_1_76 dX3_copyFrom_34 ?_
  refine sf_X3_rewardAmount X hW h0 m_1_76 dX3_copyFrom_37 ?_
  clear hW; intro H locs hW
  refine nm_s hW h ?_
  clear hW h; intro σ_5 hW h
  refine lv_aload_n hx hb dX3_copyFrom_40 rfl (lv_at hl 0 rfl) ?_
  refine lv_aload_n hx hb dX3_copyFrom_41 rfl (lv_at hl 1 rfl) ?_
  refine gf_X3_goal X hW h1 m_1_80 dX3_copyFrom_42 ?_
  refine sf_X3_goal X hW h0 m_1_80 dX3_copyFrom_45 ?_
  clear hW; intro H locs hW
  refine nm_s hW h ?_
  clear hW h; intro σ_6 hW h
  refine lv_aload_n hx hb dX3_copyFrom_48 rfl (lv_at hl 1 rfl) ?_
  refine gf_X3_risk X hW h1 m_1_83 dX3_copyFrom_49 ?_
  refine lv_iconst (v := 0) hx hb dX3_copyFrom_52 (by decide) ?_
  refine lv_aload_n hx hb dX3_copyFrom_53 rfl (lv_at hl 0 rfl) ?_
  refine gf_X3_risk X hW h0 m_1_83 dX3_copyFrom_54 ?_
  refine lv_iconst (v := 0) hx hb dX3_copyFrom_57 (by decide) ?_
  refine lv_bipush (v := 6) hx hb dX3_copyFrom_58 (by decide) ?_
  obtain ⟨hcp, h⟩ := ckC_el h
  refine r_copy X hW (kf_X3_risk h1) (kf_X3_risk h0) hcp m_3_23 dX3_copyFrom_60  (by decide) (Nat.le_of_ble_eq_true rfl) hl.1 ?_
  clear hW; intro H locs hW
  refine nm_s hW h ?_
  clear hW h; intro σ_7 hW h
  refine lv_aload_n hx hb dX3_copyFrom_63 rfl (lv_at hl 1 rfl) ?_
  refine gf_X3_limit X hW h1 m_1_87 dX3_copyFrom_64 ?_
  refine lv_iconst (v := 0) hx hb dX3_copyFrom_67 (by decide) ?_
  refine lv_aload_n hx hb dX3_copyFrom_68 rfl (lv_at hl 0 rfl) ?_
  refine gf_X3_limit X hW h0 m_1_87 dX3_copyFrom_69 ?_
  refine lv_iconst (v := 0) hx hb dX3_copyFrom_72 (by decide) ?_
  refine lv_bipush (v := 6) hx hb dX3_copyFrom_73 (by decide) ?_
  obtain ⟨hcp, h⟩ := ckC_el h
  refine r_copy X hW (kf_X3_limit h1) (kf_X3_limit h0) hcp m_3_23 dX3_copyFrom_75  (by decide) (Nat.le_of_ble_eq_true rfl) hl.1 ?_
  clear hW; intro H locs hW
  refine nm_s hW h ?_
  clear hW h; intro σ_8 hW h
  refine lv_aload_n hx hb dX3_copyFrom_78 rfl (lv_at hl 1 rfl) ?_
  refine gf_X3_fails X hW h1 m_1_90 dX3_copyFrom_79 ?_
  refine lv_iconst (v := 0) hx hb dX3_copyFrom_82 (by decide) ?_
  refine lv_aload_n hx hb dX3_copyFrom_83 rfl (lv_at hl 0 rfl) ?_
  refine gf_X3_fails X hW h0 m_1_90 dX3_copyFrom_84 ?_
  refine lv_iconst (v := 0) hx hb dX3_copyFrom_87 (by decide) ?_
  refine lv_bipush (v := 6) hx hb dX3_copyFrom_88 (by decide) ?_
  obtain ⟨hcp, h⟩ := ckC_el h
  refine r_copy X hW (kf_X3_fails h1) (kf_X3_fails h0) hcp m_3_23 dX3_copyFrom_90  (by decide) (Nat.le_of_ble_eq_true rfl) hl.1 ?_
  clear hW; intro H locs hW
  refine nm_s hW h ?_
  clear hW h; intro σ_9 hW h
  refine lv_aload_n hx hb dX3_copyFrom_93 rfl (lv_at hl 1 rfl) ?_
  refine gf_X3_ahead X hW h1 m_1_93 dX3_copyFrom_94 ?_
  refine lv_iconst (v := 0) hx hb dX3_copyFrom_97 (by decide) ?_
  refine lv_aload_n hx hb dX3_copyFrom_98 rfl (lv_at hl 0 rfl) ?_
  refine gf_X3_ahead X hW h0 m_1_93 dX3_copyFrom_99 ?_
  refine lv_iconst (v := 0) hx hb dX3_copyFrom_102 (by decide) ?_
  refine lv_bipush (v := 6) hx hb dX3_copyFrom_103 (by decide) ?_
  obtain ⟨hcp, h⟩ := ckC_el h
  refine r_copy X hW (kf_X3_ahead h1) (kf_X3_ahead h0) hcp m_3_23 dX3_copyFrom_105  (by decide) (Nat.le_of_ble_eq_true rfl) hl.1 ?_
  clear hW; intro H locs hW
  refine nm_s hW h ?_
  clear hW h; intro σ_10 hW h
  refine lv_aload_n hx hb dX3_copyFrom_108 rfl (lv_at hl 1 rfl) ?_
  refine gf_X3_costly X hW h1 m_1_96 dX3_copyFrom_109 ?_
  refine lv_iconst (v := 0) hx hb dX3_copyFrom_112 (by decide) ?_
  refine lv_aload_n hx hb dX3_copyFrom_113 rfl (lv_at hl 0 rfl) ?_
  refine gf_X3_costly X hW h0 m_1_96 dX3_copyFrom_114 ?_
  refine lv_iconst (v := 0) hx hb dX3_copyFrom_117 (by decide) ?_
  refine lv_bipush (v := 6) hx hb dX3_copyFrom_118 (by decide) ?_
  obtain ⟨hcp, h⟩ := ckC_el h
  refine r_copy X hW (kf_X3_costly h1) (kf_X3_costly h0) hcp m_3_23 dX3_copyFrom_120  (by decide) (Nat.le_of_ble_eq_true rfl) hl.1 ?_
  clear hW; intro H locs hW
  refine nm_s hW h ?_
  clear hW h; intro σ_11 hW h
  refine lv_aload_n hx hb dX3_copyFrom_123 rfl (lv_at hl 1 rfl) ?_
  refine gf_X3_uses X hW h1 m_1_100 dX3_copyFrom_124 ?_
  refine lv_iconst (v := 0) hx hb dX3_copyFrom_127 (by decide) ?_
  refine lv_aload_n hx hb dX3_copyFrom_128 rfl (lv_at hl 0 rfl) ?_
  refine gf_X3_uses X hW h0 m_1_100 dX3_copyFrom_129 ?_
  refine lv_iconst (v := 0) hx hb dX3_copyFrom_132 (by decide) ?_
  refine lv_bipush (v := 48) hx hb dX3_copyFrom_133 (by decide) ?_
  obtain ⟨hcp, h⟩ := ckC_el h
  refine r_copy X hW (kf_X3_uses h1) (kf_X3_uses h0) hcp m_3_23 dX3_copyFrom_135  (by decide) (Nat.le_of_ble_eq_true rfl) hl.1 ?_
  clear hW; intro H locs hW
  refine nm_s hW h ?_
  clear hW h; intro σ_12 hW h
  refine lv_aload_n hx hb dX3_copyFrom_138 rfl (lv_at hl 1 rfl) ?_
  refine gf_X3_needs X hW h1 m_1_104 dX3_copyFrom_139 ?_
  refine lv_iconst (v := 0) hx hb dX3_copyFrom_142 (by decide) ?_
  refine lv_aload_n hx hb dX3_copyFrom_143 rfl (lv_at hl 0 rfl) ?_
  refine gf_X3_needs X hW h0 m_1_104 dX3_copyFrom_144 ?_
  refine lv_iconst (v := 0) hx hb dX3_copyFrom_147 (by decide) ?_
  refine lv_bipush (v := 48) hx hb dX3_copyFrom_148 (by decide) ?_
  obtain ⟨hcp, h⟩ := ckC_el h
  refine r_copy X hW (kf_X3_needs h1) (kf_X3_needs h0) hcp m_3_23 dX3_copyFrom_150  (by decide) (Nat.le_of_ble_eq_true rfl) hl.1 ?_
  clear hW; intro H locs hW
  refine nm_s hW h ?_
  clear hW h; intro σ_13 hW h
  refine lv_aload_n hx hb dX3_copyFrom_153 rfl (lv_at hl 1 rfl) ?_
  refine gf_X3_gives X hW h1 m_1_106 dX3_copyFrom_154 ?_
  refine lv_iconst (v := 0) hx hb dX3_copyFrom_157 (by decide) ?_
  refine lv_aload_n hx hb dX3_copyFrom_158 rfl (lv_at hl 0 rfl) ?_
  refine gf_X3_gives X hW h0 m_1_106 dX3_copyFrom_159 ?_
  refine lv_iconst (v := 0) hx hb dX3_copyFrom_162 (by decide) ?_
  refine lv_bipush (v := 48) hx hb dX3_copyFrom_163 (by decide) ?_
  obtain ⟨hcp, h⟩ := ckC_el h
  refine r_copy X hW (kf_X3_gives h1) (kf_X3_gives h0) hcp m_3_23 dX3_copyFrom_165  (by decide) (Nat.le_of_ble_eq_true rfl) hl.1 ?_
  clear hW; intro H locs hW
  refine nm_s hW h ?_
  clear hW h; intro σ_14 hW h
  exact rv_end hret h dX3_copyFrom_168 hW
end
