section
variable {G : Gt} {p : Program} {l : Launch} {e : Env} {R : Room} {s : State} {m : MethodId} {args : Array Value} {below : List Frame} {meth : Method} {c : Code} {cells slots : Nat} {Q : State → Prop}
set_option maxRecDepth 20000 in
set_option maxHeartbeats 4000000 in
theorem c_X0_putTally {G : Gt} {l : Launch} {v0 : Nat} (h0 : kd v0 = 0) {v1 : Int32} {v2 : Int32} {v3 : Int64} {σ : St} {σ' : St} (hf : pf_X0_putTally v0 v1 v2 v3 σ = some σ') : Ct G l yX0_putTally cX0_putTally 6 none 2 [.ref (gz G + (v0)), .int (v1), .int (v2), .long (v3)] σ none σ' := by
  refine met_v (by decide +kernel) (Nat.le_of_ble_eq_true rfl) rfl ?_
  intro p e s m args below meth c Q ls X hW hret hl
  have hx := X.1.1
  have hb := X.1.2.1
  have hl : lv_has ls 6 [(0, .ref (gz G + (v0))), (1, .int (v1)), (2, .int (v2)), (3, .long (v3))] := hl
  have h := hf
  clear hf
  unfold pf_X0_putTally at h
  refine lv_iload_n hx hb dX0_putTally_0 rfl (lv_at hl 1 rfl) ?_
  refine lv_bipush (v := 7) hx hb dX0_putTally_1 (by decide) ?_
  refine lv_imul hx hb dX0_putTally_3 ?_
  refine lv_iload_n hx hb dX0_putTally_4 rfl (lv_at hl 2 rfl) ?_
  refine lv_iadd hx hb dX0_putTally_5 ?_
  refine nm_i h ?_
  clear h; intro v5_1 h
  refine lv_istore (lv' := [(5, .int (v5_1)), (0, .ref (gz G + (v0))), (1, .int (v1)), (2, .int (v2)), (3, .long (v3))]) hx hb dX0_putTally_6 hl (by decide) rfl ?_
  clear hl; intro ls hl
  refine lv_iload hx hb dX0_putTally_8 (lv_at hl 0 rfl) ?_
  refine lv_if_lt (tgt := 31) hx hb dX0_putTally_10 (by decide) (fun hc => ?_) (fun hc => ?_)
  · replace h := if_t hc h
    exact rv_end hret h dX0_putTally_31 hW
  · replace h := if_f hc h
    refine lv_iload hx hb dX0_putTally_13 (lv_at hl 0 rfl) ?_
    refine lv_aload_n hx hb dX0_putTally_15 rfl (lv_at hl 1 rfl) ?_
    refine gf_X0_atLeast X hW h0 m_1_235 dX0_putTally_16 ?_
    refine r_alen12 X hW (kf_X0_atLeast h0) dX0_putTally_19 ?_
    refine lv_icmp_ge (tgt := 31) hx hb dX0_putTally_20 (by decide) (fun hc => ?_) (fun hc => ?_)
    · replace h := if_t hc h
      exact rv_end hret h dX0_putTally_31 hW
    · replace h := if_f hc h
      refine lv_aload_n hx hb dX0_putTally_23 rfl (lv_at hl 1 rfl) ?_
      refine gf_X0_atLeast X hW h0 m_1_235 dX0_putTally_24 ?_
      refine lv_iload hx hb dX0_putTally_27 (lv_at hl 0 rfl) ?_
      refine lv_lload_n hx hb dX0_putTally_29 rfl (lv_at hl 4 rfl) ?_
      obtain ⟨hi2, h⟩ := ckI_el h
      refine r_last X hW (kf_X0_atLeast h0) hi2 dX0_putTally_30 ?_
      clear hW; intro H locs hW
      refine nm_s hW h ?_
      clear hW h; intro σ_3 hW h
      exact rv_end hret h dX0_putTally_31 hW
set_option maxRecDepth 20000 in
set_option maxHeartbeats 4000000 in
theorem bl_X0_tallied_b29 {σ : St} (X : Cx G p R s m args c cells slots cX0_tallied 4 RX0 2) {r : Int64} (hret : R_L G p l e R s m args below meth c cells slots Q cX0_tallied r σ) :
    ∀ (_ : pf_X0_tallied_b29 σ = some r) (H : Heap) (locs : List Loc) (ls : Array Slot) (_ : GW G σ s H locs) (_ : lv_has ls 4 []), W p l e R s m args below meth c H locs cells slots Q (F0 m 29 ls []) := by
  have hx := X.1.1
  have hb := X.1.2.1
  intro h H locs ls hW hl
  unfold pf_X0_tallied_b29 at h
  refine lv_lconst (v := 0) hx hb dX0_tallied_29 (by decide) ?_
  exact rl_end0 hret h dX0_tallied_30 hW
set_option maxRecDepth 20000 in
set_option maxHeartbeats 4000000 in
theorem c_X0_tallied {G : Gt} {l : Launch} {v0 : Nat} (h0 : kd v0 = 0) {v1 : Int32} {v2 : Int32} {σ : St} {r : Int64} (hf : pf_X0_tallied v0 v1 v2 σ = some r) : Ct G l yX0_tallied cX0_tallied 4 (some .long) 2 [.ref (gz G + (v0)), .int (v1), .int (v2)] σ (some (.long r)) σ := by
  refine met_l (by decide +kernel) (Nat.le_of_ble_eq_true rfl) rfl ?_
  intro p e s m args below meth c Q ls X hW hret hl
  have hx := X.1.1
  have hb := X.1.2.1
  have hl : lv_has ls 4 [(0, .ref (gz G + (v0))), (1, .int (v1)), (2, .int (v2))] := hl
  have h := hf
  clear hf
  unfold pf_X0_tallied at h
  refine lv_iload_n hx hb dX0_tallied_0 rfl (lv_at hl 1 rfl) ?_
  refine lv_bipush (v := 7) hx hb dX0_tallied_1 (by decide) ?_
  refine lv_imul hx hb dX0_tallied_3 ?_
  refine lv_iload_n hx hb dX0_tallied_4 rfl (lv_at hl 2 rfl) ?_
  refine lv_iadd hx hb dX0_tallied_5 ?_
  refine nm_i h ?_
  clear h; intro v3_1 h
  refine lv_istore_n (lv' := [(3, .int (v3_1)), (0, .ref (gz G + (v0))), (1, .int (v1)), (2, .int (v2))]) hx hb dX0_tallied_6 rfl hl (by decide) rfl ?_
  clear hl; intro ls hl
  refine lv_iload_n hx hb dX0_tallied_7 rfl (lv_at hl 0 rfl) ?_
  refine lv_if_lt (tgt := 29) hx hb dX0_tallied_8 (by decide) (fun hc => ?_) (fun hc => ?_)
  · replace h := if_t hc h
    exact bl_X0_tallied_b29 X hret h _ _ _ hW (lv_sub hl [] rfl)
  · replace h := if_f hc h
    refine lv_iload_n hx hb dX0_tallied_11 rfl (lv_at hl 0 rfl) ?_
    refine lv_aload_n hx hb dX0_tallied_12 rfl (lv_at hl 1 rfl) ?_
    refine gf_X0_atLeast X hW h0 m_1_235 dX0_tallied_13 ?_
    refine r_alen12 X hW (kf_X0_atLeast h0) dX0_tallied_16 ?_
    refine lv_icmp_ge (tgt := 29) hx hb dX0_tallied_17 (by decide) (fun hc => ?_) (fun hc => ?_)
    · replace h := if_t hc h
      exact bl_X0_tallied_b29 X hret h _ _ _ hW (lv_sub hl [] rfl)
    · replace h := if_f hc h
      refine lv_aload_n hx hb dX0_tallied_20 rfl (lv_at hl 1 rfl) ?_
      refine gf_X0_atLeast X hW h0 m_1_235 dX0_tallied_21 ?_
      refine lv_iload_n hx hb dX0_tallied_24 rfl (lv_at hl 0 rfl) ?_
      obtain ⟨hi2, h⟩ := ckI_el h
      refine r_lald X hW (kf_X0_atLeast h0) hi2 dX0_tallied_25 ?_
      refine lv_goto (tgt := 30) hx hb dX0_tallied_26 (by decide) ?_
      exact rl_end0 hret h dX0_tallied_30 hW
set_option maxRecDepth 20000 in
set_option maxHeartbeats 4000000 in
theorem bl_X0_tally_L4 (X : Cx G p R s m args c cells slots cX0_tally 5 RX0 3) {σ' : St} (hret : R_V G p l e R s m args below meth c cells slots Q cX0_tally σ') :
    ∀ (n : Nat), ∀ (v0 : Nat) (h0 : kd v0 = 0) (v1 : Int32) (v2 : Int64) (v4 : Int32) (σ : St) (_ : pf_X0_tally_L4 n v0 v1 v2 v4 σ = some σ') (H : Heap) (locs : List Loc) (ls : Array Slot) (_ : GW G σ s H locs) (_ : lv_has ls 5 [(0, .ref (gz G + (v0))), (1, .int (v1)), (2, .long (v2)), (4, .int (v4))]), W p l e R s m args below meth c H locs cells slots Q (F0 m 4 ls []) := by
  have hx := X.1.1
  have hb := X.1.2.1
  intro n
  induction n with
  | zero => intro v0 h0 v1 v2 v4 σ h H locs ls hW hl; cases h
  | succ n ih =>
    intro v0 h0 v1 v2 v4 σ h H locs ls hW hl
    rw [pf_X0_tally_L4.eq_2] at h
    refine lv_iload hx hb dX0_tally_4 (lv_at hl 3 rfl) ?_
    refine lv_if_le (tgt := 41) hx hb dX0_tally_6 (by decide) (fun hc => ?_) (fun hc => ?_)
    · replace h := if_t hc h
      exact rv_end hret h dX0_tally_41 hW
    · replace h := if_f hc h
      refine lv_aload_n hx hb dX0_tally_9 rfl (lv_at hl 0 rfl) ?_
      refine lv_iload_n hx hb dX0_tally_10 rfl (lv_at hl 1 rfl) ?_
      refine lv_iload hx hb dX0_tally_11 (lv_at hl 3 rfl) ?_
      refine lv_aload_n hx hb dX0_tally_13 rfl (lv_at hl 0 rfl) ?_
      refine lv_iload_n hx hb dX0_tally_14 rfl (lv_at hl 1 rfl) ?_
      refine lv_iload hx hb dX0_tally_15 (lv_at hl 3 rfl) ?_
      obtain ⟨r_1, hcl, h⟩ := bind_el h
      refine call_V1 X hW (kC_X0 h0) m_4_209 m_4_211 m_0_35 mv_X0_tallied (c_X0_tallied h0 hcl) (by decide) rfl rfl (Nat.le_of_ble_eq_true rfl) hl.1 dX0_tally_17 ?_
      clear hW hcl; intro H locs hW
      refine lv_aload_n hx hb dX0_tally_20 rfl (lv_at hl 0 rfl) ?_
      refine lv_iload_n hx hb dX0_tally_21 rfl (lv_at hl 1 rfl) ?_
      refine lv_iload hx hb dX0_tally_22 (lv_at hl 3 rfl) ?_
      refine lv_iconst (v := 1) hx hb dX0_tally_24 (by decide) ?_
      refine lv_isub hx hb dX0_tally_25 ?_
      obtain ⟨r_2, hcl, h⟩ := bind_el h
      refine call_V1 X hW (kC_X0 h0) m_4_209 m_4_211 m_0_35 mv_X0_tallied (c_X0_tallied h0 hcl) (by decide) rfl rfl (Nat.le_of_ble_eq_true rfl) hl.1 dX0_tally_26 ?_
      clear hW hcl; intro H locs hW
      refine lv_lload_n hx hb dX0_tally_29 rfl (lv_at hl 2 rfl) ?_
      refine lv_land hx hb dX0_tally_30 ?_
      refine lv_lor hx hb dX0_tally_31 ?_
      obtain ⟨σ_3, hcl, h⟩ := bind_el h
      refine call_V0 X hW (kC_X0 h0) m_4_200 m_4_202 m_0_33 mv_X0_putTally (c_X0_putTally h0 hcl) (by decide) rfl rfl (Nat.le_of_ble_eq_true rfl) hl.1 dX0_tally_32 ?_
      clear hW hcl; intro H locs hW
      refine w_iinc (v := (-1)) (lv' := fun y => [(4, .int (y)), (0, .ref (gz G + (v0))), (1, .int (v1)), (2, .long (v2))]) hx hb dX0_tally_35 hl (k := 3) rfl (by decide) (by decide) (fun _ => rfl) h ?_
      clear h hl; intro v4_4 h ls hl
      refine lv_goto (tgt := 4) hx hb dX0_tally_38 (by decide) ?_
      exact ih v0 h0 v1 v2 v4_4 σ_3 h _ _ _ hW (lv_sub hl [1, 2, 3, 0] rfl)
set_option maxRecDepth 20000 in
set_option maxHeartbeats 4000000 in
theorem c_X0_tally {G : Gt} {l : Launch} {v0 : Nat} (h0 : kd v0 = 0) {v1 : Int32} {v2 : Int64} {σ : St} {σ' : St} (hf : pf_X0_tally v0 v1 v2 σ = some σ') : Ct G l yX0_tally cX0_tally 5 none 3 [.ref (gz G + (v0)), .int (v1), .long (v2)] σ none σ' := by
  refine met_v (by decide +kernel) (Nat.le_of_ble_eq_true rfl) rfl ?_
  intro p e s m args below meth c Q ls X hW hret hl
  have hx := X.1.1
  have hb := X.1.2.1
  have hl : lv_has ls 5 [(0, .ref (gz G + (v0))), (1, .int (v1)), (2, .long (v2))] := hl
  have h := hf
  clear hf
  unfold pf_X0_tally at h
  refine lv_bipush (v := 6) hx hb dX0_tally_0 (by decide) ?_
  refine lv_istore (lv' := [(4, .int (6)), (0, .ref (gz G + (v0))), (1, .int (v1)), (2, .long (v2))]) hx hb dX0_tally_2 hl (by decide) rfl ?_
  clear hl; intro ls hl
  exact bl_X0_tally_L4 X hret FU v0 h0 v1 v2 6 σ h _ _ _ hW (lv_sub hl [1, 2, 3, 0] rfl)
set_option maxRecDepth 20000 in
set_option maxHeartbeats 4000000 in
theorem c_J9_min_7cf53 {G : Gt} {l : Launch} {v0 : Int32} {v1 : Int32} {σ : St} {r : Int32} (hf : pf_J9_min_7cf53 v0 v1 σ = some r) : Ct G l yJ9_min_7cf53 cJ9_min_7cf53 2 (some .int) 2 [.int (v0), .int (v1)] σ (some (.int r)) σ := by
  refine met_i (by decide +kernel) (Nat.le_of_ble_eq_true rfl) rfl ?_
  intro p e s m args below meth c Q ls X hW hret hl
  have hx := X.1.1
  have hb := X.1.2.1
  have hl : lv_has ls 2 [(0, .int (v0)), (1, .int (v1))] := hl
  have h := hf
  clear hf
  unfold pf_J9_min_7cf53 at h
  refine lv_iload_n hx hb dJ9_min_7cf53_0 rfl (lv_at hl 0 rfl) ?_
  refine lv_iload_n hx hb dJ9_min_7cf53_1 rfl (lv_at hl 1 rfl) ?_
  refine lv_icmp_gt (tgt := 9) hx hb dJ9_min_7cf53_2 (by decide) (fun hc => ?_) (fun hc => ?_)
  · replace h := if_t hc h
    refine lv_iload_n hx hb dJ9_min_7cf53_9 rfl (lv_at hl 1 rfl) ?_
    exact ri_end0 hret h dJ9_min_7cf53_10 hW
  · replace h := if_f hc h
    refine lv_iload_n hx hb dJ9_min_7cf53_5 rfl (lv_at hl 0 rfl) ?_
    refine lv_goto (tgt := 10) hx hb dJ9_min_7cf53_6 (by decide) ?_
    exact ri_end0 hret h dJ9_min_7cf53_10 hW
set_option maxRecDepth 20000 in
set_option maxHeartbeats 4000000 in
theorem c_X3_copyFrom {G : Gt} {l : Launch} {v0 : Nat} (h0 : kd v0 = 3) {v1 : Nat} (h1 : kd v1 = 3) {σ : St} {σ' : St} (hf : pf_X3_copyFrom v0 v1 σ = some σ') : Ct G l yX3_copyFrom cX3_copyFrom 2 none 2 [.ref (gz G + (v0)), .ref (gz G + (v1))] σ none σ' := by
  refine met_v (by decide +kernel) (Nat.le_of_ble_eq_true rfl) rfl ?_
  intro p e s m args below meth c Q ls X hW hret hl
  have hx := X.1.1
  have hb := X.1.2.1
  have hl : lv_has ls 2 [(0, .ref (gz G + (v0))), (1, .ref (gz G + (v1)))] := hl
  have h := hf
  clear hf
  unfold pf_X3_copyFrom at h
  refine lv_aload_n hx hb dX3_copyFrom_0 rfl (lv_at hl 0 rfl) ?_
  refine lv_aload_n hx hb dX3_copyFrom_1 rfl (lv_at hl 1 rfl) ?_
  refine gf_X3_stepCount X hW h1 m_1_51 dX3_copyFrom_2 ?_
  refine sf_X3_stepCount X hW h0 m_1_51 dX3_copyFrom_5 ?_
  clear hW; intro H locs hW
  refine nm_s hW h ?_
  clear hW h; intro σ_1 hW h
  refine lv_aload_n hx hb dX3_copyFrom_8 rfl (lv_at hl 0 rfl) ?_
  refine lv_aload_n hx hb dX3_copyFrom_9 rfl (lv_at hl 1 rfl) ?_
  refine gf_X3_status X hW h1 m_1_55 dX3_copyFrom_10 ?_
  refine sf_X3_status X hW h0 m_1_55 dX3_copyFrom_13 ?_
  clear hW; intro H locs hW
  refine nm_s hW h ?_
  clear hW h; intro σ_2 hW h
  refine lv_aload_n hx hb dX3_copyFrom_16 rfl (lv_at hl 0 rfl) ?_
  refine lv_aload_n hx hb dX3_copyFrom_17 rfl (lv_at hl 1 rfl) ?_
  refine gf_X3_done X hW h1 m_1_59 dX3_copyFrom_18 ?_
  refine sf_X3_done X hW h0 m_1_59 dX3_copyFrom_21 ?_
  clear hW; intro H locs hW
  refine nm_s hW h ?_
  clear hW h; intro σ_3 hW h
  refine lv_aload_n hx hb dX3_copyFrom_24 rfl (lv_at hl 0 rfl) ?_
  refine lv_aload_n hx hb dX3_copyFrom_25 rfl (lv_at hl 1 rfl) ?_
  refine gf_X3_rewardItem X hW h1 m_1_63 dX3_copyFrom_26 ?_
  refine sf_X3_rewardItem X hW h0 m_1_63 dX3_copyFrom_29 ?_
  clear hW; intro H locs hW
  refine nm_s hW h ?_
  clear hW h; intro σ_4 hW h
  refine lv_aload_n hx hb dX3_copyFrom_32 rfl (lv_at hl 0 rfl) ?_
  refine lv_aload_n hx hb dX3_copyFrom_33 rfl (lv_at hl 1 rfl) ?_
  refine gf_X3_rewardAmount X hW h1 m_1_67 dX3_copyFrom_34 ?_
  refine sf_X3_rewardAmount X hW h0 m_1_67 dX3_copyFrom_37 ?_
  clear hW; intro H locs hW
  refine nm_s hW h ?_
  clear hW h; intro σ_5 hW h
  refine lv_aload_n hx hb dX3_copyFrom_40 rfl (lv_at hl 0 rfl) ?_
  refine lv_aload_n hx hb dX3_copyFrom_41 rfl (lv_at hl 1 rfl) ?_
  refine gf_X3_goal X hW h1 m_1_71 dX3_copyFrom_42 ?_
  refine sf_X3_goal X hW h0 m_1_71 dX3_copyFrom_45 ?_
  clear hW; intro H locs hW
  refine nm_s hW h ?_
  clear hW h; intro σ_6 hW h
  refine lv_aload_n hx hb dX3_copyFrom_48 rfl (lv_at hl 1 rfl) ?_
  refine gf_X3_risk X hW h1 m_1_74 dX3_copyFrom_49 ?_
  refine lv_iconst (v := 0) hx hb dX3_copyFrom_52 (by decide) ?_
  refine lv_aload_n hx hb dX3_copyFrom_53 rfl (lv_at hl 0 rfl) ?_
  refine gf_X3_risk X hW h0 m_1_74 dX3_copyFrom_54 ?_
  refine lv_iconst (v := 0) hx hb dX3_copyFrom_57 (by decide) ?_
  refine lv_bipush (v := 6) hx hb dX3_copyFrom_58 (by decide) ?_
  obtain ⟨hcp, h⟩ := ckC_el h
  refine r_copy X hW (kf_X3_risk h1) (kf_X3_risk h0) hcp m_2_119 dX3_copyFrom_60  (by decide) (Nat.le_of_ble_eq_true rfl) hl.1 ?_
  clear hW; intro H locs hW
  refine nm_s hW h ?_
  clear hW h; intro σ_7 hW h
  refine lv_aload_n hx hb dX3_copyFrom_63 rfl (lv_at hl 1 rfl) ?_
  refine gf_X3_limit X hW h1 m_1_78 dX3_copyFrom_64 ?_
  refine lv_iconst (v := 0) hx hb dX3_copyFrom_67 (by decide) ?_
  refine lv_aload_n hx hb dX3_copyFrom_68 rfl (lv_at hl 0 rfl) ?_
  refine gf_X3_limit X hW h0 m_1_78 dX3_copyFrom_69 ?_
  refine lv_iconst (v := 0) hx hb dX3_copyFrom_72 (by decide) ?_
  refine lv_bipush (v := 6) hx hb dX3_copyFrom_73 (by decide) ?_
  obtain ⟨hcp, h⟩ := ckC_el h
  refine r_copy X hW (kf_X3_limit h1) (kf_X3_limit h0) hcp m_2_119 dX3_copyFrom_75  (by decide) (Nat.le_of_ble_eq_true rfl) hl.1 ?_
  clear hW; intro H locs hW
  refine nm_s hW h ?_
  clear hW h; intro σ_8 hW h
  refine lv_aload_n hx hb dX3_copyFrom_78 rfl (lv_at hl 1 rfl) ?_
  refine gf_X3_fails X hW h1 m_1_81 dX3_copyFrom_79 ?_
  refine lv_iconst (v := 0) hx hb dX3_copyFrom_82 (by decide) ?_
  refine lv_aload_n hx hb dX3_copyFrom_83 rfl (lv_at hl 0 rfl) ?_
  refine gf_X3_fails X hW h0 m_1_81 dX3_copyFrom_84 ?_
  refine lv_iconst (v := 0) hx hb dX3_copyFrom_87 (by decide) ?_
  refine lv_bipush (v := 6) hx hb dX3_copyFrom_88 (by decide) ?_
  obtain ⟨hcp, h⟩ := ckC_el h
  refine r_copy X hW (kf_X3_fails h1) (kf_X3_fails h0) hcp m_2_119 dX3_copyFrom_90  (by decide) (Nat.le_of_ble_eq_true rfl) hl.1 ?_
  clear hW; intro H locs hW
  refine nm_s hW h ?_
  clear hW h; intro σ_9 hW h
  refine lv_aload_n hx hb dX3_copyFrom_93 rfl (lv_at hl 1 rfl) ?_
  refine gf_X3_ahead X hW h1 m_1_84 dX3_copyFrom_94 ?_
  refine lv_iconst (v := 0) hx hb dX3_copyFrom_97 (by decide) ?_
  refine lv_aload_n hx hb dX3_copyFrom_98 rfl (lv_at hl 0 rfl) ?_
  refine gf_X3_ahead X hW h0 m_1_84 dX3_copyFrom_99 ?_
  refine lv_iconst (v := 0) hx hb dX3_copyFrom_102 (by decide) ?_
  refine lv_bipush (v := 6) hx hb dX3_copyFrom_103 (by decide) ?_
  obtain ⟨hcp, h⟩ := ckC_el h
  refine r_copy X hW (kf_X3_ahead h1) (kf_X3_ahead h0) hcp m_2_119 dX3_copyFrom_105  (by decide) (Nat.le_of_ble_eq_true rfl) hl.1 ?_
  clear hW; intro H locs hW
  refine nm_s hW h ?_
  clear hW h; intro σ_10 hW h
  refine lv_aload_n hx hb dX3_copyFrom_108 rfl (lv_at hl 1 rfl) ?_
  refine gf_X3_costly X hW h1 m_1_87 dX3_copyFrom_109 ?_
  refine lv_iconst (v := 0) hx hb dX3_copyFrom_112 (by decide) ?_
  refine lv_aload_n hx hb dX3_copyFrom_113 rfl (lv_at hl 0 rfl) ?_
  refine gf_X3_costly X hW h0 m_1_87 dX3_copyFrom_114 ?_
  refine lv_iconst (v := 0) hx hb dX3_copyFrom_117 (by decide) ?_
  refine lv_bipush (v := 6) hx hb dX3_copyFrom_118 (by decide) ?_
  obtain ⟨hcp, h⟩ := ckC_el h
  refine r_copy X hW (kf_X3_costly h1) (kf_X3_costly h0) hcp m_2_119 dX3_copyFrom_120  (by decide) (Nat.le_of_ble_eq_true rfl) hl.1 ?_
  clear hW; intro H locs hW
  refine nm_s hW h ?_
  clear hW h; intro σ_11 hW h
  refine lv_aload_n hx hb dX3_copyFrom_123 rfl (lv_at hl 1 rfl) ?_
  refine gf_X3_uses X hW h1 m_1_91 dX3_copyFrom_124 ?_
  refine lv_iconst (v := 0) hx hb dX3_copyFrom_127 (by decide) ?_
  refine lv_aload_n hx hb dX3_copyFrom_128 rfl (lv_at hl 0 rfl) ?_
  refine gf_X3_uses X hW h0 m_1_91 dX3_copyFrom_129 ?_
  refine lv_iconst (v := 0) hx hb dX3_copyFrom_132 (by decide) ?_
  refine lv_bipush (v := 48) hx hb dX3_copyFrom_133 (by decide) ?_
  obtain ⟨hcp, h⟩ := ckC_el h
  refine r_copy X hW (kf_X3_uses h1) (kf_X3_uses h0) hcp m_2_119 dX3_copyFrom_135  (by decide) (Nat.le_of_ble_eq_true rfl) hl.1 ?_
  clear hW; intro H locs hW
  refine nm_s hW h ?_
  clear hW h; intro σ_12 hW h
  refine lv_aload_n hx hb dX3_copyFrom_138 rfl (lv_at hl 1 rfl) ?_
  refine gf_X3_needs X hW h1 m_1_96 dX3_copyFrom_139 ?_
  refine lv_iconst (v := 0) hx hb dX3_copyFrom_142 (by decide) ?_
  refine lv_aload_n hx hb dX3_copyFrom_143 rfl (lv_at hl 0 rfl) ?_
  refine gf_X3_needs X hW h0 m_1_96 dX3_copyFrom_144 ?_
  refine lv_iconst (v := 0) hx hb dX3_copyFrom_147 (by decide) ?_
  refine lv_bipush (v := 48) hx hb dX3_copyFrom_148 (by decide) ?_
  obtain ⟨hcp, h⟩ := ckC_el h
  refine r_copy X hW (kf_X3_needs h1) (kf_X3_needs h0) hcp m_2_119 dX3_copyFrom_150  (by decide) (Nat.le_of_ble_eq_true rfl) hl.1 ?_
  clear hW; intro H locs hW
  refine nm_s hW h ?_
  clear hW h; intro σ_13 hW h
  refine lv_aload_n hx hb dX3_copyFrom_153 rfl (lv_at hl 1 rfl) ?_
  refine gf_X3_gives X hW h1 m_1_99 dX3_copyFrom_154 ?_
  refine lv_iconst (v := 0) hx hb dX3_copyFrom_157 (by decide) ?_
  refine lv_aload_n hx hb dX3_copyFrom_158 rfl (lv_at hl 0 rfl) ?_
  refine gf_X3_gives X hW h0 m_1_99 dX3_copyFrom_159 ?_
  refine lv_iconst (v := 0) hx hb dX3_copyFrom_162 (by decide) ?_
  refine lv_bipush (v := 48) hx hb dX3_copyFrom_163 (by decide) ?_
  obtain ⟨hcp, h⟩ := ckC_el h
  refine r_copy X hW (kf_X3_gives h1) (kf_X3_gives h0) hcp m_2_119 dX3_copyFrom_165  (by decide) (Nat.le_of_ble_eq_true rfl) hl.1 ?_
  clear hW; intro H locs hW
  refine nm_s hW h ?_
  clear hW h; intro σ_14 hW h
  exact rv_end hret h dX3_copyFrom_168 hW
set_option maxRecDepth 20000 in
set_option maxHeartbeats 4000000 in
theorem bl_X2_copyFrom_L101 (X : Cx G p R s m args c cells slots cX2_copyFrom 3 RX2 3) {σ' : St} (hret : R_V G p l e R s m args below meth c cells slots Q cX2_copyFrom σ') :
    ∀ (n : Nat), ∀ (v0 : Nat) (h0 : kd v0 = 2) (v1 : Nat) (h1 : kd v1 = 2) (v2 : Int32) (σ : St) (_ : pf_X2_copyFrom_L101 n v0 v1 v2 σ = some σ') (H : Heap) (locs : List Loc) (ls : Array Slot) (_ : GW G σ s H locs) (_ : lv_has ls 3 [(0, .ref (gz G + (v0))), (1, .ref (gz G + (v1))), (2, .int (v2))]), W p l e R s m args below meth c H locs cells slots Q (F0 m 101 ls []) := by
  have hx := X.1.1
  have hb := X.1.2.1
  intro n
  induction n with
  | zero => intro v0 h0 v1 h1 v2 σ h H locs ls hW hl; cases h
  | succ n ih =>
    intro v0 h0 v1 h1 v2 σ h H locs ls hW hl
    rw [pf_X2_copyFrom_L101.eq_2] at h
    refine lv_iload_n hx hb dX2_copyFrom_101 rfl (lv_at hl 2 rfl) ?_
    refine lv_aload_n hx hb dX2_copyFrom_102 rfl (lv_at hl 0 rfl) ?_
    refine gf_X2_worthLength X hW h0 m_1_151 dX2_copyFrom_103 ?_
    refine lv_icmp_ge (tgt := 134) hx hb dX2_copyFrom_106 (by decide) (fun hc => ?_) (fun hc => ?_)
    · replace h := if_t hc h
      exact rv_end hret h dX2_copyFrom_134 hW
    · replace h := if_f hc h
      refine lv_iload_n hx hb dX2_copyFrom_109 rfl (lv_at hl 2 rfl) ?_
      refine lv_sipush (v := 800) hx hb dX2_copyFrom_110 (by decide) ?_
      refine lv_icmp_ge (tgt := 134) hx hb dX2_copyFrom_113 (by decide) (fun hc => ?_) (fun hc => ?_)
      · replace h := if_t hc h
        exact rv_end hret h dX2_copyFrom_134 hW
      · replace h := if_f hc h
        refine lv_aload_n hx hb dX2_copyFrom_116 rfl (lv_at hl 0 rfl) ?_
        refine gf_X2_worthCode X hW h0 m_1_149 dX2_copyFrom_117 ?_
        refine lv_iload_n hx hb dX2_copyFrom_120 rfl (lv_at hl 2 rfl) ?_
        refine lv_aload_n hx hb dX2_copyFrom_121 rfl (lv_at hl 1 rfl) ?_
        refine gf_X2_worthCode X hW h1 m_1_149 dX2_copyFrom_122 ?_
        refine lv_iload_n hx hb dX2_copyFrom_125 rfl (lv_at hl 2 rfl) ?_
        obtain ⟨hi1, h⟩ := ckI_el h
        refine r_iald X hW (kf_X2_worthCode h1) hi1 dX2_copyFrom_126 ?_
        obtain ⟨hi2, h⟩ := ckI_el h
        refine r_iast X hW (kf_X2_worthCode h0) hi2 dX2_copyFrom_127 ?_
        clear hW; intro H locs hW
        refine nm_s hW h ?_
        clear hW h; intro σ_3 hW h
        refine w_iinc (v := 1) (lv' := fun y => [(2, .int (y)), (0, .ref (gz G + (v0))), (1, .ref (gz G + (v1)))]) hx hb dX2_copyFrom_128 hl (k := 2) rfl (by decide) (by decide) (fun _ => rfl) h ?_
        clear h hl; intro v2_4 h ls hl
        refine lv_goto (tgt := 101) hx hb dX2_copyFrom_131 (by decide) ?_
        exact ih v0 h0 v1 h1 v2_4 σ_3 h _ _ _ hW (lv_sub hl [1, 2, 0] rfl)
set_option maxRecDepth 20000 in
set_option maxHeartbeats 4000000 in
theorem bl_X2_copyFrom_b91 (X : Cx G p R s m args c cells slots cX2_copyFrom 3 RX2 3) {σ' : St} (hret : R_V G p l e R s m args below meth c cells slots Q cX2_copyFrom σ') :
    ∀ (v0 : Nat) (h0 : kd v0 = 2) (v1 : Nat) (h1 : kd v1 = 2) (σ : St) (_ : pf_X2_copyFrom_b91 v0 v1 σ = some σ') (H : Heap) (locs : List Loc) (ls : Array Slot) (_ : GW G σ s H locs) (_ : lv_has ls 3 [(0, .ref (gz G + (v0))), (1, .ref (gz G + (v1)))]), W p l e R s m args below meth c H locs cells slots Q (F0 m 91 ls []) := by
  have hx := X.1.1
  have hb := X.1.2.1
  intro v0 h0 v1 h1 σ h H locs ls hW hl
  unfold pf_X2_copyFrom_b91 at h
  refine lv_aload_n hx hb dX2_copyFrom_91 rfl (lv_at hl 0 rfl) ?_
  refine lv_aload_n hx hb dX2_copyFrom_92 rfl (lv_at hl 1 rfl) ?_
  refine gf_X2_worthLength X hW h1 m_1_151 dX2_copyFrom_93 ?_
  refine sf_X2_worthLength X hW h0 m_1_151 dX2_copyFrom_96 ?_
  clear hW; intro H locs hW
  refine nm_s hW h ?_
  clear hW h; intro σ_1 hW h
  refine lv_iconst (v := 0) hx hb dX2_copyFrom_99 (by decide) ?_
  refine lv_istore_n (lv' := [(2, .int (0)), (0, .ref (gz G + (v0))), (1, .ref (gz G + (v1)))]) hx hb dX2_copyFrom_100 rfl hl (by decide) rfl ?_
  clear hl; intro ls hl
  exact bl_X2_copyFrom_L101 X hret FU v0 h0 v1 h1 0 σ_1 h _ _ _ hW (lv_sub hl [1, 2, 0] rfl)
set_option maxRecDepth 20000 in
set_option maxHeartbeats 4000000 in
theorem bl_X2_copyFrom_L56 (X : Cx G p R s m args c cells slots cX2_copyFrom 3 RX2 3) {σ' : St} (hret : R_V G p l e R s m args below meth c cells slots Q cX2_copyFrom σ') {k91 : Nat → Nat → St → (Option St)}
    (hk91 : ∀ (v0 : Nat) (h0 : kd v0 = 2) (v1 : Nat) (h1 : kd v1 = 2) (σ : St) (_ : k91 v0 v1 σ = some σ') (H : Heap) (locs : List Loc) (ls : Array Slot) (_ : GW G σ s H locs) (_ : lv_has ls 3 [(0, .ref (gz G + (v0))), (1, .ref (gz G + (v1)))]), W p l e R s m args below meth c H locs cells slots Q (F0 m 91 ls [])) :
    ∀ (n : Nat), ∀ (v0 : Nat) (h0 : kd v0 = 2) (v1 : Nat) (h1 : kd v1 = 2) (v2 : Int32) (σ : St) (_ : pf_X2_copyFrom_L56 k91 n v0 v1 v2 σ = some σ') (H : Heap) (locs : List Loc) (ls : Array Slot) (_ : GW G σ s H locs) (_ : lv_has ls 3 [(0, .ref (gz G + (v0))), (1, .ref (gz G + (v1))), (2, .int (v2))]), W p l e R s m args below meth c H locs cells slots Q (F0 m 56 ls []) := by
  have hx := X.1.1
  have hb := X.1.2.1
  intro n
  induction n with
  | zero => intro v0 h0 v1 h1 v2 σ h H locs ls hW hl; cases h
  | succ n ih =>
    intro v0 h0 v1 h1 v2 σ h H locs ls hW hl
    rw [pf_X2_copyFrom_L56.eq_2] at h
    refine lv_iload_n hx hb dX2_copyFrom_56 rfl (lv_at hl 2 rfl) ?_
    refine lv_aload_n hx hb dX2_copyFrom_57 rfl (lv_at hl 0 rfl) ?_
    refine gf_X2_questCount X hW h0 m_1_146 dX2_copyFrom_58 ?_
    refine lv_icmp_ge (tgt := 91) hx hb dX2_copyFrom_61 (by decide) (fun hc => ?_) (fun hc => ?_)
    · replace h := if_t hc h
      exact hk91 v0 h0 v1 h1 σ h _ _ _ hW (lv_sub hl [0, 1] rfl)
    · replace h := if_f hc h
      refine lv_iload_n hx hb dX2_copyFrom_64 rfl (lv_at hl 2 rfl) ?_
      refine lv_bipush (v := 6) hx hb dX2_copyFrom_65 (by decide) ?_
      refine lv_icmp_ge (tgt := 91) hx hb dX2_copyFrom_67 (by decide) (fun hc => ?_) (fun hc => ?_)
      · replace h := if_t hc h
        exact hk91 v0 h0 v1 h1 σ h _ _ _ hW (lv_sub hl [0, 1] rfl)
      · replace h := if_f hc h
        refine lv_aload_n hx hb dX2_copyFrom_70 rfl (lv_at hl 0 rfl) ?_
        refine gf_X2_quests X hW h0 m_1_143 dX2_copyFrom_71 ?_
        refine lv_iload_n hx hb dX2_copyFrom_74 rfl (lv_at hl 2 rfl) ?_
        obtain ⟨hi1, h⟩ := ckI_el h
        refine r_qald X hW (kf_X2_quests h0) hi1 dX2_copyFrom_75 ?_
        refine lv_aload_n hx hb dX2_copyFrom_76 rfl (lv_at hl 1 rfl) ?_
        refine gf_X2_quests X hW h1 m_1_143 dX2_copyFrom_77 ?_
        refine lv_iload_n hx hb dX2_copyFrom_80 rfl (lv_at hl 2 rfl) ?_
        obtain ⟨hi2, h⟩ := ckI_el h
        refine r_qald X hW (kf_X2_quests h1) hi2 dX2_copyFrom_81 ?_
        obtain ⟨σ_3, hcl, h⟩ := bind_el h
        refine call_V0 X hW (kC_X3 (kq_16 (kf_X2_quests h0) (vp_lt hi1))) m_2_115 m_2_116 m_2_117 mv_X3_copyFrom (c_X3_copyFrom (kq_16 (kf_X2_quests h0) (vp_lt hi1)) (kq_16 (kf_X2_quests h1) (vp_lt hi2)) hcl) (by decide) rfl rfl (Nat.le_of_ble_eq_true rfl) hl.1 dX2_copyFrom_82 ?_
        clear hW hcl; intro H locs hW
        refine w_iinc (v := 1) (lv' := fun y => [(2, .int (y)), (0, .ref (gz G + (v0))), (1, .ref (gz G + (v1)))]) hx hb dX2_copyFrom_85 hl (k := 2) rfl (by decide) (by decide) (fun _ => rfl) h ?_
        clear h hl; intro v2_4 h ls hl
        refine lv_goto (tgt := 56) hx hb dX2_copyFrom_88 (by decide) ?_
        exact ih v0 h0 v1 h1 v2_4 σ_3 h _ _ _ hW (lv_sub hl [1, 2, 0] rfl)
set_option maxRecDepth 20000 in
set_option maxHeartbeats 4000000 in
theorem c_X2_copyFrom {G : Gt} {l : Launch} {v0 : Nat} (h0 : kd v0 = 2) {v1 : Nat} (h1 : kd v1 = 2) {σ : St} {σ' : St} (hf : pf_X2_copyFrom v0 v1 σ = some σ') : Ct G l yX2_copyFrom cX2_copyFrom 3 none 3 [.ref (gz G + (v0)), .ref (gz G + (v1))] σ none σ' := by
  refine met_v (by decide +kernel) (Nat.le_of_ble_eq_true rfl) rfl ?_
  intro p e s m args below meth c Q ls X hW hret hl
  have hx := X.1.1
  have hb := X.1.2.1
  have hl : lv_has ls 3 [(0, .ref (gz G + (v0))), (1, .ref (gz G + (v1)))] := hl
  have h := hf
  clear hf
  unfold pf_X2_copyFrom at h
  refine lv_aload_n hx hb dX2_copyFrom_0 rfl (lv_at hl 1 rfl) ?_
  refine gf_X2_stock X hW h1 m_1_134 dX2_copyFrom_1 ?_
  refine lv_iconst (v := 0) hx hb dX2_copyFrom_4 (by decide) ?_
  refine lv_aload_n hx hb dX2_copyFrom_5 rfl (lv_at hl 0 rfl) ?_
  refine gf_X2_stock X hW h0 m_1_134 dX2_copyFrom_6 ?_
  refine lv_iconst (v := 0) hx hb dX2_copyFrom_9 (by decide) ?_
  refine lv_bipush (v := 8) hx hb dX2_copyFrom_10 (by decide) ?_
  obtain ⟨hcp, h⟩ := ckC_el h
  refine r_copy X hW (kf_X2_stock h1) (kf_X2_stock h0) hcp m_2_112 dX2_copyFrom_12  (by decide) (Nat.le_of_ble_eq_true rfl) hl.1 ?_
  clear hW; intro H locs hW
  refine nm_s hW h ?_
  clear hW h; intro σ_1 hW h
  refine lv_aload_n hx hb dX2_copyFrom_15 rfl (lv_at hl 1 rfl) ?_
  refine gf_X2_queue X hW h1 m_1_137 dX2_copyFrom_16 ?_
  refine lv_iconst (v := 0) hx hb dX2_copyFrom_19 (by decide) ?_
  refine lv_aload_n hx hb dX2_copyFrom_20 rfl (lv_at hl 0 rfl) ?_
  refine gf_X2_queue X hW h0 m_1_137 dX2_copyFrom_21 ?_
  refine lv_iconst (v := 0) hx hb dX2_copyFrom_24 (by decide) ?_
  refine lv_bipush (v := 40) hx hb dX2_copyFrom_25 (by decide) ?_
  obtain ⟨hcp, h⟩ := ckC_el h
  refine r_copy X hW (kf_X2_queue h1) (kf_X2_queue h0) hcp m_2_112 dX2_copyFrom_27  (by decide) (Nat.le_of_ble_eq_true rfl) hl.1 ?_
  clear hW; intro H locs hW
  refine nm_s hW h ?_
  clear hW h; intro σ_2 hW h
  refine lv_aload_n hx hb dX2_copyFrom_30 rfl (lv_at hl 0 rfl) ?_
  refine lv_aload_n hx hb dX2_copyFrom_31 rfl (lv_at hl 1 rfl) ?_
  refine gf_X2_queueLength X hW h1 m_1_138 dX2_copyFrom_32 ?_
  refine sf_X2_queueLength X hW h0 m_1_138 dX2_copyFrom_35 ?_
  clear hW; intro H locs hW
  refine nm_s hW h ?_
  clear hW h; intro σ_3 hW h
  refine lv_aload_n hx hb dX2_copyFrom_38 rfl (lv_at hl 0 rfl) ?_
  refine lv_aload_n hx hb dX2_copyFrom_39 rfl (lv_at hl 1 rfl) ?_
  refine gf_X2_seed X hW h1 m_1_140 dX2_copyFrom_40 ?_
  refine sf_X2_seed X hW h0 m_1_140 dX2_copyFrom_43 ?_
  clear hW; intro H locs hW
  refine nm_s hW h ?_
  clear hW h; intro σ_4 hW h
  refine lv_aload_n hx hb dX2_copyFrom_46 rfl (lv_at hl 0 rfl) ?_
  refine lv_aload_n hx hb dX2_copyFrom_47 rfl (lv_at hl 1 rfl) ?_
  refine gf_X2_questCount X hW h1 m_1_146 dX2_copyFrom_48 ?_
  refine sf_X2_questCount X hW h0 m_1_146 dX2_copyFrom_51 ?_
  clear hW; intro H locs hW
  refine nm_s hW h ?_
  clear hW h; intro σ_5 hW h
  refine lv_iconst (v := 0) hx hb dX2_copyFrom_54 (by decide) ?_
  refine lv_istore_n (lv' := [(2, .int (0)), (0, .ref (gz G + (v0))), (1, .ref (gz G + (v1)))]) hx hb dX2_copyFrom_55 rfl hl (by decide) rfl ?_
  clear hl; intro ls hl
  exact bl_X2_copyFrom_L56 X hret (bl_X2_copyFrom_b91 X hret) FU v0 h0 v1 h1 0 σ_5 h _ _ _ hW (lv_sub hl [1, 2, 0] rfl)
set_option maxRecDepth 20000 in
set_option maxHeartbeats 4000000 in
theorem bl_X1_remember_b29 (X : Cx G p R s m args c cells slots cX1_remember 2 RX1 4) {σ' : St} (hret : R_V G p l e R s m args below meth c cells slots Q cX1_remember σ') :
    ∀ (v0 : Nat) (h0 : kd v0 = 1) (σ : St) (_ : pf_X1_remember_b29 v0 σ = some σ') (H : Heap) (locs : List Loc) (ls : Array Slot) (_ : GW G σ s H locs) (_ : lv_has ls 2 [(0, .ref (gz G + (v0)))]), W p l e R s m args below meth c H locs cells slots Q (F0 m 29 ls []) := by
  have hx := X.1.1
  have hb := X.1.2.1
  intro v0 h0 σ h H locs ls hW hl
  unfold pf_X1_remember_b29 at h
  refine lv_aload_n hx hb dX1_remember_29 rfl (lv_at hl 0 rfl) ?_
  refine lv_aload_n hx hb dX1_remember_30 rfl (lv_at hl 0 rfl) ?_
  refine gf_X1_next X hW h0 m_1_181 dX1_remember_31 ?_
  refine lv_iconst (v := 1) hx hb dX1_remember_34 (by decide) ?_
  refine lv_iadd hx hb dX1_remember_35 ?_
  refine lv_bipush (v := 8) hx hb dX1_remember_36 (by decide) ?_
  refine w_irem hx hb dX1_remember_38 (by decide) ?_
  refine sf_X1_next X hW h0 m_1_181 dX1_remember_39 ?_
  clear hW; intro H locs hW
  refine nm_s hW h ?_
  clear hW h; intro σ_1 hW h
  refine lv_aload_n hx hb dX1_remember_42 rfl (lv_at hl 0 rfl) ?_
  refine lv_aload_n hx hb dX1_remember_43 rfl (lv_at hl 0 rfl) ?_
  refine gf_X1_count X hW h0 m_1_182 dX1_remember_44 ?_
  refine lv_iconst (v := 1) hx hb dX1_remember_47 (by decide) ?_
  refine lv_iadd hx hb dX1_remember_48 ?_
  refine lv_bipush (v := 8) hx hb dX1_remember_49 (by decide) ?_
  obtain ⟨r_2, hcl, h⟩ := bind_el h
  refine call_S1 X hW m_4_238 m_2_172 mv_J9_min_7cf53 (c_J9_min_7cf53 hcl) (by decide) rfl rfl (Nat.le_of_ble_eq_true rfl) hl.1 dX1_remember_51 ?_
  clear hW hcl; intro H locs hW
  refine sf_X1_count X hW h0 m_1_182 dX1_remember_54 ?_
  clear hW; intro H locs hW
  refine nm_s hW h ?_
  clear hW h; intro σ_3 hW h
  exact rv_end hret h dX1_remember_57 hW
set_option maxRecDepth 20000 in
set_option maxHeartbeats 4000000 in
theorem c_X1_remember {G : Gt} {l : Launch} {v0 : Nat} (h0 : kd v0 = 1) {v1 : Nat} (h1 : kd v1 = 2) {σ : St} {σ' : St} (hf : pf_X1_remember v0 v1 σ = some σ') : Ct G l yX1_remember cX1_remember 2 none 4 [.ref (gz G + (v0)), .ref (gz G + (v1))] σ none σ' := by
  refine met_v (by decide +kernel) (Nat.le_of_ble_eq_true rfl) rfl ?_
  intro p e s m args below meth c Q ls X hW hret hl
  have hx := X.1.1
  have hb := X.1.2.1
  have hl : lv_has ls 2 [(0, .ref (gz G + (v0))), (1, .ref (gz G + (v1)))] := hl
  have h := hf
  clear hf
  unfold pf_X1_remember at h
  refine lv_aload_n hx hb dX1_remember_0 rfl (lv_at hl 0 rfl) ?_
  refine gf_X1_next X hW h0 m_1_181 dX1_remember_1 ?_
  refine lv_if_lt (tgt := 29) hx hb dX1_remember_4 (by decide) (fun hc => ?_) (fun hc => ?_)
  · replace h := if_t hc h
    exact bl_X1_remember_b29 X hret v0 h0 σ h _ _ _ hW (lv_sub hl [0] rfl)
  · replace h := if_f hc h
    refine lv_aload_n hx hb dX1_remember_7 rfl (lv_at hl 0 rfl) ?_
    refine gf_X1_next X hW h0 m_1_181 dX1_remember_8 ?_
    refine lv_bipush (v := 8) hx hb dX1_remember_11 (by decide) ?_
    refine lv_icmp_ge (tgt := 29) hx hb dX1_remember_13 (by decide) (fun hc => ?_) (fun hc => ?_)
    · replace h := if_t hc h
      exact bl_X1_remember_b29 X hret v0 h0 σ h _ _ _ hW (lv_sub hl [0] rfl)
    · replace h := if_f hc h
      refine lv_aload_n hx hb dX1_remember_16 rfl (lv_at hl 0 rfl) ?_
      refine gf_X1_past X hW h0 m_1_180 dX1_remember_17 ?_
      refine lv_aload_n hx hb dX1_remember_20 rfl (lv_at hl 0 rfl) ?_
      refine gf_X1_next X hW h0 m_1_181 dX1_remember_21 ?_
      obtain ⟨hi1, h⟩ := ckI_el h
      refine r_pald X hW (kf_X1_past h0) hi1 dX1_remember_24 ?_
      refine lv_aload_n hx hb dX1_remember_25 rfl (lv_at hl 1 rfl) ?_
      obtain ⟨σ_2, hcl, h⟩ := bind_el h
      refine call_V0 X hW (kC_X2 (kq_17 (kf_X1_past h0) (vp_lt hi1))) m_3_98 m_2_109 m_2_110 mv_X2_copyFrom (c_X2_copyFrom (kq_17 (kf_X1_past h0) (vp_lt hi1)) h1 hcl) (by decide) rfl rfl (Nat.le_of_ble_eq_true rfl) hl.1 dX1_remember_26 ?_
      clear hW hcl; intro H locs hW
      exact bl_X1_remember_b29 X hret v0 h0 σ_2 h _ _ _ hW (lv_sub hl [0] rfl)
set_option maxRecDepth 20000 in
set_option maxHeartbeats 4000000 in
theorem c_X1_recall {G : Gt} {l : Launch} {v0 : Nat} (h0 : kd v0 = 1) {v1 : Nat} (h1 : kd v1 = 2) {σ : St} {r : Int32} {σ' : St} (hf : pf_X1_recall v0 v1 σ = some (r, σ')) : Ct G l yX1_recall cX1_recall 2 (some .boolean) 4 [.ref (gz G + (v0)), .ref (gz G + (v1))] σ (some (.int r)) σ' := by
  refine met_z (by decide +kernel) (Nat.le_of_ble_eq_true rfl) rfl ?_
  intro p e s m args below meth c Q ls X hW hret hl
  have hx := X.1.1
  have hb := X.1.2.1
  have hl : lv_has ls 2 [(0, .ref (gz G + (v0))), (1, .ref (gz G + (v1)))] := hl
  have h := hf
  clear hf
  unfold pf_X1_recall at h
  refine lv_aload_n hx hb dX1_recall_0 rfl (lv_at hl 0 rfl) ?_
  refine gf_X1_count X hW h0 m_1_182 dX1_recall_1 ?_
  refine lv_if_gt (tgt := 9) hx hb dX1_recall_4 (by decide) (fun hc => ?_) (fun hc => ?_)
  · replace h := if_t hc h
    refine lv_aload_n hx hb dX1_recall_9 rfl (lv_at hl 0 rfl) ?_
    refine lv_aload_n hx hb dX1_recall_10 rfl (lv_at hl 0 rfl) ?_
    refine gf_X1_next X hW h0 m_1_181 dX1_recall_11 ?_
    refine lv_bipush (v := 8) hx hb dX1_recall_14 (by decide) ?_
    refine lv_iadd hx hb dX1_recall_16 ?_
    refine lv_iconst (v := 1) hx hb dX1_recall_17 (by decide) ?_
    refine lv_isub hx hb dX1_recall_18 ?_
    refine lv_bipush (v := 8) hx hb dX1_recall_19 (by decide) ?_
    refine w_irem hx hb dX1_recall_21 (by decide) ?_
    refine sf_X1_next X hW h0 m_1_181 dX1_recall_22 ?_
    clear hW; intro H locs hW
    refine nm_s hW h ?_
    clear hW h; intro σ_1 hW h
    refine lv_aload_n hx hb dX1_recall_25 rfl (lv_at hl 0 rfl) ?_
    refine lv_dup hx hb dX1_recall_26 rfl ?_
    refine gf_X1_count X hW h0 m_1_182 dX1_recall_27 ?_
    refine lv_iconst (v := 1) hx hb dX1_recall_30 (by decide) ?_
    refine lv_isub hx hb dX1_recall_31 ?_
    refine sf_X1_count X hW h0 m_1_182 dX1_recall_32 ?_
    clear hW; intro H locs hW
    refine nm_s hW h ?_
    clear hW h; intro σ_2 hW h
    refine lv_aload_n hx hb dX1_recall_35 rfl (lv_at hl 0 rfl) ?_
    refine gf_X1_next X hW h0 m_1_181 dX1_recall_36 ?_
    refine lv_if_lt (tgt := 64) hx hb dX1_recall_39 (by decide) (fun hc => ?_) (fun hc => ?_)
    · replace h := if_t hc h
      refine lv_iconst (v := 1) hx hb dX1_recall_64 (by decide) ?_
      exact rz_end hret h (by decide) dX1_recall_65 hW
    · replace h := if_f hc h
      refine lv_aload_n hx hb dX1_recall_42 rfl (lv_at hl 0 rfl) ?_
      refine gf_X1_next X hW h0 m_1_181 dX1_recall_43 ?_
      refine lv_bipush (v := 8) hx hb dX1_recall_46 (by decide) ?_
      refine lv_icmp_ge (tgt := 64) hx hb dX1_recall_48 (by decide) (fun hc => ?_) (fun hc => ?_)
      · replace h := if_t hc h
        refine lv_iconst (v := 1) hx hb dX1_recall_64 (by decide) ?_
        exact rz_end hret h (by decide) dX1_recall_65 hW
      · replace h := if_f hc h
        refine lv_aload_n hx hb dX1_recall_51 rfl (lv_at hl 1 rfl) ?_
        refine lv_aload_n hx hb dX1_recall_52 rfl (lv_at hl 0 rfl) ?_
        refine gf_X1_past X hW h0 m_1_180 dX1_recall_53 ?_
        refine lv_aload_n hx hb dX1_recall_56 rfl (lv_at hl 0 rfl) ?_
        refine gf_X1_next X hW h0 m_1_181 dX1_recall_57 ?_
        obtain ⟨hi3, h⟩ := ckI_el h
        refine r_pald X hW (kf_X1_past h0) hi3 dX1_recall_60 ?_
        obtain ⟨σ_4, hcl, h⟩ := bind_el h
        refine call_V0 X hW (kC_X2 h1) m_3_98 m_2_109 m_2_110 mv_X2_copyFrom (c_X2_copyFrom h1 (kq_17 (kf_X1_past h0) (vp_lt hi3)) hcl) (by decide) rfl rfl (Nat.le_of_ble_eq_true rfl) hl.1 dX1_recall_61 ?_
        clear hW hcl; intro H locs hW
        refine lv_iconst (v := 1) hx hb dX1_recall_64 (by decide) ?_
        exact rz_end hret h (by decide) dX1_recall_65 hW
  · replace h := if_f hc h
    refine lv_iconst (v := 0) hx hb dX1_recall_7 (by decide) ?_
    exact rz_end hret h (by decide) dX1_recall_8 hW
set_option maxRecDepth 20000 in
set_option maxHeartbeats 4000000 in
theorem bl_J7_fill_53178_L5 (X : Cx G p R s m args c cells slots cJ7_fill_53178 4 RJ7 2) {σ' : St} (hret : R_V G p l e R s m args below meth c cells slots Q cJ7_fill_53178 σ') :
    ∀ (n : Nat), ∀ (v0 : Nat) (h0 : kd v0 = 11) (v1 : Int32) (v2 : Int32) (v3 : Int32) (σ : St) (_ : pf_J7_fill_53178_L5 n v0 v1 v2 v3 σ = some σ') (H : Heap) (locs : List Loc) (ls : Array Slot) (_ : GW G σ s H locs) (_ : lv_has ls 4 [(0, .ref (gz G + (v0))), (1, .int (v1)), (2, .int (v2)), (3, .int (v3))]), W p l e R s m args below meth c H locs cells slots Q (F0 m 5 ls []) := by
  have hx := X.1.1
  have hb := X.1.2.1
  intro n
  induction n with
  | zero => intro v0 h0 v1 v2 v3 σ h H locs ls hW hl; cases h
  | succ n ih =>
    intro v0 h0 v1 v2 v3 σ h H locs ls hW hl
    rw [pf_J7_fill_53178_L5.eq_2] at h
    refine lv_iload_n hx hb dJ7_fill_53178_5 rfl (lv_at hl 2 rfl) ?_
    refine lv_iload_n hx hb dJ7_fill_53178_6 rfl (lv_at hl 3 rfl) ?_
    refine lv_icmp_ge (tgt := 20) hx hb dJ7_fill_53178_7 (by decide) (fun hc => ?_) (fun hc => ?_)
    · replace h := if_t hc h
      exact rv_end hret h dJ7_fill_53178_20 hW
    · replace h := if_f hc h
      refine lv_aload_n hx hb dJ7_fill_53178_10 rfl (lv_at hl 0 rfl) ?_
      refine lv_iload_n hx hb dJ7_fill_53178_11 rfl (lv_at hl 2 rfl) ?_
      refine lv_iload_n hx hb dJ7_fill_53178_12 rfl (lv_at hl 1 rfl) ?_
      obtain ⟨hi1, h⟩ := ckI_el h
      refine r_iast X hW h0 hi1 dJ7_fill_53178_13 ?_
      clear hW; intro H locs hW
      refine nm_s hW h ?_
      clear hW h; intro σ_2 hW h
      refine w_iinc (v := 1) (lv' := fun y => [(2, .int (y)), (0, .ref (gz G + (v0))), (1, .int (v1)), (3, .int (v3))]) hx hb dJ7_fill_53178_14 hl (k := 2) rfl (by decide) (by decide) (fun _ => rfl) h ?_
      clear h hl; intro v2_3 h ls hl
      refine lv_goto (tgt := 5) hx hb dJ7_fill_53178_17 (by decide) ?_
      exact ih v0 h0 v1 v2_3 v3 σ_2 h _ _ _ hW (lv_sub hl [1, 2, 0, 3] rfl)
set_option maxRecDepth 20000 in
set_option maxHeartbeats 4000000 in
theorem c_J7_fill_53178 {G : Gt} {l : Launch} {v0 : Nat} (h0 : kd v0 = 11) {v1 : Int32} {σ : St} {σ' : St} (hf : pf_J7_fill_53178 v0 v1 σ = some σ') : Ct G l yJ7_fill_53178 cJ7_fill_53178 4 none 2 [.ref (gz G + (v0)), .int (v1)] σ none σ' := by
  refine met_v (by decide +kernel) (Nat.le_of_ble_eq_true rfl) rfl ?_
  intro p e s m args below meth c Q ls X hW hret hl
  have hx := X.1.1
  have hb := X.1.2.1
  have hl : lv_has ls 4 [(0, .ref (gz G + (v0))), (1, .int (v1))] := hl
  have h := hf
  clear hf
  unfold pf_J7_fill_53178 at h
  refine lv_iconst (v := 0) hx hb dJ7_fill_53178_0 (by decide) ?_
  refine lv_istore_n (lv' := [(2, .int (0)), (0, .ref (gz G + (v0))), (1, .int (v1))]) hx hb dJ7_fill_53178_1 rfl hl (by decide) rfl ?_
  clear hl; intro ls hl
  refine lv_aload_n hx hb dJ7_fill_53178_2 rfl (lv_at hl 1 rfl) ?_
  refine r_alen11 X hW h0 dJ7_fill_53178_3 ?_
  refine nm_i h ?_
  clear h; intro v3_1 h
  refine lv_istore_n (lv' := [(3, .int (v3_1)), (2, .int (0)), (0, .ref (gz G + (v0))), (1, .int (v1))]) hx hb dJ7_fill_53178_4 rfl hl (by decide) rfl ?_
  clear hl; intro ls hl
  exact bl_J7_fill_53178_L5 X hret FU v0 h0 v1 0 v3_1 σ h _ _ _ hW (lv_sub hl [2, 3, 1, 0] rfl)
set_option maxRecDepth 20000 in
set_option maxHeartbeats 4000000 in
theorem c_X2_clear {G : Gt} {l : Launch} {v0 : Nat} (h0 : kd v0 = 2) {σ : St} {σ' : St} (hf : pf_X2_clear v0 σ = some σ') : Ct G l yX2_clear cX2_clear 1 none 3 [.ref (gz G + (v0))] σ none σ' := by
  refine met_v (by decide +kernel) (Nat.le_of_ble_eq_true rfl) rfl ?_
  intro p e s m args below meth c Q ls X hW hret hl
  have hx := X.1.1
  have hb := X.1.2.1
  have hl : lv_has ls 1 [(0, .ref (gz G + (v0)))] := hl
  have h := hf
  clear hf
  unfold pf_X2_clear at h
  refine lv_aload_n hx hb dX2_clear_0 rfl (lv_at hl 0 rfl) ?_
  refine gf_X2_stock X hW h0 m_1_134 dX2_clear_1 ?_
  refine lv_iconst (v := 0) hx hb dX2_clear_4 (by decide) ?_
  obtain ⟨σ_1, hcl, h⟩ := bind_el h
  refine call_S0 X hW m_4_24 m_2_129 mv_J7_fill_53178 (c_J7_fill_53178 (kf_X2_stock h0) hcl) (by decide) rfl rfl (Nat.le_of_ble_eq_true rfl) hl.1 dX2_clear_5 ?_
  clear hW hcl; intro H locs hW
  refine lv_aload_n hx hb dX2_clear_8 rfl (lv_at hl 0 rfl) ?_
  refine lv_iconst (v := 0) hx hb dX2_clear_9 (by decide) ?_
  refine sf_X2_queueLength X hW h0 m_1_138 dX2_clear_10 ?_
  clear hW; intro H locs hW
  refine nm_s hW h ?_
  clear hW h; intro σ_2 hW h
  refine lv_aload_n hx hb dX2_clear_13 rfl (lv_at hl 0 rfl) ?_
  refine lv_iconst (v := 0) hx hb dX2_clear_14 (by decide) ?_
  refine sf_X2_seed X hW h0 m_1_140 dX2_clear_15 ?_
  clear hW; intro H locs hW
  refine nm_s hW h ?_
  clear hW h; intro σ_3 hW h
  refine lv_aload_n hx hb dX2_clear_18 rfl (lv_at hl 0 rfl) ?_
  refine lv_iconst (v := 0) hx hb dX2_clear_19 (by decide) ?_
  refine sf_X2_questCount X hW h0 m_1_146 dX2_clear_20 ?_
  clear hW; intro H locs hW
  refine nm_s hW h ?_
  clear hW h; intro σ_4 hW h
  refine lv_aload_n hx hb dX2_clear_23 rfl (lv_at hl 0 rfl) ?_
  refine lv_iconst (v := 0) hx hb dX2_clear_24 (by decide) ?_
  refine sf_X2_worthLength X hW h0 m_1_151 dX2_clear_25 ?_
  clear hW; intro H locs hW
  refine nm_s hW h ?_
  clear hW h; intro σ_5 hW h
  exact rv_end hret h dX2_clear_28 hW
set_option maxRecDepth 20000 in
set_option maxHeartbeats 4000000 in
theorem c_X10_put {G : Gt} {l : Launch} {v0 : Nat} (h0 : kd v0 = 11) {v1 : Int32} {v2 : Int32} {σ : St} {σ' : St} (hf : pf_X10_put v0 v1 v2 σ = some σ') : Ct G l yX10_put cX10_put 3 none 2 [.ref (gz G + (v0)), .int (v1), .int (v2)] σ none σ' := by
  refine met_v (by decide +kernel) (Nat.le_of_ble_eq_true rfl) rfl ?_
  intro p e s m args below meth c Q ls X hW hret hl
  have hx := X.1.1
  have hb := X.1.2.1
  have hl : lv_has ls 3 [(0, .ref (gz G + (v0))), (1, .int (v1)), (2, .int (v2))] := hl
  have h := hf
  clear hf
  unfold pf_X10_put at h
  refine lv_iload_n hx hb dX10_put_0 rfl (lv_at hl 1 rfl) ?_
  refine lv_if_lt (tgt := 14) hx hb dX10_put_1 (by decide) (fun hc => ?_) (fun hc => ?_)
  · replace h := if_t hc h
    exact rv_end hret h dX10_put_14 hW
  · replace h := if_f hc h
    refine lv_iload_n hx hb dX10_put_4 rfl (lv_at hl 1 rfl) ?_
    refine lv_aload_n hx hb dX10_put_5 rfl (lv_at hl 0 rfl) ?_
    refine r_alen11 X hW h0 dX10_put_6 ?_
    refine lv_icmp_ge (tgt := 14) hx hb dX10_put_7 (by decide) (fun hc => ?_) (fun hc => ?_)
    · replace h := if_t hc h
      exact rv_end hret h dX10_put_14 hW
    · replace h := if_f hc h
      refine lv_aload_n hx hb dX10_put_10 rfl (lv_at hl 0 rfl) ?_
      refine lv_iload_n hx hb dX10_put_11 rfl (lv_at hl 1 rfl) ?_
      refine lv_iload_n hx hb dX10_put_12 rfl (lv_at hl 2 rfl) ?_
      obtain ⟨hi1, h⟩ := ckI_el h
      refine r_iast X hW h0 hi1 dX10_put_13 ?_
      clear hW; intro H locs hW
      refine nm_s hW h ?_
      clear hW h; intro σ_2 hW h
      exact rv_end hret h dX10_put_14 hW
set_option maxRecDepth 20000 in
set_option maxHeartbeats 4000000 in
theorem c_X2_appendCode {G : Gt} {l : Launch} {v0 : Nat} (h0 : kd v0 = 2) {v1 : Int32} {σ : St} {σ' : St} (hf : pf_X2_appendCode v0 v1 σ = some σ') : Ct G l yX2_appendCode cX2_appendCode 2 none 3 [.ref (gz G + (v0)), .int (v1)] σ none σ' := by
  refine met_v (by decide +kernel) (Nat.le_of_ble_eq_true rfl) rfl ?_
  intro p e s m args below meth c Q ls X hW hret hl
  have hx := X.1.1
  have hb := X.1.2.1
  have hl : lv_has ls 2 [(0, .ref (gz G + (v0))), (1, .int (v1))] := hl
  have h := hf
  clear hf
  unfold pf_X2_appendCode at h
  refine lv_aload_n hx hb dX2_appendCode_0 rfl (lv_at hl 0 rfl) ?_
  refine gf_X2_worthCode X hW h0 m_1_149 dX2_appendCode_1 ?_
  refine lv_aload_n hx hb dX2_appendCode_4 rfl (lv_at hl 0 rfl) ?_
  refine gf_X2_worthLength X hW h0 m_1_151 dX2_appendCode_5 ?_
  refine lv_iload_n hx hb dX2_appendCode_8 rfl (lv_at hl 1 rfl) ?_
  obtain ⟨σ_1, hcl, h⟩ := bind_el h
  refine call_SN0 X hW m_2_192 m_2_98 mv_X10_put (c_X10_put (kf_X2_worthCode h0) hcl) (by decide) rfl rfl (Nat.le_of_ble_eq_true rfl) hl.1 dX2_appendCode_9 ?_
  clear hW hcl; intro H locs hW
  refine lv_aload_n hx hb dX2_appendCode_12 rfl (lv_at hl 0 rfl) ?_
  refine lv_dup hx hb dX2_appendCode_13 rfl ?_
  refine gf_X2_worthLength X hW h0 m_1_151 dX2_appendCode_14 ?_
  refine lv_iconst (v := 1) hx hb dX2_appendCode_17 (by decide) ?_
  refine lv_iadd hx hb dX2_appendCode_18 ?_
  refine sf_X2_worthLength X hW h0 m_1_151 dX2_appendCode_19 ?_
  clear hW; intro H locs hW
  refine nm_s hW h ?_
  clear hW h; intro σ_2 hW h
  exact rv_end hret h dX2_appendCode_22 hW
set_option maxRecDepth 20000 in
set_option maxHeartbeats 4000000 in
theorem c_X2_enqueue {G : Gt} {l : Launch} {v0 : Nat} (h0 : kd v0 = 2) {v1 : Int32} {σ : St} {σ' : St} (hf : pf_X2_enqueue v0 v1 σ = some σ') : Ct G l yX2_enqueue cX2_enqueue 2 none 3 [.ref (gz G + (v0)), .int (v1)] σ none σ' := by
  refine met_v (by decide +kernel) (Nat.le_of_ble_eq_true rfl) rfl ?_
  intro p e s m args below meth c Q ls X hW hret hl
  have hx := X.1.1
  have hb := X.1.2.1
  have hl : lv_has ls 2 [(0, .ref (gz G + (v0))), (1, .int (v1))] := hl
  have h := hf
  clear hf
  unfold pf_X2_enqueue at h
  refine lv_aload_n hx hb dX2_enqueue_0 rfl (lv_at hl 0 rfl) ?_
  refine gf_X2_queue X hW h0 m_1_137 dX2_enqueue_1 ?_
  refine lv_aload_n hx hb dX2_enqueue_4 rfl (lv_at hl 0 rfl) ?_
  refine gf_X2_queueLength X hW h0 m_1_138 dX2_enqueue_5 ?_
  refine lv_iload_n hx hb dX2_enqueue_8 rfl (lv_at hl 1 rfl) ?_
  obtain ⟨σ_1, hcl, h⟩ := bind_el h
  refine call_SN0 X hW m_2_192 m_2_98 mv_X10_put (c_X10_put (kf_X2_queue h0) hcl) (by decide) rfl rfl (Nat.le_of_ble_eq_true rfl) hl.1 dX2_enqueue_9 ?_
  clear hW hcl; intro H locs hW
  refine lv_aload_n hx hb dX2_enqueue_12 rfl (lv_at hl 0 rfl) ?_
  refine lv_dup hx hb dX2_enqueue_13 rfl ?_
  refine gf_X2_queueLength X hW h0 m_1_138 dX2_enqueue_14 ?_
  refine lv_iconst (v := 1) hx hb dX2_enqueue_17 (by decide) ?_
  refine lv_iadd hx hb dX2_enqueue_18 ?_
  refine sf_X2_queueLength X hW h0 m_1_138 dX2_enqueue_19 ?_
  clear hW; intro H locs hW
  refine nm_s hW h ?_
  clear hW h; intro σ_2 hW h
  exact rv_end hret h dX2_enqueue_22 hW
set_option maxRecDepth 20000 in
set_option maxHeartbeats 4000000 in
theorem bl_X10_at_b16 {σ : St} (X : Cx G p R s m args c cells slots cX10_at 2 RX10 2) {r : Int32} (hret : R_I G p l e R s m args below meth c cells slots Q cX10_at r σ) :
    ∀ (_ : pf_X10_at_b16 σ = some r) (H : Heap) (locs : List Loc) (ls : Array Slot) (_ : GW G σ s H locs) (_ : lv_has ls 2 []), W p l e R s m args below meth c H locs cells slots Q (F0 m 16 ls []) := by
  have hx := X.1.1
  have hb := X.1.2.1
  intro h H locs ls hW hl
  unfold pf_X10_at_b16 at h
  refine lv_iconst (v := 0) hx hb dX10_at_16 (by decide) ?_
  exact ri_end0 hret h dX10_at_17 hW
set_option maxRecDepth 20000 in
set_option maxHeartbeats 4000000 in
theorem c_X10_at {G : Gt} {l : Launch} {v0 : Nat} (h0 : kd v0 = 11) {v1 : Int32} {σ : St} {r : Int32} (hf : pf_X10_at v0 v1 σ = some r) : Ct G l yX10_at cX10_at 2 (some .int) 2 [.ref (gz G + (v0)), .int (v1)] σ (some (.int r)) σ := by
  refine met_i (by decide +kernel) (Nat.le_of_ble_eq_true rfl) rfl ?_
  intro p e s m args below meth c Q ls X hW hret hl
  have hx := X.1.1
  have hb := X.1.2.1
  have hl : lv_has ls 2 [(0, .ref (gz G + (v0))), (1, .int (v1))] := hl
  have h := hf
  clear hf
  unfold pf_X10_at at h
  refine lv_iload_n hx hb dX10_at_0 rfl (lv_at hl 1 rfl) ?_
  refine lv_if_lt (tgt := 16) hx hb dX10_at_1 (by decide) (fun hc => ?_) (fun hc => ?_)
  · replace h := if_t hc h
    exact bl_X10_at_b16 X hret h _ _ _ hW (lv_sub hl [] rfl)
  · replace h := if_f hc h
    refine lv_iload_n hx hb dX10_at_4 rfl (lv_at hl 1 rfl) ?_
    refine lv_aload_n hx hb dX10_at_5 rfl (lv_at hl 0 rfl) ?_
    refine r_alen11 X hW h0 dX10_at_6 ?_
    refine lv_icmp_ge (tgt := 16) hx hb dX10_at_7 (by decide) (fun hc => ?_) (fun hc => ?_)
    · replace h := if_t hc h
      exact bl_X10_at_b16 X hret h _ _ _ hW (lv_sub hl [] rfl)
    · replace h := if_f hc h
      refine lv_aload_n hx hb dX10_at_10 rfl (lv_at hl 0 rfl) ?_
      refine lv_iload_n hx hb dX10_at_11 rfl (lv_at hl 1 rfl) ?_
      obtain ⟨hi1, h⟩ := ckI_el h
      refine r_iald X hW h0 hi1 dX10_at_12 ?_
      refine lv_goto (tgt := 17) hx hb dX10_at_13 (by decide) ?_
      exact ri_end0 hret h dX10_at_17 hW
set_option maxRecDepth 20000 in
set_option maxHeartbeats 4000000 in
theorem bl_X2_draw_L56 (X : Cx G p R s m args c cells slots cX2_draw 3 RX2 3) {r : Int32} {σ' : St} (hret : R_I G p l e R s m args below meth c cells slots Q cX2_draw r σ') :
    ∀ (n : Nat), ∀ (v0 : Nat) (h0 : kd v0 = 2) (v1 : Int32) (v2 : Int32) (σ : St) (_ : pf_X2_draw_L56 n v0 v1 v2 σ = some (r, σ')) (H : Heap) (locs : List Loc) (ls : Array Slot) (_ : GW G σ s H locs) (_ : lv_has ls 3 [(0, .ref (gz G + (v0))), (1, .int (v1)), (2, .int (v2))]), W p l e R s m args below meth c H locs cells slots Q (F0 m 56 ls []) := by
  have hx := X.1.1
  have hb := X.1.2.1
  intro n
  induction n with
  | zero => intro v0 h0 v1 v2 σ h H locs ls hW hl; cases h
  | succ n ih =>
    intro v0 h0 v1 v2 σ h H locs ls hW hl
    rw [pf_X2_draw_L56.eq_2] at h
    refine lv_iload_n hx hb dX2_draw_56 rfl (lv_at hl 2 rfl) ?_
    refine lv_aload_n hx hb dX2_draw_57 rfl (lv_at hl 0 rfl) ?_
    refine gf_X2_queueLength X hW h0 m_1_138 dX2_draw_58 ?_
    refine lv_icmp_ge (tgt := 88) hx hb dX2_draw_61 (by decide) (fun hc => ?_) (fun hc => ?_)
    · replace h := if_t hc h
      refine lv_iload_n hx hb dX2_draw_88 rfl (lv_at hl 1 rfl) ?_
      exact ri_end hret h dX2_draw_89 hW
    · replace h := if_f hc h
      refine lv_aload_n hx hb dX2_draw_64 rfl (lv_at hl 0 rfl) ?_
      refine gf_X2_queue X hW h0 m_1_137 dX2_draw_65 ?_
      refine lv_iload_n hx hb dX2_draw_68 rfl (lv_at hl 2 rfl) ?_
      refine lv_aload_n hx hb dX2_draw_69 rfl (lv_at hl 0 rfl) ?_
      refine gf_X2_queue X hW h0 m_1_137 dX2_draw_70 ?_
      refine lv_iload_n hx hb dX2_draw_73 rfl (lv_at hl 2 rfl) ?_
      refine lv_iconst (v := 1) hx hb dX2_draw_74 (by decide) ?_
      refine lv_iadd hx hb dX2_draw_75 ?_
      obtain ⟨r_1, hcl, h⟩ := bind_el h
      refine call_SN1 X hW m_2_190 m_2_132 mv_X10_at (c_X10_at (kf_X2_queue h0) hcl) (by decide) rfl rfl (Nat.le_of_ble_eq_true rfl) hl.1 dX2_draw_76 ?_
      clear hW hcl; intro H locs hW
      obtain ⟨σ_2, hcl, h⟩ := bind_el h
      refine call_SN0 X hW m_2_192 m_2_98 mv_X10_put (c_X10_put (kf_X2_queue h0) hcl) (by decide) rfl rfl (Nat.le_of_ble_eq_true rfl) hl.1 dX2_draw_79 ?_
      clear hW hcl; intro H locs hW
      refine w_iinc (v := 1) (lv' := fun y => [(2, .int (y)), (0, .ref (gz G + (v0))), (1, .int (v1))]) hx hb dX2_draw_82 hl (k := 2) rfl (by decide) (by decide) (fun _ => rfl) h ?_
      clear h hl; intro v2_3 h ls hl
      refine lv_goto (tgt := 56) hx hb dX2_draw_85 (by decide) ?_
      exact ih v0 h0 v1 v2_3 σ_2 h _ _ _ hW (lv_sub hl [1, 2, 0] rfl)
set_option maxRecDepth 20000 in
set_option maxHeartbeats 4000000 in
theorem c_X2_draw {G : Gt} {l : Launch} {v0 : Nat} (h0 : kd v0 = 2) {σ : St} {r : Int32} {σ' : St} (hf : pf_X2_draw v0 σ = some (r, σ')) : Ct G l yX2_draw cX2_draw 3 (some .int) 3 [.ref (gz G + (v0))] σ (some (.int r)) σ' := by
  refine met_i (by decide +kernel) (Nat.le_of_ble_eq_true rfl) rfl ?_
  intro p e s m args below meth c Q ls X hW hret hl
  have hx := X.1.1
  have hb := X.1.2.1
  have hl : lv_has ls 3 [(0, .ref (gz G + (v0)))] := hl
  have h := hf
  clear hf
  unfold pf_X2_draw at h
  refine lv_aload_n hx hb dX2_draw_0 rfl (lv_at hl 0 rfl) ?_
  refine gf_X2_queueLength X hW h0 m_1_138 dX2_draw_1 ?_
  refine lv_if_gt (tgt := 37) hx hb dX2_draw_4 (by decide) (fun hc => ?_) (fun hc => ?_)
  · replace h := if_t hc h
    refine lv_aload_n hx hb dX2_draw_37 rfl (lv_at hl 0 rfl) ?_
    refine gf_X2_queue X hW h0 m_1_137 dX2_draw_38 ?_
    refine lv_iconst (v := 0) hx hb dX2_draw_41 (by decide) ?_
    obtain ⟨hi1, h⟩ := ckI_el h
    refine r_iald X hW (kf_X2_queue h0) hi1 dX2_draw_42 ?_
    refine nm_i h ?_
    clear h; intro v1_2 h
    refine lv_istore_n (lv' := [(1, .int (v1_2)), (0, .ref (gz G + (v0)))]) hx hb dX2_draw_43 rfl hl (by decide) rfl ?_
    clear hl; intro ls hl
    refine lv_aload_n hx hb dX2_draw_44 rfl (lv_at hl 1 rfl) ?_
    refine lv_dup hx hb dX2_draw_45 rfl ?_
    refine gf_X2_queueLength X hW h0 m_1_138 dX2_draw_46 ?_
    refine lv_iconst (v := 1) hx hb dX2_draw_49 (by decide) ?_
    refine lv_isub hx hb dX2_draw_50 ?_
    refine sf_X2_queueLength X hW h0 m_1_138 dX2_draw_51 ?_
    clear hW; intro H locs hW
    refine nm_s hW h ?_
    clear hW h; intro σ_3 hW h
    refine lv_iconst (v := 0) hx hb dX2_draw_54 (by decide) ?_
    refine lv_istore_n (lv' := [(2, .int (0)), (1, .int (v1_2)), (0, .ref (gz G + (v0)))]) hx hb dX2_draw_55 rfl hl (by decide) rfl ?_
    clear hl; intro ls hl
    exact bl_X2_draw_L56 X hret FU v0 h0 v1_2 0 σ_3 h _ _ _ hW (lv_sub hl [2, 1, 0] rfl)
  · replace h := if_f hc h
    refine lv_aload_n hx hb dX2_draw_7 rfl (lv_at hl 0 rfl) ?_
    refine lv_aload_n hx hb dX2_draw_8 rfl (lv_at hl 0 rfl) ?_
    refine gf_X2_seed X hW h0 m_1_140 dX2_draw_9 ?_
    refine lv_ldc (v := 1103515245) hx hb X.1.2.2.2.1 (X.1.2.2.2.2 _ m_5_179) dX2_draw_12 ?_
    refine lv_imul hx hb dX2_draw_14 ?_
    refine lv_sipush (v := 12345) hx hb dX2_draw_15 (by decide) ?_
    refine lv_iadd hx hb dX2_draw_18 ?_
    refine sf_X2_seed X hW h0 m_1_140 dX2_draw_19 ?_
    clear hW; intro H locs hW
    refine nm_s hW h ?_
    clear hW h; intro σ_4 hW h
    refine lv_aload_n hx hb dX2_draw_22 rfl (lv_at hl 0 rfl) ?_
    refine gf_X2_seed X hW h0 m_1_140 dX2_draw_23 ?_
    refine lv_bipush (v := 16) hx hb dX2_draw_26 (by decide) ?_
    refine w_iushr hx hb dX2_draw_28 ?_
    refine lv_sipush (v := 32767) hx hb dX2_draw_29 (by decide) ?_
    refine lv_iand hx hb dX2_draw_32 ?_
    refine lv_bipush (v := 100) hx hb dX2_draw_33 (by decide) ?_
    refine w_irem hx hb dX2_draw_35 (by decide) ?_
    exact ri_end hret h dX2_draw_36 hW
set_option maxRecDepth 20000 in
set_option maxHeartbeats 4000000 in
theorem bl_X2_change_L3 (X : Cx G p R s m args c cells slots cX2_change 5 RX2 3) {σ' : St} (hret : R_V G p l e R s m args below meth c cells slots Q cX2_change σ') :
    ∀ (n : Nat), ∀ (v0 : Nat) (h0 : kd v0 = 2) (v1 : Nat) (h1 : kd v1 = 11) (v2 : Int32) (v3 : Int32) (v4 : Int32) (σ : St) (_ : pf_X2_change_L3 n v0 v1 v2 v3 v4 σ = some σ') (H : Heap) (locs : List Loc) (ls : Array Slot) (_ : GW G σ s H locs) (_ : lv_has ls 5 [(0, .ref (gz G + (v0))), (1, .ref (gz G + (v1))), (2, .int (v2)), (3, .int (v3)), (4, .int (v4))]), W p l e R s m args below meth c H locs cells slots Q (F0 m 3 ls []) := by
  have hx := X.1.1
  have hb := X.1.2.1
  intro n
  induction n with
  | zero => intro v0 h0 v1 h1 v2 v3 v4 σ h H locs ls hW hl; cases h
  | succ n ih =>
    intro v0 h0 v1 h1 v2 v3 v4 σ h H locs ls hW hl
    rw [pf_X2_change_L3.eq_2] at h
    refine lv_iload hx hb dX2_change_3 (lv_at hl 4 rfl) ?_
    refine lv_bipush (v := 8) hx hb dX2_change_5 (by decide) ?_
    refine lv_icmp_ge (tgt := 39) hx hb dX2_change_7 (by decide) (fun hc => ?_) (fun hc => ?_)
    · replace h := if_t hc h
      exact rv_end hret h dX2_change_39 hW
    · replace h := if_f hc h
      refine lv_aload_n hx hb dX2_change_10 rfl (lv_at hl 0 rfl) ?_
      refine gf_X2_stock X hW h0 m_1_134 dX2_change_11 ?_
      refine lv_iload hx hb dX2_change_14 (lv_at hl 4 rfl) ?_
      refine lv_dup2_11 hx hb dX2_change_16 rfl rfl ?_
      obtain ⟨hi1, h⟩ := ckI_el h
      refine r_iald X hW (kf_X2_stock h0) hi1 dX2_change_17 ?_
      refine lv_iload_n hx hb dX2_change_18 rfl (lv_at hl 3 rfl) ?_
      refine lv_aload_n hx hb dX2_change_19 rfl (lv_at hl 1 rfl) ?_
      refine lv_iload_n hx hb dX2_change_20 rfl (lv_at hl 2 rfl) ?_
      refine lv_bipush (v := 8) hx hb dX2_change_21 (by decide) ?_
      refine lv_imul hx hb dX2_change_23 ?_
      refine lv_iload hx hb dX2_change_24 (lv_at hl 4 rfl) ?_
      refine lv_iadd hx hb dX2_change_26 ?_
      obtain ⟨r_2, hcl, h⟩ := bind_el h
      refine call_SN1 X hW m_2_190 m_2_132 mv_X10_at (c_X10_at h1 hcl) (by decide) rfl rfl (Nat.le_of_ble_eq_true rfl) hl.1 dX2_change_27 ?_
      clear hW hcl; intro H locs hW
      refine lv_imul hx hb dX2_change_30 ?_
      refine lv_iadd hx hb dX2_change_31 ?_
      obtain ⟨hi3, h⟩ := ckI_el h
      refine r_iast X hW (kf_X2_stock h0) hi3 dX2_change_32 ?_
      clear hW; intro H locs hW
      refine nm_s hW h ?_
      clear hW h; intro σ_4 hW h
      refine w_iinc (v := 1) (lv' := fun y => [(4, .int (y)), (0, .ref (gz G + (v0))), (1, .ref (gz G + (v1))), (2, .int (v2)), (3, .int (v3))]) hx hb dX2_change_33 hl (k := 4) rfl (by decide) (by decide) (fun _ => rfl) h ?_
      clear h hl; intro v4_5 h ls hl
      refine lv_goto (tgt := 3) hx hb dX2_change_36 (by decide) ?_
      exact ih v0 h0 v1 h1 v2 v3 v4_5 σ_4 h _ _ _ hW (lv_sub hl [1, 2, 3, 4, 0] rfl)
set_option maxRecDepth 20000 in
set_option maxHeartbeats 4000000 in
theorem c_X2_change {G : Gt} {l : Launch} {v0 : Nat} (h0 : kd v0 = 2) {v1 : Nat} (h1 : kd v1 = 11) {v2 : Int32} {v3 : Int32} {σ : St} {σ' : St} (hf : pf_X2_change v0 v1 v2 v3 σ = some σ') : Ct G l yX2_change cX2_change 5 none 3 [.ref (gz G + (v0)), .ref (gz G + (v1)), .int (v2), .int (v3)] σ none σ' := by
  refine met_v (by decide +kernel) (Nat.le_of_ble_eq_true rfl) rfl ?_
  intro p e s m args below meth c Q ls X hW hret hl
  have hx := X.1.1
  have hb := X.1.2.1
  have hl : lv_has ls 5 [(0, .ref (gz G + (v0))), (1, .ref (gz G + (v1))), (2, .int (v2)), (3, .int (v3))] := hl
  have h := hf
  clear hf
  unfold pf_X2_change at h
  refine lv_iconst (v := 0) hx hb dX2_change_0 (by decide) ?_
  refine lv_istore (lv' := [(4, .int (0)), (0, .ref (gz G + (v0))), (1, .ref (gz G + (v1))), (2, .int (v2)), (3, .int (v3))]) hx hb dX2_change_1 hl (by decide) rfl ?_
  clear hl; intro ls hl
  exact bl_X2_change_L3 X hret FU v0 h0 v1 h1 v2 v3 0 σ h _ _ _ hW (lv_sub hl [1, 2, 3, 4, 0] rfl)
end
