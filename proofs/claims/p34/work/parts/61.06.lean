section
variable {G : Gt} {p : Program} {l : Launch} {e : Env} {R : Room} {s : State} {m : MethodId} {args : Array Value} {below : List Frame} {meth : Method} {c : Code} {cells slots : Nat} {Q : State → Prop}
set_option maxRecDepth 20000 in
set_option maxHeartbeats 4000000 in
theorem bl_X10_questWithStep_b18 {σ : St} (X : Cx G p R s m args c cells slots cX10_questWithStep 4 RX10 8) {r : Nat} (hret : R_A G p l e R s m args below meth c cells slots Q cX10_questWithStep (.ref (gz G + r)) σ) :
    ∀ (_ : pf_X10_questWithStep_b18 σ = some (.inr r)) (H : Heap) (locs : List Loc) (ls : Array Slot) (_ : GW G σ s H locs) (_ : lv_has ls 4 []), W p l e R s m args below meth c H locs cells slots Q (F0 m 18 ls []) := by
  have hx := X.1.1
  have hb := X.1.2.1
  intro h H locs ls hW hl
  unfold pf_X10_questWithStep_b18 at h
  cases h
set_option maxRecDepth 20000 in
set_option maxHeartbeats 4000000 in
theorem c_X10_questWithStep {G : Gt} {l : Launch} {v0 : Nat} (h0 : kd v0 = 9) {v1 : Int32} {v2 : Int32} {σ : St} {r : Nat} (hf : pf_X10_questWithStep v0 v1 v2 σ = some (.inr r)) : Ct G l yX10_questWithStep cX10_questWithStep 4 (some (.object "QuestLedger$Quest")) 8 [.ref (gz G + (v0)), .int (v1), .int (v2)] σ (some (.ref (gz G + r))) σ := by
  refine met_a (by decide +kernel) (Nat.le_of_ble_eq_true rfl) rfl (Or.inl ⟨_, rfl⟩) (Or.inr ⟨_, rfl⟩) ?_
  intro p e s m args below meth c Q ls X hW hret hl
  have hx := X.1.1
  have hb := X.1.2.1
  have hl : lv_has ls 4 [(0, .ref (gz G + (v0))), (1, .int (v1)), (2, .int (v2))] := hl
  have h := hf
  clear hf
  unfold pf_X10_questWithStep at h
  refine lv_aload_n hx hb dX10_questWithStep_0 rfl (lv_at hl 0 rfl) ?_
  refine lv_iload_n hx hb dX10_questWithStep_1 rfl (lv_at hl 1 rfl) ?_
  obtain ⟨r_1, hcl, h⟩ := bndX0_n h
  refine call_V1 X hW (kC_X10 h0) m_4_156 m_4_158 m_0_10 mv_X10_questAt (c_X10_questAt h0 hcl) (by decide) rfl rfl (Nat.le_of_ble_eq_true rfl) hl.1 dX10_questWithStep_2 ?_
  clear hW hcl; intro H locs hW
  obtain ⟨hk2, h⟩ := ckK_el h
  refine lv_astore_n (lv' := [(3, .ref (gz G + (r_1))), (0, .ref (gz G + (v0))), (1, .int (v1)), (2, .int (v2))]) hx hb dX10_questWithStep_5 rfl hl (by decide) rfl ?_
  clear hl; intro ls hl
  refine lv_iload_n hx hb dX10_questWithStep_6 rfl (lv_at hl 3 rfl) ?_
  refine lv_if_lt (tgt := 18) hx hb dX10_questWithStep_7 (by decide) (fun hc => ?_) (fun hc => ?_)
  · replace h := if_t hc h
    exact bl_X10_questWithStep_b18 X hret h _ _ _ hW (lv_sub hl [] rfl)
  · replace h := if_f hc h
    refine lv_iload_n hx hb dX10_questWithStep_10 rfl (lv_at hl 3 rfl) ?_
    refine lv_aload_n hx hb dX10_questWithStep_11 rfl (lv_at hl 0 rfl) ?_
    refine gf_X3_stepCount X hW hk2 m_1_62 dX10_questWithStep_12 ?_
    refine lv_icmp_lt (tgt := 26) hx hb dX10_questWithStep_15 (by decide) (fun hc => ?_) (fun hc => ?_)
    · replace h := if_t hc h
      refine lv_aload_n hx hb dX10_questWithStep_26 rfl (lv_at hl 0 rfl) ?_
      replace h := xr_el0 h
      exact rq_end hret h dX10_questWithStep_27 hW
    · replace h := if_f hc h
      exact bl_X10_questWithStep_b18 X hret h _ _ _ hW (lv_sub hl [] rfl)
set_option maxRecDepth 20000 in
set_option maxHeartbeats 4000000 in
theorem xl_X10_questWithStep_b18 {σ : St} (X : Cx G p R s m args c cells slots cX10_questWithStep 4 RX10 8) {r : Nat} (hthr : R_X G p l e R s m args below meth c cells slots Q cX10_questWithStep 4 RX10 r σ) (hpr : R_P G p l e R s m args below meth c cells slots Q r σ) :
    ∀ (_ : pf_X10_questWithStep_b18 σ = some (.inl r)) (H : Heap) (locs : List Loc) (ls : Array Slot) (_ : GW G σ s H locs) (_ : lv_has ls 4 []), W p l e R s m args below meth c H locs cells slots Q (F0 m 18 ls []) := by
  have hx := X.1.1
  have hb := X.1.2.1
  intro h H locs ls hW hl
  unfold pf_X10_questWithStep_b18 at h
  exact thr_end0 hthr h dX10_questWithStep_18 dX10_questWithStep_21 dX10_questWithStep_22 dX10_questWithStep_25 exw_2_283 hW (Nat.le_of_ble_eq_true rfl) hl.1
set_option maxRecDepth 20000 in
set_option maxHeartbeats 4000000 in
theorem x_X10_questWithStep {G : Gt} {l : Launch} {v0 : Nat} (h0 : kd v0 = 9) {v1 : Int32} {v2 : Int32} {σ : St} {r : Nat} (hf : pf_X10_questWithStep v0 v1 v2 σ = some (.inl r)) : CtT G l yX10_questWithStep cX10_questWithStep 4 (some (.object "QuestLedger$Quest")) 8 [.ref (gz G + (v0)), .int (v1), .int (v2)] σ r σ := by
  refine met_t (by decide +kernel) (Nat.le_of_ble_eq_true rfl) (by decide) ?_
  intro p e s m args below meth c Q ls X hW hthr hpr hl
  have hx := X.1.1
  have hb := X.1.2.1
  have hl : lv_has ls 4 [(0, .ref (gz G + (v0))), (1, .int (v1)), (2, .int (v2))] := hl
  have h := hf
  clear hf
  unfold pf_X10_questWithStep at h
  refine lv_aload_n hx hb dX10_questWithStep_0 rfl (lv_at hl 0 rfl) ?_
  refine lv_iload_n hx hb dX10_questWithStep_1 rfl (lv_at hl 1 rfl) ?_
  rcases bndX0_t h with hcl | ⟨r_1, hcl, h⟩
  · exact tcall_V X hW (kC_X10 h0) m_4_156 m_4_158 m_0_10 mv_X10_questAt (x_X10_questAt h0 hcl) (by decide) rfl rfl (Nat.le_of_ble_eq_true rfl) hl.1 dX10_questWithStep_2 hpr
  refine call_V1 X hW (kC_X10 h0) m_4_156 m_4_158 m_0_10 mv_X10_questAt (c_X10_questAt h0 hcl) (by decide) rfl rfl (Nat.le_of_ble_eq_true rfl) hl.1 dX10_questWithStep_2 ?_
  clear hW hcl; intro H locs hW
  obtain ⟨hk2, h⟩ := ckK_el h
  refine lv_astore_n (lv' := [(3, .ref (gz G + (r_1))), (0, .ref (gz G + (v0))), (1, .int (v1)), (2, .int (v2))]) hx hb dX10_questWithStep_5 rfl hl (by decide) rfl ?_
  clear hl; intro ls hl
  refine lv_iload_n hx hb dX10_questWithStep_6 rfl (lv_at hl 3 rfl) ?_
  refine lv_if_lt (tgt := 18) hx hb dX10_questWithStep_7 (by decide) (fun hc => ?_) (fun hc => ?_)
  · replace h := if_t hc h
    exact xl_X10_questWithStep_b18 X hthr hpr h _ _ _ hW (lv_sub hl [] rfl)
  · replace h := if_f hc h
    refine lv_iload_n hx hb dX10_questWithStep_10 rfl (lv_at hl 3 rfl) ?_
    refine lv_aload_n hx hb dX10_questWithStep_11 rfl (lv_at hl 0 rfl) ?_
    refine gf_X3_stepCount X hW hk2 m_1_62 dX10_questWithStep_12 ?_
    refine lv_icmp_lt (tgt := 26) hx hb dX10_questWithStep_15 (by decide) (fun hc => ?_) (fun hc => ?_)
    · replace h := if_t hc h
      refine lv_aload_n hx hb dX10_questWithStep_26 rfl (lv_at hl 0 rfl) ?_
      cases h
    · replace h := if_f hc h
      exact xl_X10_questWithStep_b18 X hthr hpr h _ _ _ hW (lv_sub hl [] rfl)
set_option maxRecDepth 20000 in
set_option maxHeartbeats 4000000 in
theorem c_X10_step {G : Gt} {l : Launch} {v0 : Nat} (h0 : kd v0 = 9) {v1 : Int32} {v2 : Int32} {v3 : Int32} {σ : St} {r : Int32} (hf : pf_X10_step v0 v1 v2 v3 σ = some (.inr r)) : Ct G l yX10_step cX10_step 5 (some .int) 9 [.ref (gz G + (v0)), .int (v1), .int (v2), .int (v3)] σ (some (.int r)) σ := by
  refine met_i (by decide +kernel) (Nat.le_of_ble_eq_true rfl) rfl ?_
  intro p e s m args below meth c Q ls X hW hret hl
  have hx := X.1.1
  have hb := X.1.2.1
  have hl : lv_has ls 5 [(0, .ref (gz G + (v0))), (1, .int (v1)), (2, .int (v2)), (3, .int (v3))] := hl
  have h := hf
  clear hf
  unfold pf_X10_step at h
  refine lv_aload_n hx hb dX10_step_0 rfl (lv_at hl 0 rfl) ?_
  refine lv_iload_n hx hb dX10_step_1 rfl (lv_at hl 1 rfl) ?_
  refine lv_iload_n hx hb dX10_step_2 rfl (lv_at hl 2 rfl) ?_
  obtain ⟨r_1, hcl, h⟩ := bndX0_n h
  refine call_V1 X hW (kC_X10 h0) m_5_67 m_5_69 m_0_14 mv_X10_questWithStep (c_X10_questWithStep h0 hcl) (by decide) rfl rfl (Nat.le_of_ble_eq_true rfl) hl.1 dX10_step_3 ?_
  clear hW hcl; intro H locs hW
  obtain ⟨hk2, h⟩ := ckK_el h
  refine lv_astore (lv' := [(4, .ref (gz G + (r_1))), (0, .ref (gz G + (v0))), (1, .int (v1)), (2, .int (v2)), (3, .int (v3))]) hx hb dX10_step_6 hl (by decide) rfl ?_
  clear hl; intro ls hl
  refine lv_iload_n hx hb dX10_step_8 rfl (lv_at hl 4 rfl) ?_
  by_cases hc0 : v3 = 0
  · replace h := if_t hc0 h
    refine lv_tableIn (off := 39) (tgt := 48) hx hb dX10_step_9 (by rw [hc0]; decide) (by rw [hc0]; decide) (by rw [hc0]; rfl) (by decide) ?_
    refine lv_aload hx hb dX10_step_48 (lv_at hl 0 rfl) ?_
    refine gf_X3_risk X hW hk2 m_1_86 dX10_step_50 ?_
    refine lv_iload_n hx hb dX10_step_53 rfl (lv_at hl 3 rfl) ?_
    obtain ⟨r_3, hcl, h⟩ := bind_el h
    refine call_S1 X hW m_5_71 m_2_178 mv_X10_at (c_X10_at (kf_X3_risk hk2) hcl) (by decide) rfl rfl (Nat.le_of_ble_eq_true rfl) hl.1 dX10_step_54 ?_
    clear hW hcl; intro H locs hW
    replace h := xr_el0 h
    exact ri_end0 hret h dX10_step_57 hW
  replace h := if_f hc0 h
  by_cases hc1 : v3 = 1
  · replace h := if_t hc1 h
    refine lv_tableIn (off := 49) (tgt := 58) hx hb dX10_step_9 (by rw [hc1]; decide) (by rw [hc1]; decide) (by rw [hc1]; rfl) (by decide) ?_
    refine lv_aload hx hb dX10_step_58 (lv_at hl 0 rfl) ?_
    refine gf_X3_limit X hW hk2 m_1_89 dX10_step_60 ?_
    refine lv_iload_n hx hb dX10_step_63 rfl (lv_at hl 3 rfl) ?_
    obtain ⟨r_4, hcl, h⟩ := bind_el h
    refine call_S1 X hW m_5_71 m_2_178 mv_X10_at (c_X10_at (kf_X3_limit hk2) hcl) (by decide) rfl rfl (Nat.le_of_ble_eq_true rfl) hl.1 dX10_step_64 ?_
    clear hW hcl; intro H locs hW
    replace h := xr_el0 h
    exact ri_end0 hret h dX10_step_67 hW
  replace h := if_f hc1 h
  by_cases hc2 : v3 = 2
  · replace h := if_t hc2 h
    refine lv_tableIn (off := 59) (tgt := 68) hx hb dX10_step_9 (by rw [hc2]; decide) (by rw [hc2]; decide) (by rw [hc2]; rfl) (by decide) ?_
    refine lv_aload hx hb dX10_step_68 (lv_at hl 0 rfl) ?_
    refine gf_X3_fails X hW hk2 m_1_92 dX10_step_70 ?_
    refine lv_iload_n hx hb dX10_step_73 rfl (lv_at hl 3 rfl) ?_
    obtain ⟨r_5, hcl, h⟩ := bind_el h
    refine call_S1 X hW m_5_71 m_2_178 mv_X10_at (c_X10_at (kf_X3_fails hk2) hcl) (by decide) rfl rfl (Nat.le_of_ble_eq_true rfl) hl.1 dX10_step_74 ?_
    clear hW hcl; intro H locs hW
    replace h := xr_el0 h
    exact ri_end0 hret h dX10_step_77 hW
  replace h := if_f hc2 h
  by_cases hc3 : v3 = 3
  · replace h := if_t hc3 h
    refine lv_tableIn (off := 69) (tgt := 78) hx hb dX10_step_9 (by rw [hc3]; decide) (by rw [hc3]; decide) (by rw [hc3]; rfl) (by decide) ?_
    refine lv_aload hx hb dX10_step_78 (lv_at hl 0 rfl) ?_
    refine lv_iload_n hx hb dX10_step_80 rfl (lv_at hl 3 rfl) ?_
    obtain ⟨r_6, hcl, h⟩ := bind_el h
    refine call_V1 X hW (kC_X3 hk2) m_5_72 m_5_73 m_5_74 mv_X3_isDone (c_X3_isDone hk2 hcl) (by decide) rfl rfl (Nat.le_of_ble_eq_true rfl) hl.1 dX10_step_81 ?_
    clear hW hcl; intro H locs hW
    refine lv_if_eq (tgt := 91) hx hb dX10_step_84 (by decide) (fun hc => ?_) (fun hc => ?_)
    · replace h := if_t hc h
      refine lv_iconst (v := 0) hx hb dX10_step_91 (by decide) ?_
      replace h := xr_el0 h
      exact ri_end0 hret h dX10_step_92 hW
    · replace h := if_f hc h
      refine lv_iconst (v := 1) hx hb dX10_step_87 (by decide) ?_
      refine lv_goto (tgt := 92) hx hb dX10_step_88 (by decide) ?_
      replace h := xr_el0 h
      exact ri_end0 hret h dX10_step_92 hW
  replace h := if_f hc3 h
  by_cases hc4 : v3 = 4
  · replace h := if_t hc4 h
    refine lv_tableIn (off := 84) (tgt := 93) hx hb dX10_step_9 (by rw [hc4]; decide) (by rw [hc4]; decide) (by rw [hc4]; rfl) (by decide) ?_
    refine lv_aload hx hb dX10_step_93 (lv_at hl 0 rfl) ?_
    refine gf_X3_ahead X hW hk2 m_1_94 dX10_step_95 ?_
    refine lv_iload_n hx hb dX10_step_98 rfl (lv_at hl 3 rfl) ?_
    obtain ⟨r_7, hcl, h⟩ := bind_el h
    refine call_S1 X hW m_5_71 m_2_178 mv_X10_at (c_X10_at (kf_X3_ahead hk2) hcl) (by decide) rfl rfl (Nat.le_of_ble_eq_true rfl) hl.1 dX10_step_99 ?_
    clear hW hcl; intro H locs hW
    replace h := xr_el0 h
    exact ri_end0 hret h dX10_step_102 hW
  replace h := if_f hc4 h
  by_cases hc5 : v3 = 5
  · replace h := if_t hc5 h
    refine lv_tableIn (off := 94) (tgt := 103) hx hb dX10_step_9 (by rw [hc5]; decide) (by rw [hc5]; decide) (by rw [hc5]; rfl) (by decide) ?_
    refine lv_aload hx hb dX10_step_103 (lv_at hl 0 rfl) ?_
    refine gf_X3_costly X hW hk2 m_1_98 dX10_step_105 ?_
    refine lv_iload_n hx hb dX10_step_108 rfl (lv_at hl 3 rfl) ?_
    obtain ⟨r_8, hcl, h⟩ := bind_el h
    refine call_S1 X hW m_5_71 m_2_178 mv_X10_at (c_X10_at (kf_X3_costly hk2) hcl) (by decide) rfl rfl (Nat.le_of_ble_eq_true rfl) hl.1 dX10_step_109 ?_
    clear hW hcl; intro H locs hW
    replace h := xr_el0 h
    exact ri_end0 hret h dX10_step_112 hW
  replace h := if_f hc5 h
  refine lv_tableOut (tgt := 113) hx hb dX10_step_9 (tb_out (n := 6) (by decide) rfl (fun k hk => match k, hk with | 0, _ => hc0 | 1, _ => hc1 | 2, _ => hc2 | 3, _ => hc3 | 4, _ => hc4 | 5, _ => hc5 | k + 6, hk => absurd hk (by omega))) (by decide) ?_
  skip
  cases h
set_option maxRecDepth 20000 in
set_option maxHeartbeats 4000000 in
theorem x_X10_step {G : Gt} {l : Launch} {v0 : Nat} (h0 : kd v0 = 9) {v1 : Int32} {v2 : Int32} {v3 : Int32} {σ : St} {r : Nat} (hf : pf_X10_step v0 v1 v2 v3 σ = some (.inl r)) : CtT G l yX10_step cX10_step 5 (some .int) 9 [.ref (gz G + (v0)), .int (v1), .int (v2), .int (v3)] σ r σ := by
  refine met_t (by decide +kernel) (Nat.le_of_ble_eq_true rfl) (by decide) ?_
  intro p e s m args below meth c Q ls X hW hthr hpr hl
  have hx := X.1.1
  have hb := X.1.2.1
  have hl : lv_has ls 5 [(0, .ref (gz G + (v0))), (1, .int (v1)), (2, .int (v2)), (3, .int (v3))] := hl
  have h := hf
  clear hf
  unfold pf_X10_step at h
  refine lv_aload_n hx hb dX10_step_0 rfl (lv_at hl 0 rfl) ?_
  refine lv_iload_n hx hb dX10_step_1 rfl (lv_at hl 1 rfl) ?_
  refine lv_iload_n hx hb dX10_step_2 rfl (lv_at hl 2 rfl) ?_
  rcases bndX0_t h with hcl | ⟨r_1, hcl, h⟩
  · exact tcall_V X hW (kC_X10 h0) m_5_67 m_5_69 m_0_14 mv_X10_questWithStep (x_X10_questWithStep h0 hcl) (by decide) rfl rfl (Nat.le_of_ble_eq_true rfl) hl.1 dX10_step_3 hpr
  refine call_V1 X hW (kC_X10 h0) m_5_67 m_5_69 m_0_14 mv_X10_questWithStep (c_X10_questWithStep h0 hcl) (by decide) rfl rfl (Nat.le_of_ble_eq_true rfl) hl.1 dX10_step_3 ?_
  clear hW hcl; intro H locs hW
  obtain ⟨hk2, h⟩ := ckK_el h
  refine lv_astore (lv' := [(4, .ref (gz G + (r_1))), (0, .ref (gz G + (v0))), (1, .int (v1)), (2, .int (v2)), (3, .int (v3))]) hx hb dX10_step_6 hl (by decide) rfl ?_
  clear hl; intro ls hl
  refine lv_iload_n hx hb dX10_step_8 rfl (lv_at hl 4 rfl) ?_
  by_cases hc0 : v3 = 0
  · replace h := if_t hc0 h
    refine lv_tableIn (off := 39) (tgt := 48) hx hb dX10_step_9 (by rw [hc0]; decide) (by rw [hc0]; decide) (by rw [hc0]; rfl) (by decide) ?_
    refine lv_aload hx hb dX10_step_48 (lv_at hl 0 rfl) ?_
    refine gf_X3_risk X hW hk2 m_1_86 dX10_step_50 ?_
    refine lv_iload_n hx hb dX10_step_53 rfl (lv_at hl 3 rfl) ?_
    obtain ⟨r_3, hcl, h⟩ := bind_el h
    refine call_S1 X hW m_5_71 m_2_178 mv_X10_at (c_X10_at (kf_X3_risk hk2) hcl) (by decide) rfl rfl (Nat.le_of_ble_eq_true rfl) hl.1 dX10_step_54 ?_
    clear hW hcl; intro H locs hW
    cases h
  replace h := if_f hc0 h
  by_cases hc1 : v3 = 1
  · replace h := if_t hc1 h
    refine lv_tableIn (off := 49) (tgt := 58) hx hb dX10_step_9 (by rw [hc1]; decide) (by rw [hc1]; decide) (by rw [hc1]; rfl) (by decide) ?_
    refine lv_aload hx hb dX10_step_58 (lv_at hl 0 rfl) ?_
    refine gf_X3_limit X hW hk2 m_1_89 dX10_step_60 ?_
    refine lv_iload_n hx hb dX10_step_63 rfl (lv_at hl 3 rfl) ?_
    obtain ⟨r_4, hcl, h⟩ := bind_el h
    refine call_S1 X hW m_5_71 m_2_178 mv_X10_at (c_X10_at (kf_X3_limit hk2) hcl) (by decide) rfl rfl (Nat.le_of_ble_eq_true rfl) hl.1 dX10_step_64 ?_
    clear hW hcl; intro H locs hW
    cases h
  replace h := if_f hc1 h
  by_cases hc2 : v3 = 2
  · replace h := if_t hc2 h
    refine lv_tableIn (off := 59) (tgt := 68) hx hb dX10_step_9 (by rw [hc2]; decide) (by rw [hc2]; decide) (by rw [hc2]; rfl) (by decide) ?_
    refine lv_aload hx hb dX10_step_68 (lv_at hl 0 rfl) ?_
    refine gf_X3_fails X hW hk2 m_1_92 dX10_step_70 ?_
    refine lv_iload_n hx hb dX10_step_73 rfl (lv_at hl 3 rfl) ?_
    obtain ⟨r_5, hcl, h⟩ := bind_el h
    refine call_S1 X hW m_5_71 m_2_178 mv_X10_at (c_X10_at (kf_X3_fails hk2) hcl) (by decide) rfl rfl (Nat.le_of_ble_eq_true rfl) hl.1 dX10_step_74 ?_
    clear hW hcl; intro H locs hW
    cases h
  replace h := if_f hc2 h
  by_cases hc3 : v3 = 3
  · replace h := if_t hc3 h
    refine lv_tableIn (off := 69) (tgt := 78) hx hb dX10_step_9 (by rw [hc3]; decide) (by rw [hc3]; decide) (by rw [hc3]; rfl) (by decide) ?_
    refine lv_aload hx hb dX10_step_78 (lv_at hl 0 rfl) ?_
    refine lv_iload_n hx hb dX10_step_80 rfl (lv_at hl 3 rfl) ?_
    obtain ⟨r_6, hcl, h⟩ := bind_el h
    refine call_V1 X hW (kC_X3 hk2) m_5_72 m_5_73 m_5_74 mv_X3_isDone (c_X3_isDone hk2 hcl) (by decide) rfl rfl (Nat.le_of_ble_eq_true rfl) hl.1 dX10_step_81 ?_
    clear hW hcl; intro H locs hW
    refine lv_if_eq (tgt := 91) hx hb dX10_step_84 (by decide) (fun hc => ?_) (fun hc => ?_)
    · replace h := if_t hc h
      refine lv_iconst (v := 0) hx hb dX10_step_91 (by decide) ?_
      cases h
    · replace h := if_f hc h
      refine lv_iconst (v := 1) hx hb dX10_step_87 (by decide) ?_
      refine lv_goto (tgt := 92) hx hb dX10_step_88 (by decide) ?_
      cases h
  replace h := if_f hc3 h
  by_cases hc4 : v3 = 4
  · replace h := if_t hc4 h
    refine lv_tableIn (off := 84) (tgt := 93) hx hb dX10_step_9 (by rw [hc4]; decide) (by rw [hc4]; decide) (by rw [hc4]; rfl) (by decide) ?_
    refine lv_aload hx hb dX10_step_93 (lv_at hl 0 rfl) ?_
    refine gf_X3_ahead X hW hk2 m_1_94 dX10_step_95 ?_
    refine lv_iload_n hx hb dX10_step_98 rfl (lv_at hl 3 rfl) ?_
    obtain ⟨r_7, hcl, h⟩ := bind_el h
    refine call_S1 X hW m_5_71 m_2_178 mv_X10_at (c_X10_at (kf_X3_ahead hk2) hcl) (by decide) rfl rfl (Nat.le_of_ble_eq_true rfl) hl.1 dX10_step_99 ?_
    clear hW hcl; intro H locs hW
    cases h
  replace h := if_f hc4 h
  by_cases hc5 : v3 = 5
  · replace h := if_t hc5 h
    refine lv_tableIn (off := 94) (tgt := 103) hx hb dX10_step_9 (by rw [hc5]; decide) (by rw [hc5]; decide) (by rw [hc5]; rfl) (by decide) ?_
    refine lv_aload hx hb dX10_step_103 (lv_at hl 0 rfl) ?_
    refine gf_X3_costly X hW hk2 m_1_98 dX10_step_105 ?_
    refine lv_iload_n hx hb dX10_step_108 rfl (lv_at hl 3 rfl) ?_
    obtain ⟨r_8, hcl, h⟩ := bind_el h
    refine call_S1 X hW m_5_71 m_2_178 mv_X10_at (c_X10_at (kf_X3_costly hk2) hcl) (by decide) rfl rfl (Nat.le_of_ble_eq_true rfl) hl.1 dX10_step_109 ?_
    clear hW hcl; intro H locs hW
    cases h
  replace h := if_f hc5 h
  refine lv_tableOut (tgt := 113) hx hb dX10_step_9 (tb_out (n := 6) (by decide) rfl (fun k hk => match k, hk with | 0, _ => hc0 | 1, _ => hc1 | 2, _ => hc2 | 3, _ => hc3 | 4, _ => hc4 | 5, _ => hc5 | k + 6, hk => absurd hk (by omega))) (by decide) ?_
  skip
  exact thr_end0 hthr h dX10_step_113 dX10_step_116 dX10_step_117 dX10_step_120 exw_1_66 hW (Nat.le_of_ble_eq_true rfl) hl.1
set_option maxRecDepth 20000 in
set_option maxHeartbeats 4000000 in
theorem c_X10_why {G : Gt} {l : Launch} {v0 : Nat} (h0 : kd v0 = 9) {v1 : Int32} {v2 : Int32} {σ : St} {r : Int32} (hf : pf_X10_why v0 v1 v2 σ = some (.inr r)) : Ct G l yX10_why cX10_why 3 (some .int) 9 [.ref (gz G + (v0)), .int (v1), .int (v2)] σ (some (.int r)) σ := by
  refine met_i (by decide +kernel) (Nat.le_of_ble_eq_true rfl) rfl ?_
  intro p e s m args below meth c Q ls X hW hret hl
  have hx := X.1.1
  have hb := X.1.2.1
  have hl : lv_has ls 3 [(0, .ref (gz G + (v0))), (1, .int (v1)), (2, .int (v2))] := hl
  have h := hf
  clear hf
  unfold pf_X10_why at h
  refine lv_aload_n hx hb dX10_why_0 rfl (lv_at hl 0 rfl) ?_
  refine lv_iload_n hx hb dX10_why_1 rfl (lv_at hl 1 rfl) ?_
  refine lv_iload_n hx hb dX10_why_2 rfl (lv_at hl 2 rfl) ?_
  obtain ⟨r_1, hcl, h⟩ := bndX0_n h
  refine call_V1 X hW (kC_X10 h0) m_5_67 m_5_69 m_0_14 mv_X10_questWithStep (c_X10_questWithStep h0 hcl) (by decide) rfl rfl (Nat.le_of_ble_eq_true rfl) hl.1 dX10_why_3 ?_
  clear hW hcl; intro H locs hW
  obtain ⟨hk2, h⟩ := ckK_el h
  refine lv_iload_n hx hb dX10_why_6 rfl (lv_at hl 2 rfl) ?_
  refine lv_aload_n hx hb dX10_why_7 rfl (lv_at hl 0 rfl) ?_
  refine gf_X10_now X hW h0 m_2_69 dX10_why_8 ?_
  refine gf_X2_stock X hW (kf_X10_now h0) m_1_142 dX10_why_11 ?_
  obtain ⟨r_3, hcl, h⟩ := bind_el h
  refine call_V1 X hW (kC_X3 hk2) m_5_80 m_5_81 m_5_82 mv_X3_hindrance (c_X3_hindrance hk2 (kf_X2_stock (kf_X10_now h0)) hcl) (by decide) rfl rfl (Nat.le_of_ble_eq_true rfl) hl.1 dX10_why_14 ?_
  clear hW hcl; intro H locs hW
  replace h := xr_el0 h
  exact ri_end0 hret h dX10_why_17 hW
set_option maxRecDepth 20000 in
set_option maxHeartbeats 4000000 in
theorem x_X10_why {G : Gt} {l : Launch} {v0 : Nat} (h0 : kd v0 = 9) {v1 : Int32} {v2 : Int32} {σ : St} {r : Nat} (hf : pf_X10_why v0 v1 v2 σ = some (.inl r)) : CtT G l yX10_why cX10_why 3 (some .int) 9 [.ref (gz G + (v0)), .int (v1), .int (v2)] σ r σ := by
  refine met_t (by decide +kernel) (Nat.le_of_ble_eq_true rfl) (by decide) ?_
  intro p e s m args below meth c Q ls X hW hthr hpr hl
  have hx := X.1.1
  have hb := X.1.2.1
  have hl : lv_has ls 3 [(0, .ref (gz G + (v0))), (1, .int (v1)), (2, .int (v2))] := hl
  have h := hf
  clear hf
  unfold pf_X10_why at h
  refine lv_aload_n hx hb dX10_why_0 rfl (lv_at hl 0 rfl) ?_
  refine lv_iload_n hx hb dX10_why_1 rfl (lv_at hl 1 rfl) ?_
  refine lv_iload_n hx hb dX10_why_2 rfl (lv_at hl 2 rfl) ?_
  rcases bndX0_t h with hcl | ⟨r_1, hcl, h⟩
  · exact tcall_V X hW (kC_X10 h0) m_5_67 m_5_69 m_0_14 mv_X10_questWithStep (x_X10_questWithStep h0 hcl) (by decide) rfl rfl (Nat.le_of_ble_eq_true rfl) hl.1 dX10_why_3 hpr
  refine call_V1 X hW (kC_X10 h0) m_5_67 m_5_69 m_0_14 mv_X10_questWithStep (c_X10_questWithStep h0 hcl) (by decide) rfl rfl (Nat.le_of_ble_eq_true rfl) hl.1 dX10_why_3 ?_
  clear hW hcl; intro H locs hW
  obtain ⟨hk2, h⟩ := ckK_el h
  refine lv_iload_n hx hb dX10_why_6 rfl (lv_at hl 2 rfl) ?_
  refine lv_aload_n hx hb dX10_why_7 rfl (lv_at hl 0 rfl) ?_
  refine gf_X10_now X hW h0 m_2_69 dX10_why_8 ?_
  refine gf_X2_stock X hW (kf_X10_now h0) m_1_142 dX10_why_11 ?_
  obtain ⟨r_3, hcl, h⟩ := bind_el h
  refine call_V1 X hW (kC_X3 hk2) m_5_80 m_5_81 m_5_82 mv_X3_hindrance (c_X3_hindrance hk2 (kf_X2_stock (kf_X10_now h0)) hcl) (by decide) rfl rfl (Nat.le_of_ble_eq_true rfl) hl.1 dX10_why_14 ?_
  clear hW hcl; intro H locs hW
  cases h
set_option maxRecDepth 20000 in
set_option maxHeartbeats 4000000 in
theorem bl_X10_holds_b16 {σ : St} (X : Cx G p R s m args c cells slots cX10_holds 4 RX10 8) {r : Int32} (hret : R_Z G p l e R s m args below meth c cells slots Q cX10_holds r σ) :
    ∀ (_ : pf_X10_holds_b16 σ = some (.inr r)) (H : Heap) (locs : List Loc) (ls : Array Slot) (_ : GW G σ s H locs) (_ : lv_has ls 4 []), W p l e R s m args below meth c H locs cells slots Q (F0 m 16 ls []) := by
  have hx := X.1.1
  have hb := X.1.2.1
  intro h H locs ls hW hl
  unfold pf_X10_holds_b16 at h
  cases h
set_option maxRecDepth 20000 in
set_option maxHeartbeats 4000000 in
theorem c_X10_holds {G : Gt} {l : Launch} {v0 : Nat} (h0 : kd v0 = 9) {v1 : Int32} {v2 : Int32} {σ : St} {r : Int32} (hf : pf_X10_holds v0 v1 v2 σ = some (.inr r)) : Ct G l yX10_holds cX10_holds 4 (some .boolean) 8 [.ref (gz G + (v0)), .int (v1), .int (v2)] σ (some (.int r)) σ := by
  refine met_z (by decide +kernel) (Nat.le_of_ble_eq_true rfl) rfl ?_
  intro p e s m args below meth c Q ls X hW hret hl
  have hx := X.1.1
  have hb := X.1.2.1
  have hl : lv_has ls 4 [(0, .ref (gz G + (v0))), (1, .int (v1)), (2, .int (v2))] := hl
  have h := hf
  clear hf
  unfold pf_X10_holds at h
  refine lv_aload_n hx hb dX10_holds_0 rfl (lv_at hl 0 rfl) ?_
  refine lv_iload_n hx hb dX10_holds_1 rfl (lv_at hl 1 rfl) ?_
  obtain ⟨r_1, hcl, h⟩ := bndX0_n h
  refine call_V1 X hW (kC_X10 h0) m_4_156 m_4_158 m_0_10 mv_X10_questAt (c_X10_questAt h0 hcl) (by decide) rfl rfl (Nat.le_of_ble_eq_true rfl) hl.1 dX10_holds_2 ?_
  clear hW hcl; intro H locs hW
  obtain ⟨hk2, h⟩ := ckK_el h
  refine lv_astore_n (lv' := [(3, .ref (gz G + (r_1))), (0, .ref (gz G + (v0))), (1, .int (v1)), (2, .int (v2))]) hx hb dX10_holds_5 rfl hl (by decide) rfl ?_
  clear hl; intro ls hl
  refine lv_iload_n hx hb dX10_holds_6 rfl (lv_at hl 3 rfl) ?_
  refine lv_if_lt (tgt := 16) hx hb dX10_holds_7 (by decide) (fun hc => ?_) (fun hc => ?_)
  · replace h := if_t hc h
    exact bl_X10_holds_b16 X hret h _ _ _ hW (lv_sub hl [] rfl)
  · replace h := if_f hc h
    refine lv_iload_n hx hb dX10_holds_10 rfl (lv_at hl 3 rfl) ?_
    refine lv_bipush (v := 64) hx hb dX10_holds_11 (by decide) ?_
    refine lv_icmp_lt (tgt := 24) hx hb dX10_holds_13 (by decide) (fun hc => ?_) (fun hc => ?_)
    · replace h := if_t hc h
      refine lv_aload_n hx hb dX10_holds_24 rfl (lv_at hl 0 rfl) ?_
      refine lv_iload_n hx hb dX10_holds_25 rfl (lv_at hl 3 rfl) ?_
      obtain ⟨r_3, hcl, h⟩ := bind_el h
      refine call_V1 X hW (kC_X3 hk2) m_5_109 m_2_200 m_2_201 mv_X3_goalHolds (c_X3_goalHolds hk2 hcl) (by decide) rfl rfl (Nat.le_of_ble_eq_true rfl) hl.1 dX10_holds_26 ?_
      clear hW hcl; intro H locs hW
      obtain ⟨hz, h⟩ := ckZ_el h
      replace h := xr_el0 h
      exact rz_end0 hret h hz dX10_holds_29 hW
    · replace h := if_f hc h
      exact bl_X10_holds_b16 X hret h _ _ _ hW (lv_sub hl [] rfl)
set_option maxRecDepth 20000 in
set_option maxHeartbeats 4000000 in
theorem xl_X10_holds_b16 {σ : St} (X : Cx G p R s m args c cells slots cX10_holds 4 RX10 8) {r : Nat} (hthr : R_X G p l e R s m args below meth c cells slots Q cX10_holds 4 RX10 r σ) (hpr : R_P G p l e R s m args below meth c cells slots Q r σ) :
    ∀ (_ : pf_X10_holds_b16 σ = some (.inl r)) (H : Heap) (locs : List Loc) (ls : Array Slot) (_ : GW G σ s H locs) (_ : lv_has ls 4 []), W p l e R s m args below meth c H locs cells slots Q (F0 m 16 ls []) := by
  have hx := X.1.1
  have hb := X.1.2.1
  intro h H locs ls hW hl
  unfold pf_X10_holds_b16 at h
  exact thr_end0 hthr h dX10_holds_16 dX10_holds_19 dX10_holds_20 dX10_holds_23 exw_1_66 hW (Nat.le_of_ble_eq_true rfl) hl.1
set_option maxRecDepth 20000 in
set_option maxHeartbeats 4000000 in
theorem x_X10_holds {G : Gt} {l : Launch} {v0 : Nat} (h0 : kd v0 = 9) {v1 : Int32} {v2 : Int32} {σ : St} {r : Nat} (hf : pf_X10_holds v0 v1 v2 σ = some (.inl r)) : CtT G l yX10_holds cX10_holds 4 (some .boolean) 8 [.ref (gz G + (v0)), .int (v1), .int (v2)] σ r σ := by
  refine met_t (by decide +kernel) (Nat.le_of_ble_eq_true rfl) (by decide) ?_
  intro p e s m args below meth c Q ls X hW hthr hpr hl
  have hx := X.1.1
  have hb := X.1.2.1
  have hl : lv_has ls 4 [(0, .ref (gz G + (v0))), (1, .int (v1)), (2, .int (v2))] := hl
  have h := hf
  clear hf
  unfold pf_X10_holds at h
  refine lv_aload_n hx hb dX10_holds_0 rfl (lv_at hl 0 rfl) ?_
  refine lv_iload_n hx hb dX10_holds_1 rfl (lv_at hl 1 rfl) ?_
  rcases bndX0_t h with hcl | ⟨r_1, hcl, h⟩
  · exact tcall_V X hW (kC_X10 h0) m_4_156 m_4_158 m_0_10 mv_X10_questAt (x_X10_questAt h0 hcl) (by decide) rfl rfl (Nat.le_of_ble_eq_true rfl) hl.1 dX10_holds_2 hpr
  refine call_V1 X hW (kC_X10 h0) m_4_156 m_4_158 m_0_10 mv_X10_questAt (c_X10_questAt h0 hcl) (by decide) rfl rfl (Nat.le_of_ble_eq_true rfl) hl.1 dX10_holds_2 ?_
  clear hW hcl; intro H locs hW
  obtain ⟨hk2, h⟩ := ckK_el h
  refine lv_astore_n (lv' := [(3, .ref (gz G + (r_1))), (0, .ref (gz G + (v0))), (1, .int (v1)), (2, .int (v2))]) hx hb dX10_holds_5 rfl hl (by decide) rfl ?_
  clear hl; intro ls hl
  refine lv_iload_n hx hb dX10_holds_6 rfl (lv_at hl 3 rfl) ?_
  refine lv_if_lt (tgt := 16) hx hb dX10_holds_7 (by decide) (fun hc => ?_) (fun hc => ?_)
  · replace h := if_t hc h
    exact xl_X10_holds_b16 X hthr hpr h _ _ _ hW (lv_sub hl [] rfl)
  · replace h := if_f hc h
    refine lv_iload_n hx hb dX10_holds_10 rfl (lv_at hl 3 rfl) ?_
    refine lv_bipush (v := 64) hx hb dX10_holds_11 (by decide) ?_
    refine lv_icmp_lt (tgt := 24) hx hb dX10_holds_13 (by decide) (fun hc => ?_) (fun hc => ?_)
    · replace h := if_t hc h
      refine lv_aload_n hx hb dX10_holds_24 rfl (lv_at hl 0 rfl) ?_
      refine lv_iload_n hx hb dX10_holds_25 rfl (lv_at hl 3 rfl) ?_
      obtain ⟨r_3, hcl, h⟩ := bind_el h
      refine call_V1 X hW (kC_X3 hk2) m_5_109 m_2_200 m_2_201 mv_X3_goalHolds (c_X3_goalHolds hk2 hcl) (by decide) rfl rfl (Nat.le_of_ble_eq_true rfl) hl.1 dX10_holds_26 ?_
      clear hW hcl; intro H locs hW
      obtain ⟨hz, h⟩ := ckZ_el h
      cases h
    · replace h := if_f hc h
      exact xl_X10_holds_b16 X hthr hpr h _ _ _ hW (lv_sub hl [] rfl)
set_option maxRecDepth 20000 in
set_option maxHeartbeats 4000000 in
theorem c_X10_possible {G : Gt} {l : Launch} {v0 : Nat} (h0 : kd v0 = 9) {v1 : Int32} {σ : St} {r : Int32} {σ' : St} (hf : pf_X10_possible v0 v1 σ = some (.inr r, σ')) : Ct G l yX10_possible cX10_possible 2 (some .boolean) 8 [.ref (gz G + (v0)), .int (v1)] σ (some (.int r)) σ' := by
  refine met_z (by decide +kernel) (Nat.le_of_ble_eq_true rfl) rfl ?_
  intro p e s m args below meth c Q ls X hW hret hl
  have hx := X.1.1
  have hb := X.1.2.1
  have hl : lv_has ls 2 [(0, .ref (gz G + (v0))), (1, .int (v1))] := hl
  have h := hf
  clear hf
  unfold pf_X10_possible at h
  refine lv_aload_n hx hb dX10_possible_0 rfl (lv_at hl 0 rfl) ?_
  refine gf_X10_ways X hW h0 m_2_73 dX10_possible_1 ?_
  refine lv_aload_n hx hb dX10_possible_4 rfl (lv_at hl 0 rfl) ?_
  refine lv_iload_n hx hb dX10_possible_5 rfl (lv_at hl 1 rfl) ?_
  obtain ⟨r_1, hcl, h⟩ := bndX0W_n h
  refine call_V1 X hW (kC_X10 h0) m_4_156 m_4_158 m_0_10 mv_X10_questAt (c_X10_questAt h0 hcl) (by decide) rfl rfl (Nat.le_of_ble_eq_true rfl) hl.1 dX10_possible_6 ?_
  clear hW hcl; intro H locs hW
  obtain ⟨hk2, h⟩ := ckK_el h
  refine lv_aload_n hx hb dX10_possible_9 rfl (lv_at hl 0 rfl) ?_
  refine gf_X10_now X hW h0 m_2_69 dX10_possible_10 ?_
  refine gf_X2_stock X hW (kf_X10_now h0) m_1_142 dX10_possible_13 ?_
  obtain ⟨r_3, σ_3, hcl, h⟩ := bnd2_el h
  refine call_V1 X hW (kC_X7 (kf_X10_ways h0)) m_2_180 m_2_181 m_2_182 mv_X7_explore (c_X7_explore (kf_X10_ways h0) hk2 (kf_X2_stock (kf_X10_now h0)) hcl) (by decide) rfl rfl (Nat.le_of_ble_eq_true rfl) hl.1 dX10_possible_16 ?_
  clear hW hcl; intro H locs hW
  obtain ⟨hz, h⟩ := ckZ_el h
  replace h := xr_el h
  exact rz_end hret h hz dX10_possible_19 hW
set_option maxRecDepth 20000 in
set_option maxHeartbeats 4000000 in
theorem x_X10_possible {G : Gt} {l : Launch} {v0 : Nat} (h0 : kd v0 = 9) {v1 : Int32} {σ : St} {r : Nat} {σ' : St} (hf : pf_X10_possible v0 v1 σ = some (.inl r, σ')) : CtT G l yX10_possible cX10_possible 2 (some .boolean) 8 [.ref (gz G + (v0)), .int (v1)] σ r σ' := by
  refine met_t (by decide +kernel) (Nat.le_of_ble_eq_true rfl) (by decide) ?_
  intro p e s m args below meth c Q ls X hW hthr hpr hl
  have hx := X.1.1
  have hb := X.1.2.1
  have hl : lv_has ls 2 [(0, .ref (gz G + (v0))), (1, .int (v1))] := hl
  have h := hf
  clear hf
  unfold pf_X10_possible at h
  refine lv_aload_n hx hb dX10_possible_0 rfl (lv_at hl 0 rfl) ?_
  refine gf_X10_ways X hW h0 m_2_73 dX10_possible_1 ?_
  refine lv_aload_n hx hb dX10_possible_4 rfl (lv_at hl 0 rfl) ?_
  refine lv_iload_n hx hb dX10_possible_5 rfl (lv_at hl 1 rfl) ?_
  rcases bndX0W_t h with ⟨hcl, rfl⟩ | ⟨r_1, hcl, h⟩
  · exact tcall_V X hW (kC_X10 h0) m_4_156 m_4_158 m_0_10 mv_X10_questAt (x_X10_questAt h0 hcl) (by decide) rfl rfl (Nat.le_of_ble_eq_true rfl) hl.1 dX10_possible_6 hpr
  refine call_V1 X hW (kC_X10 h0) m_4_156 m_4_158 m_0_10 mv_X10_questAt (c_X10_questAt h0 hcl) (by decide) rfl rfl (Nat.le_of_ble_eq_true rfl) hl.1 dX10_possible_6 ?_
  clear hW hcl; intro H locs hW
  obtain ⟨hk2, h⟩ := ckK_el h
  refine lv_aload_n hx hb dX10_possible_9 rfl (lv_at hl 0 rfl) ?_
  refine gf_X10_now X hW h0 m_2_69 dX10_possible_10 ?_
  refine gf_X2_stock X hW (kf_X10_now h0) m_1_142 dX10_possible_13 ?_
  obtain ⟨r_3, σ_3, hcl, h⟩ := bnd2_el h
  refine call_V1 X hW (kC_X7 (kf_X10_ways h0)) m_2_180 m_2_181 m_2_182 mv_X7_explore (c_X7_explore (kf_X10_ways h0) hk2 (kf_X2_stock (kf_X10_now h0)) hcl) (by decide) rfl rfl (Nat.le_of_ble_eq_true rfl) hl.1 dX10_possible_16 ?_
  clear hW hcl; intro H locs hW
  obtain ⟨hz, h⟩ := ckZ_el h
  cases h
set_option maxRecDepth 20000 in
set_option maxHeartbeats 4000000 in
theorem c_X10_planLength {G : Gt} {l : Launch} {v0 : Nat} (h0 : kd v0 = 9) {v1 : Int32} {σ : St} {r : Int32} {σ' : St} (hf : pf_X10_planLength v0 v1 σ = some (.inr r, σ')) : Ct G l yX10_planLength cX10_planLength 3 (some .int) 8 [.ref (gz G + (v0)), .int (v1)] σ (some (.int r)) σ' := by
  refine met_i (by decide +kernel) (Nat.le_of_ble_eq_true rfl) rfl ?_
  intro p e s m args below meth c Q ls X hW hret hl
  have hx := X.1.1
  have hb := X.1.2.1
  have hl : lv_has ls 3 [(0, .ref (gz G + (v0))), (1, .int (v1))] := hl
  have h := hf
  clear hf
  unfold pf_X10_planLength at h
  refine lv_aload_n hx hb dX10_planLength_0 rfl (lv_at hl 0 rfl) ?_
  refine lv_iload_n hx hb dX10_planLength_1 rfl (lv_at hl 1 rfl) ?_
  obtain ⟨r_1, hcl, h⟩ := bndX0W_n h
  refine call_V1 X hW (kC_X10 h0) m_4_156 m_4_158 m_0_10 mv_X10_questAt (c_X10_questAt h0 hcl) (by decide) rfl rfl (Nat.le_of_ble_eq_true rfl) hl.1 dX10_planLength_2 ?_
  clear hW hcl; intro H locs hW
  obtain ⟨hk2, h⟩ := ckK_el h
  refine lv_astore_n (lv' := [(2, .ref (gz G + (r_1))), (0, .ref (gz G + (v0))), (1, .int (v1))]) hx hb dX10_planLength_5 rfl hl (by decide) rfl ?_
  clear hl; intro ls hl
  refine lv_aload_n hx hb dX10_planLength_6 rfl (lv_at hl 1 rfl) ?_
  refine gf_X10_ways X hW h0 m_2_73 dX10_planLength_7 ?_
  refine lv_aload_n hx hb dX10_planLength_10 rfl (lv_at hl 0 rfl) ?_
  refine lv_aload_n hx hb dX10_planLength_11 rfl (lv_at hl 1 rfl) ?_
  refine gf_X10_now X hW h0 m_2_69 dX10_planLength_12 ?_
  refine gf_X2_stock X hW (kf_X10_now h0) m_1_142 dX10_planLength_15 ?_
  obtain ⟨r_3, σ_3, hcl, h⟩ := bnd2_el h
  refine call_V1 X hW (kC_X7 (kf_X10_ways h0)) m_2_180 m_2_181 m_2_182 mv_X7_explore (c_X7_explore (kf_X10_ways h0) hk2 (kf_X2_stock (kf_X10_now h0)) hcl) (by decide) rfl rfl (Nat.le_of_ble_eq_true rfl) hl.1 dX10_planLength_18 ?_
  clear hW hcl; intro H locs hW
  refine lv_pop hx hb dX10_planLength_21 rfl ?_
  refine lv_aload_n hx hb dX10_planLength_22 rfl (lv_at hl 1 rfl) ?_
  refine gf_X10_ways X hW h0 m_2_73 dX10_planLength_23 ?_
  refine lv_aload_n hx hb dX10_planLength_26 rfl (lv_at hl 0 rfl) ?_
  obtain ⟨r_4, hcl, h⟩ := bind_el h
  refine call_V1 X hW (kC_X7 (kf_X10_ways h0)) m_4_179 m_4_180 m_4_181 mv_X7_lengthOfPlan (c_X7_lengthOfPlan (kf_X10_ways h0) hk2 hcl) (by decide) rfl rfl (Nat.le_of_ble_eq_true rfl) hl.1 dX10_planLength_27 ?_
  clear hW hcl; intro H locs hW
  replace h := xr_el h
  exact ri_end hret h dX10_planLength_30 hW
set_option maxRecDepth 20000 in
set_option maxHeartbeats 4000000 in
theorem x_X10_planLength {G : Gt} {l : Launch} {v0 : Nat} (h0 : kd v0 = 9) {v1 : Int32} {σ : St} {r : Nat} {σ' : St} (hf : pf_X10_planLength v0 v1 σ = some (.inl r, σ')) : CtT G l yX10_planLength cX10_planLength 3 (some .int) 8 [.ref (gz G + (v0)), .int (v1)] σ r σ' := by
  refine met_t (by decide +kernel) (Nat.le_of_ble_eq_true rfl) (by decide) ?_
  intro p e s m args below meth c Q ls X hW hthr hpr hl
  have hx := X.1.1
  have hb := X.1.2.1
  have hl : lv_has ls 3 [(0, .ref (gz G + (v0))), (1, .int (v1))] := hl
  have h := hf
  clear hf
  unfold pf_X10_planLength at h
  refine lv_aload_n hx hb dX10_planLength_0 rfl (lv_at hl 0 rfl) ?_
  refine lv_iload_n hx hb dX10_planLength_1 rfl (lv_at hl 1 rfl) ?_
  rcases bndX0W_t h with ⟨hcl, rfl⟩ | ⟨r_1, hcl, h⟩
  · exact tcall_V X hW (kC_X10 h0) m_4_156 m_4_158 m_0_10 mv_X10_questAt (x_X10_questAt h0 hcl) (by decide) rfl rfl (Nat.le_of_ble_eq_true rfl) hl.1 dX10_planLength_2 hpr
  refine call_V1 X hW (kC_X10 h0) m_4_156 m_4_158 m_0_10 mv_X10_questAt (c_X10_questAt h0 hcl) (by decide) rfl rfl (Nat.le_of_ble_eq_true rfl) hl.1 dX10_planLength_2 ?_
  clear hW hcl; intro H locs hW
  obtain ⟨hk2, h⟩ := ckK_el h
  refine lv_astore_n (lv' := [(2, .ref (gz G + (r_1))), (0, .ref (gz G + (v0))), (1, .int (v1))]) hx hb dX10_planLength_5 rfl hl (by decide) rfl ?_
  clear hl; intro ls hl
  refine lv_aload_n hx hb dX10_planLength_6 rfl (lv_at hl 1 rfl) ?_
  refine gf_X10_ways X hW h0 m_2_73 dX10_planLength_7 ?_
  refine lv_aload_n hx hb dX10_planLength_10 rfl (lv_at hl 0 rfl) ?_
  refine lv_aload_n hx hb dX10_planLength_11 rfl (lv_at hl 1 rfl) ?_
  refine gf_X10_now X hW h0 m_2_69 dX10_planLength_12 ?_
  refine gf_X2_stock X hW (kf_X10_now h0) m_1_142 dX10_planLength_15 ?_
  obtain ⟨r_3, σ_3, hcl, h⟩ := bnd2_el h
  refine call_V1 X hW (kC_X7 (kf_X10_ways h0)) m_2_180 m_2_181 m_2_182 mv_X7_explore (c_X7_explore (kf_X10_ways h0) hk2 (kf_X2_stock (kf_X10_now h0)) hcl) (by decide) rfl rfl (Nat.le_of_ble_eq_true rfl) hl.1 dX10_planLength_18 ?_
  clear hW hcl; intro H locs hW
  refine lv_pop hx hb dX10_planLength_21 rfl ?_
  refine lv_aload_n hx hb dX10_planLength_22 rfl (lv_at hl 1 rfl) ?_
  refine gf_X10_ways X hW h0 m_2_73 dX10_planLength_23 ?_
  refine lv_aload_n hx hb dX10_planLength_26 rfl (lv_at hl 0 rfl) ?_
  obtain ⟨r_4, hcl, h⟩ := bind_el h
  refine call_V1 X hW (kC_X7 (kf_X10_ways h0)) m_4_179 m_4_180 m_4_181 mv_X7_lengthOfPlan (c_X7_lengthOfPlan (kf_X10_ways h0) hk2 hcl) (by decide) rfl rfl (Nat.le_of_ble_eq_true rfl) hl.1 dX10_planLength_27 ?_
  clear hW hcl; intro H locs hW
  cases h
set_option maxRecDepth 20000 in
set_option maxHeartbeats 4000000 in
theorem bl_X10_planStep_b38 (X : Cx G p R s m args c cells slots cX10_planStep 4 RX10 8) {r : Int32} {σ' : St} (hret : R_I G p l e R s m args below meth c cells slots Q cX10_planStep r σ') :
    ∀ (σ : St) (_ : pf_X10_planStep_b38 σ = some (.inr r, σ')) (H : Heap) (locs : List Loc) (ls : Array Slot) (_ : GW G σ s H locs) (_ : lv_has ls 4 []), W p l e R s m args below meth c H locs cells slots Q (F0 m 38 ls []) := by
  have hx := X.1.1
  have hb := X.1.2.1
  intro σ h H locs ls hW hl
  unfold pf_X10_planStep_b38 at h
  cases h
set_option maxRecDepth 20000 in
set_option maxHeartbeats 4000000 in
theorem c_X10_planStep {G : Gt} {l : Launch} {v0 : Nat} (h0 : kd v0 = 9) {v1 : Int32} {v2 : Int32} {σ : St} {r : Int32} {σ' : St} (hf : pf_X10_planStep v0 v1 v2 σ = some (.inr r, σ')) : Ct G l yX10_planStep cX10_planStep 4 (some .int) 8 [.ref (gz G + (v0)), .int (v1), .int (v2)] σ (some (.int r)) σ' := by
  refine met_i (by decide +kernel) (Nat.le_of_ble_eq_true rfl) rfl ?_
  intro p e s m args below meth c Q ls X hW hret hl
  have hx := X.1.1
  have hb := X.1.2.1
  have hl : lv_has ls 4 [(0, .ref (gz G + (v0))), (1, .int (v1)), (2, .int (v2))] := hl
  have h := hf
  clear hf
  unfold pf_X10_planStep at h
  refine lv_aload_n hx hb dX10_planStep_0 rfl (lv_at hl 0 rfl) ?_
  refine lv_iload_n hx hb dX10_planStep_1 rfl (lv_at hl 1 rfl) ?_
  obtain ⟨r_1, hcl, h⟩ := bndX0W_n h
  refine call_V1 X hW (kC_X10 h0) m_4_156 m_4_158 m_0_10 mv_X10_questAt (c_X10_questAt h0 hcl) (by decide) rfl rfl (Nat.le_of_ble_eq_true rfl) hl.1 dX10_planStep_2 ?_
  clear hW hcl; intro H locs hW
  obtain ⟨hk2, h⟩ := ckK_el h
  refine lv_astore_n (lv' := [(3, .ref (gz G + (r_1))), (0, .ref (gz G + (v0))), (1, .int (v1)), (2, .int (v2))]) hx hb dX10_planStep_5 rfl hl (by decide) rfl ?_
  clear hl; intro ls hl
  refine lv_aload_n hx hb dX10_planStep_6 rfl (lv_at hl 1 rfl) ?_
  refine gf_X10_ways X hW h0 m_2_73 dX10_planStep_7 ?_
  refine lv_aload_n hx hb dX10_planStep_10 rfl (lv_at hl 0 rfl) ?_
  refine lv_aload_n hx hb dX10_planStep_11 rfl (lv_at hl 1 rfl) ?_
  refine gf_X10_now X hW h0 m_2_69 dX10_planStep_12 ?_
  refine gf_X2_stock X hW (kf_X10_now h0) m_1_142 dX10_planStep_15 ?_
  obtain ⟨r_3, σ_3, hcl, h⟩ := bnd2_el h
  refine call_V1 X hW (kC_X7 (kf_X10_ways h0)) m_2_180 m_2_181 m_2_182 mv_X7_explore (c_X7_explore (kf_X10_ways h0) hk2 (kf_X2_stock (kf_X10_now h0)) hcl) (by decide) rfl rfl (Nat.le_of_ble_eq_true rfl) hl.1 dX10_planStep_18 ?_
  clear hW hcl; intro H locs hW
  refine lv_pop hx hb dX10_planStep_21 rfl ?_
  refine lv_iload_n hx hb dX10_planStep_22 rfl (lv_at hl 3 rfl) ?_
  refine lv_if_lt (tgt := 38) hx hb dX10_planStep_23 (by decide) (fun hc => ?_) (fun hc => ?_)
  · replace h := if_t hc h
    exact bl_X10_planStep_b38 X hret σ_3 h _ _ _ hW (lv_sub hl [] rfl)
  · replace h := if_f hc h
    refine lv_iload_n hx hb dX10_planStep_26 rfl (lv_at hl 3 rfl) ?_
    refine lv_aload_n hx hb dX10_planStep_27 rfl (lv_at hl 1 rfl) ?_
    refine gf_X10_ways X hW h0 m_2_73 dX10_planStep_28 ?_
    refine lv_aload_n hx hb dX10_planStep_31 rfl (lv_at hl 0 rfl) ?_
    obtain ⟨r_4, hcl, h⟩ := bind_el h
    refine call_V1 X hW (kC_X7 (kf_X10_ways h0)) m_4_179 m_4_180 m_4_181 mv_X7_lengthOfPlan (c_X7_lengthOfPlan (kf_X10_ways h0) hk2 hcl) (by decide) rfl rfl (Nat.le_of_ble_eq_true rfl) hl.1 dX10_planStep_32 ?_
    clear hW hcl; intro H locs hW
    refine lv_icmp_lt (tgt := 46) hx hb dX10_planStep_35 (by decide) (fun hc => ?_) (fun hc => ?_)
    · replace h := if_t hc h
      refine lv_aload_n hx hb dX10_planStep_46 rfl (lv_at hl 1 rfl) ?_
      refine gf_X10_ways X hW h0 m_2_73 dX10_planStep_47 ?_
      refine lv_aload_n hx hb dX10_planStep_50 rfl (lv_at hl 1 rfl) ?_
      refine gf_X10_ways X hW h0 m_2_73 dX10_planStep_51 ?_
      refine lv_aload_n hx hb dX10_planStep_54 rfl (lv_at hl 0 rfl) ?_
      refine lv_iload_n hx hb dX10_planStep_55 rfl (lv_at hl 3 rfl) ?_
      obtain ⟨r_5, hcl, h⟩ := bind_el h
      refine call_V1 X hW (kC_X7 (kf_X10_ways h0)) m_5_39 m_4_215 m_4_216 mv_X7_setBehindPlan (c_X7_setBehindPlan (kf_X10_ways h0) hk2 hcl) (by decide) rfl rfl (Nat.le_of_ble_eq_true rfl) hl.1 dX10_planStep_56 ?_
      clear hW hcl; intro H locs hW
      obtain ⟨r_6, hcl, h⟩ := bind_el h
      refine call_V1 X hW (kC_X7 (kf_X10_ways h0)) m_5_40 m_4_219 m_4_220 mv_X7_nextOfPlan (c_X7_nextOfPlan (kf_X10_ways h0) hcl) (by decide) rfl rfl (Nat.le_of_ble_eq_true rfl) hl.1 dX10_planStep_59 ?_
      clear hW hcl; intro H locs hW
      replace h := xr_el h
      exact ri_end hret h dX10_planStep_62 hW
    · replace h := if_f hc h
      exact bl_X10_planStep_b38 X hret σ_3 h _ _ _ hW (lv_sub hl [] rfl)
set_option maxRecDepth 20000 in
set_option maxHeartbeats 4000000 in
theorem xl_X10_planStep_b38 (X : Cx G p R s m args c cells slots cX10_planStep 4 RX10 8) {r : Nat} {σ' : St} (hthr : R_X G p l e R s m args below meth c cells slots Q cX10_planStep 4 RX10 r σ') (hpr : R_P G p l e R s m args below meth c cells slots Q r σ') :
    ∀ (σ : St) (_ : pf_X10_planStep_b38 σ = some (.inl r, σ')) (H : Heap) (locs : List Loc) (ls : Array Slot) (_ : GW G σ s H locs) (_ : lv_has ls 4 []), W p l e R s m args below meth c H locs cells slots Q (F0 m 38 ls []) := by
  have hx := X.1.1
  have hb := X.1.2.1
  intro σ h H locs ls hW hl
  unfold pf_X10_planStep_b38 at h
  exact thr_end hthr h dX10_planStep_38 dX10_planStep_41 dX10_planStep_42 dX10_planStep_45 exw_4_195 hW (Nat.le_of_ble_eq_true rfl) hl.1
set_option maxRecDepth 20000 in
set_option maxHeartbeats 4000000 in
theorem x_X10_planStep {G : Gt} {l : Launch} {v0 : Nat} (h0 : kd v0 = 9) {v1 : Int32} {v2 : Int32} {σ : St} {r : Nat} {σ' : St} (hf : pf_X10_planStep v0 v1 v2 σ = some (.inl r, σ')) : CtT G l yX10_planStep cX10_planStep 4 (some .int) 8 [.ref (gz G + (v0)), .int (v1), .int (v2)] σ r σ' := by
  refine met_t (by decide +kernel) (Nat.le_of_ble_eq_true rfl) (by decide) ?_
  intro p e s m args below meth c Q ls X hW hthr hpr hl
  have hx := X.1.1
  have hb := X.1.2.1
  have hl : lv_has ls 4 [(0, .ref (gz G + (v0))), (1, .int (v1)), (2, .int (v2))] := hl
  have h := hf
  clear hf
  unfold pf_X10_planStep at h
  refine lv_aload_n hx hb dX10_planStep_0 rfl (lv_at hl 0 rfl) ?_
  refine lv_iload_n hx hb dX10_planStep_1 rfl (lv_at hl 1 rfl) ?_
  rcases bndX0W_t h with ⟨hcl, rfl⟩ | ⟨r_1, hcl, h⟩
  · exact tcall_V X hW (kC_X10 h0) m_4_156 m_4_158 m_0_10 mv_X10_questAt (x_X10_questAt h0 hcl) (by decide) rfl rfl (Nat.le_of_ble_eq_true rfl) hl.1 dX10_planStep_2 hpr
  refine call_V1 X hW (kC_X10 h0) m_4_156 m_4_158 m_0_10 mv_X10_questAt (c_X10_questAt h0 hcl) (by decide) rfl rfl (Nat.le_of_ble_eq_true rfl) hl.1 dX10_planStep_2 ?_
  clear hW hcl; intro H locs hW
  obtain ⟨hk2, h⟩ := ckK_el h
  refine lv_astore_n (lv' := [(3, .ref (gz G + (r_1))), (0, .ref (gz G + (v0))), (1, .int (v1)), (2, .int (v2))]) hx hb dX10_planStep_5 rfl hl (by decide) rfl ?_
  clear hl; intro ls hl
  refine lv_aload_n hx hb dX10_planStep_6 rfl (lv_at hl 1 rfl) ?_
  refine gf_X10_ways X hW h0 m_2_73 dX10_planStep_7 ?_
  refine lv_aload_n hx hb dX10_planStep_10 rfl (lv_at hl 0 rfl) ?_
  refine lv_aload_n hx hb dX10_planStep_11 rfl (lv_at hl 1 rfl) ?_
  refine gf_X10_now X hW h0 m_2_69 dX10_planStep_12 ?_
  refine gf_X2_stock X hW (kf_X10_now h0) m_1_142 dX10_planStep_15 ?_
  obtain ⟨r_3, σ_3, hcl, h⟩ := bnd2_el h
  refine call_V1 X hW (kC_X7 (kf_X10_ways h0)) m_2_180 m_2_181 m_2_182 mv_X7_explore (c_X7_explore (kf_X10_ways h0) hk2 (kf_X2_stock (kf_X10_now h0)) hcl) (by decide) rfl rfl (Nat.le_of_ble_eq_true rfl) hl.1 dX10_planStep_18 ?_
  clear hW hcl; intro H locs hW
  refine lv_pop hx hb dX10_planStep_21 rfl ?_
  refine lv_iload_n hx hb dX10_planStep_22 rfl (lv_at hl 3 rfl) ?_
  refine lv_if_lt (tgt := 38) hx hb dX10_planStep_23 (by decide) (fun hc => ?_) (fun hc => ?_)
  · replace h := if_t hc h
    exact xl_X10_planStep_b38 X hthr hpr σ_3 h _ _ _ hW (lv_sub hl [] rfl)
  · replace h := if_f hc h
    refine lv_iload_n hx hb dX10_planStep_26 rfl (lv_at hl 3 rfl) ?_
    refine lv_aload_n hx hb dX10_planStep_27 rfl (lv_at hl 1 rfl) ?_
    refine gf_X10_ways X hW h0 m_2_73 dX10_planStep_28 ?_
    refine lv_aload_n hx hb dX10_planStep_31 rfl (lv_at hl 0 rfl) ?_
    obtain ⟨r_4, hcl, h⟩ := bind_el h
    refine call_V1 X hW (kC_X7 (kf_X10_ways h0)) m_4_179 m_4_180 m_4_181 mv_X7_lengthOfPlan (c_X7_lengthOfPlan (kf_X10_ways h0) hk2 hcl) (by decide) rfl rfl (Nat.le_of_ble_eq_true rfl) hl.1 dX10_planStep_32 ?_
    clear hW hcl; intro H locs hW
    refine lv_icmp_lt (tgt := 46) hx hb dX10_planStep_35 (by decide) (fun hc => ?_) (fun hc => ?_)
    · replace h := if_t hc h
      refine lv_aload_n hx hb dX10_planStep_46 rfl (lv_at hl 1 rfl) ?_
      refine gf_X10_ways X hW h0 m_2_73 dX10_planStep_47 ?_
      refine lv_aload_n hx hb dX10_planStep_50 rfl (lv_at hl 1 rfl) ?_
      refine gf_X10_ways X hW h0 m_2_73 dX10_planStep_51 ?_
      refine lv_aload_n hx hb dX10_planStep_54 rfl (lv_at hl 0 rfl) ?_
      refine lv_iload_n hx hb dX10_planStep_55 rfl (lv_at hl 3 rfl) ?_
      obtain ⟨r_5, hcl, h⟩ := bind_el h
      refine call_V1 X hW (kC_X7 (kf_X10_ways h0)) m_5_39 m_4_215 m_4_216 mv_X7_setBehindPlan (c_X7_setBehindPlan (kf_X10_ways h0) hk2 hcl) (by decide) rfl rfl (Nat.le_of_ble_eq_true rfl) hl.1 dX10_planStep_56 ?_
      clear hW hcl; intro H locs hW
      obtain ⟨r_6, hcl, h⟩ := bind_el h
      refine call_V1 X hW (kC_X7 (kf_X10_ways h0)) m_5_40 m_4_219 m_4_220 mv_X7_nextOfPlan (c_X7_nextOfPlan (kf_X10_ways h0) hcl) (by decide) rfl rfl (Nat.le_of_ble_eq_true rfl) hl.1 dX10_planStep_59 ?_
      clear hW hcl; intro H locs hW
      cases h
    · replace h := if_f hc h
      exact xl_X10_planStep_b38 X hthr hpr σ_3 h _ _ _ hW (lv_sub hl [] rfl)
set_option maxRecDepth 20000 in
set_option maxHeartbeats 4000000 in
theorem c_X10_safest {G : Gt} {l : Launch} {v0 : Nat} (h0 : kd v0 = 9) {v1 : Int32} {σ : St} {r : Int32} {σ' : St} (hf : pf_X10_safest v0 v1 σ = some (.inr r, σ')) : Ct G l yX10_safest cX10_safest 3 (some .int) 8 [.ref (gz G + (v0)), .int (v1)] σ (some (.int r)) σ' := by
  refine met_i (by decide +kernel) (Nat.le_of_ble_eq_true rfl) rfl ?_
  intro p e s m args below meth c Q ls X hW hret hl
  have hx := X.1.1
  have hb := X.1.2.1
  have hl : lv_has ls 3 [(0, .ref (gz G + (v0))), (1, .int (v1))] := hl
  have h := hf
  clear hf
  unfold pf_X10_safest at h
  refine lv_aload_n hx hb dX10_safest_0 rfl (lv_at hl 0 rfl) ?_
  refine lv_iload_n hx hb dX10_safest_1 rfl (lv_at hl 1 rfl) ?_
  obtain ⟨r_1, hcl, h⟩ := bndX0W_n h
  refine call_V1 X hW (kC_X10 h0) m_4_156 m_4_158 m_0_10 mv_X10_questAt (c_X10_questAt h0 hcl) (by decide) rfl rfl (Nat.le_of_ble_eq_true rfl) hl.1 dX10_safest_2 ?_
  clear hW hcl; intro H locs hW
  obtain ⟨hk2, h⟩ := ckK_el h
  refine lv_astore_n (lv' := [(2, .ref (gz G + (r_1))), (0, .ref (gz G + (v0))), (1, .int (v1))]) hx hb dX10_safest_5 rfl hl (by decide) rfl ?_
  clear hl; intro ls hl
  refine lv_aload_n hx hb dX10_safest_6 rfl (lv_at hl 1 rfl) ?_
  refine gf_X10_ways X hW h0 m_2_73 dX10_safest_7 ?_
  refine lv_aload_n hx hb dX10_safest_10 rfl (lv_at hl 0 rfl) ?_
  refine lv_aload_n hx hb dX10_safest_11 rfl (lv_at hl 1 rfl) ?_
  refine gf_X10_now X hW h0 m_2_69 dX10_safest_12 ?_
  refine gf_X2_stock X hW (kf_X10_now h0) m_1_142 dX10_safest_15 ?_
  obtain ⟨r_3, σ_3, hcl, h⟩ := bnd2_el h
  refine call_V1 X hW (kC_X7 (kf_X10_ways h0)) m_2_180 m_2_181 m_2_182 mv_X7_explore (c_X7_explore (kf_X10_ways h0) hk2 (kf_X2_stock (kf_X10_now h0)) hcl) (by decide) rfl rfl (Nat.le_of_ble_eq_true rfl) hl.1 dX10_safest_18 ?_
  clear hW hcl; intro H locs hW
  refine lv_pop hx hb dX10_safest_21 rfl ?_
  refine lv_aload_n hx hb dX10_safest_22 rfl (lv_at hl 1 rfl) ?_
  refine gf_X10_ways X hW h0 m_2_73 dX10_safest_23 ?_
  refine lv_aload_n hx hb dX10_safest_26 rfl (lv_at hl 0 rfl) ?_
  obtain ⟨r_4, hcl, h⟩ := bind_el h
  refine call_V1 X hW (kC_X7 (kf_X10_ways h0)) m_4_187 m_4_188 m_4_189 mv_X7_smallestRisk (c_X7_smallestRisk (kf_X10_ways h0) hk2 hcl) (by decide) rfl rfl (Nat.le_of_ble_eq_true rfl) hl.1 dX10_safest_27 ?_
  clear hW hcl; intro H locs hW
  replace h := xr_el h
  exact ri_end hret h dX10_safest_30 hW
set_option maxRecDepth 20000 in
set_option maxHeartbeats 4000000 in
theorem x_X10_safest {G : Gt} {l : Launch} {v0 : Nat} (h0 : kd v0 = 9) {v1 : Int32} {σ : St} {r : Nat} {σ' : St} (hf : pf_X10_safest v0 v1 σ = some (.inl r, σ')) : CtT G l yX10_safest cX10_safest 3 (some .int) 8 [.ref (gz G + (v0)), .int (v1)] σ r σ' := by
  refine met_t (by decide +kernel) (Nat.le_of_ble_eq_true rfl) (by decide) ?_
  intro p e s m args below meth c Q ls X hW hthr hpr hl
  have hx := X.1.1
  have hb := X.1.2.1
  have hl : lv_has ls 3 [(0, .ref (gz G + (v0))), (1, .int (v1))] := hl
  have h := hf
  clear hf
  unfold pf_X10_safest at h
  refine lv_aload_n hx hb dX10_safest_0 rfl (lv_at hl 0 rfl) ?_
  refine lv_iload_n hx hb dX10_safest_1 rfl (lv_at hl 1 rfl) ?_
  rcases bndX0W_t h with ⟨hcl, rfl⟩ | ⟨r_1, hcl, h⟩
  · exact tcall_V X hW (kC_X10 h0) m_4_156 m_4_158 m_0_10 mv_X10_questAt (x_X10_questAt h0 hcl) (by decide) rfl rfl (Nat.le_of_ble_eq_true rfl) hl.1 dX10_safest_2 hpr
  refine call_V1 X hW (kC_X10 h0) m_4_156 m_4_158 m_0_10 mv_X10_questAt (c_X10_questAt h0 hcl) (by decide) rfl rfl (Nat.le_of_ble_eq_true rfl) hl.1 dX10_safest_2 ?_
  clear hW hcl; intro H locs hW
  obtain ⟨hk2, h⟩ := ckK_el h
  refine lv_astore_n (lv' := [(2, .ref (gz G + (r_1))), (0, .ref (gz G + (v0))), (1, .int (v1))]) hx hb dX10_safest_5 rfl hl (by decide) rfl ?_
  clear hl; intro ls hl
  refine lv_aload_n hx hb dX10_safest_6 rfl (lv_at hl 1 rfl) ?_
  refine gf_X10_ways X hW h0 m_2_73 dX10_safest_7 ?_
  refine lv_aload_n hx hb dX10_safest_10 rfl (lv_at hl 0 rfl) ?_
  refine lv_aload_n hx hb dX10_safest_11 rfl (lv_at hl 1 rfl) ?_
  refine gf_X10_now X hW h0 m_2_69 dX10_safest_12 ?_
  refine gf_X2_stock X hW (kf_X10_now h0) m_1_142 dX10_safest_15 ?_
  obtain ⟨r_3, σ_3, hcl, h⟩ := bnd2_el h
  refine call_V1 X hW (kC_X7 (kf_X10_ways h0)) m_2_180 m_2_181 m_2_182 mv_X7_explore (c_X7_explore (kf_X10_ways h0) hk2 (kf_X2_stock (kf_X10_now h0)) hcl) (by decide) rfl rfl (Nat.le_of_ble_eq_true rfl) hl.1 dX10_safest_18 ?_
  clear hW hcl; intro H locs hW
  refine lv_pop hx hb dX10_safest_21 rfl ?_
  refine lv_aload_n hx hb dX10_safest_22 rfl (lv_at hl 1 rfl) ?_
  refine gf_X10_ways X hW h0 m_2_73 dX10_safest_23 ?_
  refine lv_aload_n hx hb dX10_safest_26 rfl (lv_at hl 0 rfl) ?_
  obtain ⟨r_4, hcl, h⟩ := bind_el h
  refine call_V1 X hW (kC_X7 (kf_X10_ways h0)) m_4_187 m_4_188 m_4_189 mv_X7_smallestRisk (c_X7_smallestRisk (kf_X10_ways h0) hk2 hcl) (by decide) rfl rfl (Nat.le_of_ble_eq_true rfl) hl.1 dX10_safest_27 ?_
  clear hW hcl; intro H locs hW
  cases h
set_option maxRecDepth 20000 in
set_option maxHeartbeats 4000000 in
theorem c_X10_endings {G : Gt} {l : Launch} {v0 : Nat} (h0 : kd v0 = 9) {v1 : Int32} {σ : St} {r : Int32} {σ' : St} (hf : pf_X10_endings v0 v1 σ = some (.inr r, σ')) : Ct G l yX10_endings cX10_endings 3 (some .int) 8 [.ref (gz G + (v0)), .int (v1)] σ (some (.int r)) σ' := by
  refine met_i (by decide +kernel) (Nat.le_of_ble_eq_true rfl) rfl ?_
  intro p e s m args below meth c Q ls X hW hret hl
  have hx := X.1.1
  have hb := X.1.2.1
  have hl : lv_has ls 3 [(0, .ref (gz G + (v0))), (1, .int (v1))] := hl
  have h := hf
  clear hf
  unfold pf_X10_endings at h
  refine lv_aload_n hx hb dX10_endings_0 rfl (lv_at hl 0 rfl) ?_
  refine lv_iload_n hx hb dX10_endings_1 rfl (lv_at hl 1 rfl) ?_
  obtain ⟨r_1, hcl, h⟩ := bndX0W_n h
  refine call_V1 X hW (kC_X10 h0) m_4_156 m_4_158 m_0_10 mv_X10_questAt (c_X10_questAt h0 hcl) (by decide) rfl rfl (Nat.le_of_ble_eq_true rfl) hl.1 dX10_endings_2 ?_
  clear hW hcl; intro H locs hW
  obtain ⟨hk2, h⟩ := ckK_el h
  refine lv_astore_n (lv' := [(2, .ref (gz G + (r_1))), (0, .ref (gz G + (v0))), (1, .int (v1))]) hx hb dX10_endings_5 rfl hl (by decide) rfl ?_
  clear hl; intro ls hl
  refine lv_aload_n hx hb dX10_endings_6 rfl (lv_at hl 1 rfl) ?_
  refine gf_X10_ways X hW h0 m_2_73 dX10_endings_7 ?_
  refine lv_aload_n hx hb dX10_endings_10 rfl (lv_at hl 0 rfl) ?_
  refine lv_aload_n hx hb dX10_endings_11 rfl (lv_at hl 1 rfl) ?_
  refine gf_X10_now X hW h0 m_2_69 dX10_endings_12 ?_
  refine gf_X2_stock X hW (kf_X10_now h0) m_1_142 dX10_endings_15 ?_
  obtain ⟨r_3, σ_3, hcl, h⟩ := bnd2_el h
  refine call_V1 X hW (kC_X7 (kf_X10_ways h0)) m_2_180 m_2_181 m_2_182 mv_X7_explore (c_X7_explore (kf_X10_ways h0) hk2 (kf_X2_stock (kf_X10_now h0)) hcl) (by decide) rfl rfl (Nat.le_of_ble_eq_true rfl) hl.1 dX10_endings_18 ?_
  clear hW hcl; intro H locs hW
  refine lv_pop hx hb dX10_endings_21 rfl ?_
  refine lv_aload_n hx hb dX10_endings_22 rfl (lv_at hl 1 rfl) ?_
  refine gf_X10_ways X hW h0 m_2_73 dX10_endings_23 ?_
  refine lv_aload_n hx hb dX10_endings_26 rfl (lv_at hl 0 rfl) ?_
  obtain ⟨r_4, hcl, h⟩ := bind_el h
  refine call_V1 X hW (kC_X7 (kf_X10_ways h0)) m_5_10 m_5_11 m_5_12 mv_X7_countEndings (c_X7_countEndings (kf_X10_ways h0) hk2 hcl) (by decide) rfl rfl (Nat.le_of_ble_eq_true rfl) hl.1 dX10_endings_27 ?_
  clear hW hcl; intro H locs hW
  replace h := xr_el h
  exact ri_end hret h dX10_endings_30 hW
set_option maxRecDepth 20000 in
set_option maxHeartbeats 4000000 in
theorem x_X10_endings {G : Gt} {l : Launch} {v0 : Nat} (h0 : kd v0 = 9) {v1 : Int32} {σ : St} {r : Nat} {σ' : St} (hf : pf_X10_endings v0 v1 σ = some (.inl r, σ')) : CtT G l yX10_endings cX10_endings 3 (some .int) 8 [.ref (gz G + (v0)), .int (v1)] σ r σ' := by
  refine met_t (by decide +kernel) (Nat.le_of_ble_eq_true rfl) (by decide) ?_
  intro p e s m args below meth c Q ls X hW hthr hpr hl
  have hx := X.1.1
  have hb := X.1.2.1
  have hl : lv_has ls 3 [(0, .ref (gz G + (v0))), (1, .int (v1))] := hl
  have h := hf
  clear hf
  unfold pf_X10_endings at h
  refine lv_aload_n hx hb dX10_endings_0 rfl (lv_at hl 0 rfl) ?_
  refine lv_iload_n hx hb dX10_endings_1 rfl (lv_at hl 1 rfl) ?_
  rcases bndX0W_t h with ⟨hcl, rfl⟩ | ⟨r_1, hcl, h⟩
  · exact tcall_V X hW (kC_X10 h0) m_4_156 m_4_158 m_0_10 mv_X10_questAt (x_X10_questAt h0 hcl) (by decide) rfl rfl (Nat.le_of_ble_eq_true rfl) hl.1 dX10_endings_2 hpr
  refine call_V1 X hW (kC_X10 h0) m_4_156 m_4_158 m_0_10 mv_X10_questAt (c_X10_questAt h0 hcl) (by decide) rfl rfl (Nat.le_of_ble_eq_true rfl) hl.1 dX10_endings_2 ?_
  clear hW hcl; intro H locs hW
  obtain ⟨hk2, h⟩ := ckK_el h
  refine lv_astore_n (lv' := [(2, .ref (gz G + (r_1))), (0, .ref (gz G + (v0))), (1, .int (v1))]) hx hb dX10_endings_5 rfl hl (by decide) rfl ?_
  clear hl; intro ls hl
  refine lv_aload_n hx hb dX10_endings_6 rfl (lv_at hl 1 rfl) ?_
  refine gf_X10_ways X hW h0 m_2_73 dX10_endings_7 ?_
  refine lv_aload_n hx hb dX10_endings_10 rfl (lv_at hl 0 rfl) ?_
  refine lv_aload_n hx hb dX10_endings_11 rfl (lv_at hl 1 rfl) ?_
  refine gf_X10_now X hW h0 m_2_69 dX10_endings_12 ?_
  refine gf_X2_stock X hW (kf_X10_now h0) m_1_142 dX10_endings_15 ?_
  obtain ⟨r_3, σ_3, hcl, h⟩ := bnd2_el h
  refine call_V1 X hW (kC_X7 (kf_X10_ways h0)) m_2_180 m_2_181 m_2_182 mv_X7_explore (c_X7_explore (kf_X10_ways h0) hk2 (kf_X2_stock (kf_X10_now h0)) hcl) (by decide) rfl rfl (Nat.le_of_ble_eq_true rfl) hl.1 dX10_endings_18 ?_
  clear hW hcl; intro H locs hW
  refine lv_pop hx hb dX10_endings_21 rfl ?_
  refine lv_aload_n hx hb dX10_endings_22 rfl (lv_at hl 1 rfl) ?_
  refine gf_X10_ways X hW h0 m_2_73 dX10_endings_23 ?_
  refine lv_aload_n hx hb dX10_endings_26 rfl (lv_at hl 0 rfl) ?_
  obtain ⟨r_4, hcl, h⟩ := bind_el h
  refine call_V1 X hW (kC_X7 (kf_X10_ways h0)) m_5_10 m_5_11 m_5_12 mv_X7_countEndings (c_X7_countEndings (kf_X10_ways h0) hk2 hcl) (by decide) rfl rfl (Nat.le_of_ble_eq_true rfl) hl.1 dX10_endings_27 ?_
  clear hW hcl; intro H locs hW
  cases h
set_option maxRecDepth 20000 in
set_option maxHeartbeats 4000000 in
theorem c_X10_worthOf {G : Gt} {l : Launch} {v0 : Nat} (h0 : kd v0 = 9) {v1 : Nat} (h1 : kd v1 = 3) {v2 : Int32} {σ : St} {r : Int32} {σ' : St} (hf : pf_X10_worthOf v0 v1 v2 σ = some (r, σ')) : Ct G l yX10_worthOf cX10_worthOf 3 (some .int) 7 [.ref (gz G + (v0)), .ref (gz G + (v1)), .int (v2)] σ (some (.int r)) σ' := by
  refine met_i (by decide +kernel) (Nat.le_of_ble_eq_true rfl) rfl ?_
  intro p e s m args below meth c Q ls X hW hret hl
  have hx := X.1.1
  have hb := X.1.2.1
  have hl : lv_has ls 3 [(0, .ref (gz G + (v0))), (1, .ref (gz G + (v1))), (2, .int (v2))] := hl
  have h := hf
  clear hf
  unfold pf_X10_worthOf at h
  refine lv_aload_n hx hb dX10_worthOf_0 rfl (lv_at hl 0 rfl) ?_
  refine gf_X10_ways X hW h0 m_2_73 dX10_worthOf_1 ?_
  refine lv_aload_n hx hb dX10_worthOf_4 rfl (lv_at hl 1 rfl) ?_
  refine lv_aload_n hx hb dX10_worthOf_5 rfl (lv_at hl 0 rfl) ?_
  refine gf_X10_now X hW h0 m_2_69 dX10_worthOf_6 ?_
  refine gf_X2_stock X hW (kf_X10_now h0) m_1_142 dX10_worthOf_9 ?_
  obtain ⟨r_1, σ_1, hcl, h⟩ := bnd2_el h
  refine call_V1 X hW (kC_X7 (kf_X10_ways h0)) m_2_180 m_2_181 m_2_182 mv_X7_explore (c_X7_explore (kf_X10_ways h0) h1 (kf_X2_stock (kf_X10_now h0)) hcl) (by decide) rfl rfl (Nat.le_of_ble_eq_true rfl) hl.1 dX10_worthOf_12 ?_
  clear hW hcl; intro H locs hW
  refine lv_pop hx hb dX10_worthOf_15 rfl ?_
  refine lv_aload_n hx hb dX10_worthOf_16 rfl (lv_at hl 0 rfl) ?_
  refine gf_X10_worthMeter X hW h0 m_2_74 dX10_worthOf_17 ?_
  refine lv_iconst (v := (-1)) hx hb dX10_worthOf_20 (by decide) ?_
  refine lv_aload_n hx hb dX10_worthOf_21 rfl (lv_at hl 0 rfl) ?_
  refine gf_X10_ways X hW h0 m_2_73 dX10_worthOf_22 ?_
  refine lv_aload_n hx hb dX10_worthOf_25 rfl (lv_at hl 1 rfl) ?_
  obtain ⟨r_2, hcl, h⟩ := bind_el h
  refine call_V1 X hW (kC_X7 (kf_X10_ways h0)) m_4_179 m_4_180 m_4_181 mv_X7_lengthOfPlan (c_X7_lengthOfPlan (kf_X10_ways h0) h1 hcl) (by decide) rfl rfl (Nat.le_of_ble_eq_true rfl) hl.1 dX10_worthOf_26 ?_
  clear hW hcl; intro H locs hW
  obtain ⟨σ_3, hcl, h⟩ := bind_el h
  refine call_V0 X hW (kC_X8 (kf_X10_worthMeter h0)) m_4_204 m_4_205 m_4_206 mv_X8_see (c_X8_see (kf_X10_worthMeter h0) hcl) (by decide) rfl rfl (Nat.le_of_ble_eq_true rfl) hl.1 dX10_worthOf_29 ?_
  clear hW hcl; intro H locs hW
  refine lv_aload_n hx hb dX10_worthOf_32 rfl (lv_at hl 0 rfl) ?_
  refine gf_X10_worthMeter X hW h0 m_2_74 dX10_worthOf_33 ?_
  refine lv_bipush (v := (-2)) hx hb dX10_worthOf_36 (by decide) ?_
  refine lv_aload_n hx hb dX10_worthOf_38 rfl (lv_at hl 0 rfl) ?_
  refine gf_X10_ways X hW h0 m_2_73 dX10_worthOf_39 ?_
  refine lv_aload_n hx hb dX10_worthOf_42 rfl (lv_at hl 1 rfl) ?_
  obtain ⟨r_4, hcl, h⟩ := bind_el h
  refine call_V1 X hW (kC_X7 (kf_X10_ways h0)) m_4_209 m_4_210 m_4_211 mv_X7_riskOfPlan (c_X7_riskOfPlan (kf_X10_ways h0) h1 hcl) (by decide) rfl rfl (Nat.le_of_ble_eq_true rfl) hl.1 dX10_worthOf_43 ?_
  clear hW hcl; intro H locs hW
  obtain ⟨σ_5, hcl, h⟩ := bind_el h
  refine call_V0 X hW (kC_X8 (kf_X10_worthMeter h0)) m_4_204 m_4_205 m_4_206 mv_X8_see (c_X8_see (kf_X10_worthMeter h0) hcl) (by decide) rfl rfl (Nat.le_of_ble_eq_true rfl) hl.1 dX10_worthOf_46 ?_
  clear hW hcl; intro H locs hW
  refine lv_aload_n hx hb dX10_worthOf_49 rfl (lv_at hl 0 rfl) ?_
  refine gf_X10_worthMeter X hW h0 m_2_74 dX10_worthOf_50 ?_
  refine lv_bipush (v := (-3)) hx hb dX10_worthOf_53 (by decide) ?_
  refine lv_aload_n hx hb dX10_worthOf_55 rfl (lv_at hl 1 rfl) ?_
  refine gf_X3_done X hW h1 m_1_70 dX10_worthOf_56 ?_
  obtain ⟨r_6, hcl, h⟩ := bind_el h
  refine call_S1 X hW m_2_167 m_2_168 mv_J6_bitCount_0f7a4 (c_J6_bitCount_0f7a4 hcl) (by decide) rfl rfl (Nat.le_of_ble_eq_true rfl) hl.1 dX10_worthOf_59 ?_
  clear hW hcl; intro H locs hW
  obtain ⟨σ_7, hcl, h⟩ := bind_el h
  refine call_V0 X hW (kC_X8 (kf_X10_worthMeter h0)) m_4_204 m_4_205 m_4_206 mv_X8_see (c_X8_see (kf_X10_worthMeter h0) hcl) (by decide) rfl rfl (Nat.le_of_ble_eq_true rfl) hl.1 dX10_worthOf_62 ?_
  clear hW hcl; intro H locs hW
  refine lv_aload_n hx hb dX10_worthOf_65 rfl (lv_at hl 0 rfl) ?_
  refine gf_X10_worthMeter X hW h0 m_2_74 dX10_worthOf_66 ?_
  refine lv_bipush (v := (-4)) hx hb dX10_worthOf_69 (by decide) ?_
  refine lv_aload_n hx hb dX10_worthOf_71 rfl (lv_at hl 1 rfl) ?_
  obtain ⟨r_8, hcl, h⟩ := bind_el h
  refine call_V1 X hW (kC_X3 h1) m_2_173 m_2_174 m_2_175 mv_X3_sumOfFails (c_X3_sumOfFails h1 hcl) (by decide) rfl rfl (Nat.le_of_ble_eq_true rfl) hl.1 dX10_worthOf_72 ?_
  clear hW hcl; intro H locs hW
  obtain ⟨σ_9, hcl, h⟩ := bind_el h
  refine call_V0 X hW (kC_X8 (kf_X10_worthMeter h0)) m_4_204 m_4_205 m_4_206 mv_X8_see (c_X8_see (kf_X10_worthMeter h0) hcl) (by decide) rfl rfl (Nat.le_of_ble_eq_true rfl) hl.1 dX10_worthOf_75 ?_
  clear hW hcl; intro H locs hW
  refine lv_aload_n hx hb dX10_worthOf_78 rfl (lv_at hl 0 rfl) ?_
  refine gf_X10_worthMeter X hW h0 m_2_74 dX10_worthOf_79 ?_
  refine lv_bipush (v := (-5)) hx hb dX10_worthOf_82 (by decide) ?_
  refine lv_aload_n hx hb dX10_worthOf_84 rfl (lv_at hl 1 rfl) ?_
  refine gf_X3_rewardAmount X hW h1 m_1_79 dX10_worthOf_85 ?_
  obtain ⟨σ_10, hcl, h⟩ := bind_el h
  refine call_V0 X hW (kC_X8 (kf_X10_worthMeter h0)) m_4_204 m_4_205 m_4_206 mv_X8_see (c_X8_see (kf_X10_worthMeter h0) hcl) (by decide) rfl rfl (Nat.le_of_ble_eq_true rfl) hl.1 dX10_worthOf_88 ?_
  clear hW hcl; intro H locs hW
  refine lv_aload_n hx hb dX10_worthOf_91 rfl (lv_at hl 0 rfl) ?_
  refine gf_X10_worthMeter X hW h0 m_2_74 dX10_worthOf_92 ?_
  refine lv_bipush (v := (-6)) hx hb dX10_worthOf_95 (by decide) ?_
  refine lv_iload_n hx hb dX10_worthOf_97 rfl (lv_at hl 2 rfl) ?_
  obtain ⟨σ_11, hcl, h⟩ := bind_el h
  refine call_V0 X hW (kC_X8 (kf_X10_worthMeter h0)) m_4_204 m_4_205 m_4_206 mv_X8_see (c_X8_see (kf_X10_worthMeter h0) hcl) (by decide) rfl rfl (Nat.le_of_ble_eq_true rfl) hl.1 dX10_worthOf_98 ?_
  clear hW hcl; intro H locs hW
  refine lv_aload_n hx hb dX10_worthOf_101 rfl (lv_at hl 0 rfl) ?_
  refine gf_X10_worthMeter X hW h0 m_2_74 dX10_worthOf_102 ?_
  refine lv_aload_n hx hb dX10_worthOf_105 rfl (lv_at hl 0 rfl) ?_
  refine gf_X10_now X hW h0 m_2_69 dX10_worthOf_106 ?_
  refine gf_X2_worthCode X hW (kf_X10_now h0) m_1_156 dX10_worthOf_109 ?_
  refine lv_aload_n hx hb dX10_worthOf_112 rfl (lv_at hl 0 rfl) ?_
  refine gf_X10_now X hW h0 m_2_69 dX10_worthOf_113 ?_
  refine gf_X2_worthLength X hW (kf_X10_now h0) m_1_159 dX10_worthOf_116 ?_
  obtain ⟨r_12, σ_12, hcl, h⟩ := bnd2_el h
  refine call_V1 X hW (kC_X8 (kf_X10_worthMeter h0)) m_4_222 m_4_223 m_4_224 mv_X8_measure (c_X8_measure (kf_X10_worthMeter h0) (kf_X2_worthCode (kf_X10_now h0)) hcl) (by decide) rfl rfl (Nat.le_of_ble_eq_true rfl) hl.1 dX10_worthOf_119 ?_
  clear hW hcl; intro H locs hW
  exact ri_end hret h dX10_worthOf_122 hW
set_option maxRecDepth 20000 in
set_option maxHeartbeats 4000000 in
theorem bl_X10_best_b77 (X : Cx G p R s m args c cells slots cX10_best 6 RX10 8) {r : Int32} {σ' : St} (hret : R_I G p l e R s m args below meth c cells slots Q cX10_best r σ') {k6 : Nat → Int32 → Int32 → Int32 → St → (Option (Int32 × St))}
    (hk6 : ∀ (v0 : Nat) (h0 : kd v0 = 9) (v1 : Int32) (v2 : Int32) (v3 : Int32) (σ : St) (_ : k6 v0 v1 v2 v3 σ = some (r, σ')) (H : Heap) (locs : List Loc) (ls : Array Slot) (_ : GW G σ s H locs) (_ : lv_has ls 6 [(0, .ref (gz G + (v0))), (1, .int (v1)), (2, .int (v2)), (3, .int (v3))]), W p l e R s m args below meth c H locs cells slots Q (F0 m 6 ls [])) :
    ∀ (v0 : Nat) (h0 : kd v0 = 9) (v1 : Int32) (v2 : Int32) (v3 : Int32) (σ : St) (_ : pf_X10_best_b77 k6 v0 v1 v2 v3 σ = some (r, σ')) (H : Heap) (locs : List Loc) (ls : Array Slot) (_ : GW G σ s H locs) (_ : lv_has ls 6 [(0, .ref (gz G + (v0))), (1, .int (v1)), (2, .int (v2)), (3, .int (v3))]), W p l e R s m args below meth c H locs cells slots Q (F0 m 77 ls []) := by
  have hx := X.1.1
  have hb := X.1.2.1
  intro v0 h0 v1 v2 v3 σ h H locs ls hW hl
  unfold pf_X10_best_b77 at h
  refine w_iinc (v := 1) (lv' := fun y => [(3, .int (y)), (0, .ref (gz G + (v0))), (1, .int (v1)), (2, .int (v2))]) hx hb dX10_best_77 hl (k := 3) rfl (by decide) (by decide) (fun _ => rfl) h ?_
  clear h hl; intro v3_1 h ls hl
  refine lv_goto (tgt := 6) hx hb dX10_best_80 (by decide) ?_
  exact hk6 v0 h0 v1 v2 v3_1 σ h _ _ _ hW (lv_sub hl [1, 2, 3, 0] rfl)
set_option maxRecDepth 20000 in
set_option maxHeartbeats 4000000 in
theorem bl_X10_best_b72 (X : Cx G p R s m args c cells slots cX10_best 6 RX10 8) {r : Int32} {σ' : St} (hret : R_I G p l e R s m args below meth c cells slots Q cX10_best r σ') {k6 : Nat → Int32 → Int32 → Int32 → St → (Option (Int32 × St))}
    (hk6 : ∀ (v0 : Nat) (h0 : kd v0 = 9) (v1 : Int32) (v2 : Int32) (v3 : Int32) (σ : St) (_ : k6 v0 v1 v2 v3 σ = some (r, σ')) (H : Heap) (locs : List Loc) (ls : Array Slot) (_ : GW G σ s H locs) (_ : lv_has ls 6 [(0, .ref (gz G + (v0))), (1, .int (v1)), (2, .int (v2)), (3, .int (v3))]), W p l e R s m args below meth c H locs cells slots Q (F0 m 6 ls [])) :
    ∀ (v0 : Nat) (h0 : kd v0 = 9) (v3 : Int32) (v5 : Int32) (σ : St) (_ : pf_X10_best_b72 k6 v0 v3 v5 σ = some (r, σ')) (H : Heap) (locs : List Loc) (ls : Array Slot) (_ : GW G σ s H locs) (_ : lv_has ls 6 [(0, .ref (gz G + (v0))), (3, .int (v3)), (5, .int (v5))]), W p l e R s m args below meth c H locs cells slots Q (F0 m 72 ls []) := by
  have hx := X.1.1
  have hb := X.1.2.1
  intro v0 h0 v3 v5 σ h H locs ls hW hl
  unfold pf_X10_best_b72 at h
  refine lv_iload_n hx hb dX10_best_72 rfl (lv_at hl 1 rfl) ?_
  refine lv_istore_n (lv' := [(1, .int (v3)), (0, .ref (gz G + (v0))), (3, .int (v3)), (5, .int (v5))]) hx hb dX10_best_73 rfl hl (by decide) rfl ?_
  clear hl; intro ls hl
  refine lv_iload hx hb dX10_best_74 (lv_at hl 3 rfl) ?_
  refine lv_istore_n (lv' := [(2, .int (v5)), (1, .int (v3)), (0, .ref (gz G + (v0))), (3, .int (v3)), (5, .int (v5))]) hx hb dX10_best_76 rfl hl (by decide) rfl ?_
  clear hl; intro ls hl
  exact bl_X10_best_b77 X hret hk6 v0 h0 v3 v5 v3 σ h _ _ _ hW (lv_sub hl [2, 1, 0, 3] rfl)
set_option maxRecDepth 20000 in
set_option maxHeartbeats 4000000 in
theorem bl_X10_best_L6 (X : Cx G p R s m args c cells slots cX10_best 6 RX10 8) {r : Int32} {σ' : St} (hret : R_I G p l e R s m args below meth c cells slots Q cX10_best r σ') :
    ∀ (n : Nat), ∀ (v0 : Nat) (h0 : kd v0 = 9) (v1 : Int32) (v2 : Int32) (v3 : Int32) (σ : St) (_ : pf_X10_best_L6 n v0 v1 v2 v3 σ = some (r, σ')) (H : Heap) (locs : List Loc) (ls : Array Slot) (_ : GW G σ s H locs) (_ : lv_has ls 6 [(0, .ref (gz G + (v0))), (1, .int (v1)), (2, .int (v2)), (3, .int (v3))]), W p l e R s m args below meth c H locs cells slots Q (F0 m 6 ls []) := by
  have hx := X.1.1
  have hb := X.1.2.1
  intro n
  induction n with
  | zero => intro v0 h0 v1 v2 v3 σ h H locs ls hW hl; cases h
  | succ n ih =>
    intro v0 h0 v1 v2 v3 σ h H locs ls hW hl
    rw [pf_X10_best_L6.eq_2] at h
    refine lv_iload_n hx hb dX10_best_6 rfl (lv_at hl 3 rfl) ?_
    refine lv_aload_n hx hb dX10_best_7 rfl (lv_at hl 0 rfl) ?_
    refine gf_X10_now X hW h0 m_2_69 dX10_best_8 ?_
    refine gf_X2_questCount X hW (kf_X10_now h0) m_1_153 dX10_best_11 ?_
    refine lv_icmp_ge (tgt := 83) hx hb dX10_best_14 (by decide) (fun hc => ?_) (fun hc => ?_)
    · replace h := if_t hc h
      refine lv_iload_n hx hb dX10_best_83 rfl (lv_at hl 1 rfl) ?_
      exact ri_end hret h dX10_best_84 hW
    · replace h := if_f hc h
      refine lv_iload_n hx hb dX10_best_17 rfl (lv_at hl 3 rfl) ?_
      refine lv_bipush (v := 6) hx hb dX10_best_18 (by decide) ?_
      refine lv_icmp_ge (tgt := 83) hx hb dX10_best_20 (by decide) (fun hc => ?_) (fun hc => ?_)
      · replace h := if_t hc h
        refine lv_iload_n hx hb dX10_best_83 rfl (lv_at hl 1 rfl) ?_
        exact ri_end hret h dX10_best_84 hW
      · replace h := if_f hc h
        refine lv_aload_n hx hb dX10_best_23 rfl (lv_at hl 0 rfl) ?_
        refine gf_X10_now X hW h0 m_2_69 dX10_best_24 ?_
        refine gf_X2_quests X hW (kf_X10_now h0) m_1_150 dX10_best_27 ?_
        refine lv_iload_n hx hb dX10_best_30 rfl (lv_at hl 3 rfl) ?_
        obtain ⟨hi1, h⟩ := ckI_el h
        refine r_qald X hW (kf_X2_quests (kf_X10_now h0)) hi1 dX10_best_31 ?_
        refine lv_astore (lv' := [(4, .ref (gz G + (v0 + 2 + 3 + 2 + 9 * (v3).toNatClampNeg))), (0, .ref (gz G + (v0))), (1, .int (v1)), (2, .int (v2)), (3, .int (v3))]) hx hb dX10_best_32 hl (by decide) rfl ?_
        clear hl; intro ls hl
        refine lv_aload_n hx hb dX10_best_34 rfl (lv_at hl 1 rfl) ?_
        refine gf_X10_ways X hW h0 m_2_73 dX10_best_35 ?_
        refine lv_aload hx hb dX10_best_38 (lv_at hl 0 rfl) ?_
        refine lv_aload_n hx hb dX10_best_40 rfl (lv_at hl 1 rfl) ?_
        refine gf_X10_now X hW h0 m_2_69 dX10_best_41 ?_
        refine gf_X2_stock X hW (kf_X10_now h0) m_1_142 dX10_best_44 ?_
        obtain ⟨r_2, σ_2, hcl, h⟩ := bnd2_el h
        refine call_V1 X hW (kC_X7 (kf_X10_ways h0)) m_2_180 m_2_181 m_2_182 mv_X7_explore (c_X7_explore (kf_X10_ways h0) (kq_16 (kf_X2_quests (kf_X10_now h0)) (vp_lt hi1)) (kf_X2_stock (kf_X10_now h0)) hcl) (by decide) rfl rfl (Nat.le_of_ble_eq_true rfl) hl.1 dX10_best_47 ?_
        clear hW hcl; intro H locs hW
        refine lv_if_eq (tgt := 77) hx hb dX10_best_50 (by decide) (fun hc => ?_) (fun hc => ?_)
        · replace h := if_t hc h
          exact bl_X10_best_b77 X hret ih v0 h0 v1 v2 v3 σ_2 h _ _ _ hW (lv_sub hl [1, 2, 3, 4] rfl)
        · replace h := if_f hc h
          refine lv_aload_n hx hb dX10_best_53 rfl (lv_at hl 1 rfl) ?_
          refine lv_aload hx hb dX10_best_54 (lv_at hl 0 rfl) ?_
          refine lv_iload_n hx hb dX10_best_56 rfl (lv_at hl 4 rfl) ?_
          obtain ⟨r_3, σ_3, hcl, h⟩ := bnd2_el h
          refine call_V1 X hW (kC_X10 h0) m_4_200 m_4_202 m_0_11 mv_X10_worthOf (c_X10_worthOf h0 (kq_16 (kf_X2_quests (kf_X10_now h0)) (vp_lt hi1)) hcl) (by decide) rfl rfl (Nat.le_of_ble_eq_true rfl) hl.1 dX10_best_57 ?_
          clear hW hcl; intro H locs hW
          refine lv_istore (lv' := [(5, .int (r_3)), (4, .ref (gz G + (v0 + 2 + 3 + 2 + 9 * (v3).toNatClampNeg))), (0, .ref (gz G + (v0))), (1, .int (v1)), (2, .int (v2)), (3, .int (v3))]) hx hb dX10_best_60 hl (by decide) rfl ?_
          clear hl; intro ls hl
          refine lv_iload_n hx hb dX10_best_62 rfl (lv_at hl 3 rfl) ?_
          refine lv_if_lt (tgt := 72) hx hb dX10_best_63 (by decide) (fun hc => ?_) (fun hc => ?_)
          · replace h := if_t hc h
            exact bl_X10_best_b72 X hret ih v0 h0 v3 r_3 σ_3 h _ _ _ hW (lv_sub hl [2, 5, 0] rfl)
          · replace h := if_f hc h
            refine lv_iload hx hb dX10_best_66 (lv_at hl 0 rfl) ?_
            refine lv_iload_n hx hb dX10_best_68 rfl (lv_at hl 4 rfl) ?_
            refine lv_icmp_le (tgt := 77) hx hb dX10_best_69 (by decide) (fun hc => ?_) (fun hc => ?_)
            · replace h := if_t hc h
              exact bl_X10_best_b77 X hret ih v0 h0 v1 v2 v3 σ_3 h _ _ _ hW (lv_sub hl [2, 3, 4, 5] rfl)
            · replace h := if_f hc h
              exact bl_X10_best_b72 X hret ih v0 h0 v3 r_3 σ_3 h _ _ _ hW (lv_sub hl [2, 5, 0] rfl)
set_option maxRecDepth 20000 in
set_option maxHeartbeats 4000000 in
theorem c_X10_best {G : Gt} {l : Launch} {v0 : Nat} (h0 : kd v0 = 9) {σ : St} {r : Int32} {σ' : St} (hf : pf_X10_best v0 σ = some (r, σ')) : Ct G l yX10_best cX10_best 6 (some .int) 8 [.ref (gz G + (v0))] σ (some (.int r)) σ' := by
  refine met_i (by decide +kernel) (Nat.le_of_ble_eq_true rfl) rfl ?_
  intro p e s m args below meth c Q ls X hW hret hl
  have hx := X.1.1
  have hb := X.1.2.1
  have hl : lv_has ls 6 [(0, .ref (gz G + (v0)))] := hl
  have h := hf
  clear hf
  unfold pf_X10_best at h
  refine lv_iconst (v := (-1)) hx hb dX10_best_0 (by decide) ?_
  refine lv_istore_n (lv' := [(1, .int ((-1))), (0, .ref (gz G + (v0)))]) hx hb dX10_best_1 rfl hl (by decide) rfl ?_
  clear hl; intro ls hl
  refine lv_iconst (v := 0) hx hb dX10_best_2 (by decide) ?_
  refine lv_istore_n (lv' := [(2, .int (0)), (1, .int ((-1))), (0, .ref (gz G + (v0)))]) hx hb dX10_best_3 rfl hl (by decide) rfl ?_
  clear hl; intro ls hl
  refine lv_iconst (v := 0) hx hb dX10_best_4 (by decide) ?_
  refine lv_istore_n (lv' := [(3, .int (0)), (2, .int (0)), (1, .int ((-1))), (0, .ref (gz G + (v0)))]) hx hb dX10_best_5 rfl hl (by decide) rfl ?_
  clear hl; intro ls hl
  exact bl_X10_best_L6 X hret FU v0 h0 (-1) 0 0 σ h _ _ _ hW (lv_sub hl [3, 2, 1, 0] rfl)
set_option maxRecDepth 20000 in
set_option maxHeartbeats 4000000 in
theorem bl_X10_tell_b20 (X : Cx G p R s m args c cells slots cX10_tell 3 RX10 7) {r : Int32} {σ' : St} (hret : R_I G p l e R s m args below meth c cells slots Q cX10_tell r σ') :
    ∀ (σ : St) (_ : pf_X10_tell_b20 σ = some (.inr r, σ')) (H : Heap) (locs : List Loc) (ls : Array Slot) (_ : GW G σ s H locs) (_ : lv_has ls 3 []), W p l e R s m args below meth c H locs cells slots Q (F0 m 20 ls []) := by
  have hx := X.1.1
  have hb := X.1.2.1
  intro σ h H locs ls hW hl
  unfold pf_X10_tell_b20 at h
  cases h
set_option maxRecDepth 20000 in
set_option maxHeartbeats 4000000 in
theorem c_X10_tell {G : Gt} {l : Launch} {v0 : Nat} (h0 : kd v0 = 9) {v1 : Int32} {v2 : Int32} {σ : St} {r : Int32} {σ' : St} (hf : pf_X10_tell v0 v1 v2 σ = some (.inr r, σ')) : Ct G l yX10_tell cX10_tell 3 (some .int) 7 [.ref (gz G + (v0)), .int (v1), .int (v2)] σ (some (.int r)) σ' := by
  refine met_i (by decide +kernel) (Nat.le_of_ble_eq_true rfl) rfl ?_
  intro p e s m args below meth c Q ls X hW hret hl
  have hx := X.1.1
  have hb := X.1.2.1
  have hl : lv_has ls 3 [(0, .ref (gz G + (v0))), (1, .int (v1)), (2, .int (v2))] := hl
  have h := hf
  clear hf
  unfold pf_X10_tell at h
  refine lv_iload_n hx hb dX10_tell_0 rfl (lv_at hl 1 rfl) ?_
  refine lv_if_lt (tgt := 20) hx hb dX10_tell_1 (by decide) (fun hc => ?_) (fun hc => ?_)
  · replace h := if_t hc h
    exact bl_X10_tell_b20 X hret σ h _ _ _ hW (lv_sub hl [] rfl)
  · replace h := if_f hc h
    refine lv_iload_n hx hb dX10_tell_4 rfl (lv_at hl 1 rfl) ?_
    refine lv_bipush (v := 99) hx hb dX10_tell_5 (by decide) ?_
    refine lv_icmp_gt (tgt := 20) hx hb dX10_tell_7 (by decide) (fun hc => ?_) (fun hc => ?_)
    · replace h := if_t hc h
      exact bl_X10_tell_b20 X hret σ h _ _ _ hW (lv_sub hl [] rfl)
    · replace h := if_f hc h
      refine lv_iload_n hx hb dX10_tell_10 rfl (lv_at hl 2 rfl) ?_
      refine lv_if_lt (tgt := 20) hx hb dX10_tell_11 (by decide) (fun hc => ?_) (fun hc => ?_)
      · replace h := if_t hc h
        exact bl_X10_tell_b20 X hret σ h _ _ _ hW (lv_sub hl [] rfl)
      · replace h := if_f hc h
        refine lv_iload_n hx hb dX10_tell_14 rfl (lv_at hl 2 rfl) ?_
        refine lv_bipush (v := 99) hx hb dX10_tell_15 (by decide) ?_
        refine lv_icmp_le (tgt := 28) hx hb dX10_tell_17 (by decide) (fun hc => ?_) (fun hc => ?_)
        · replace h := if_t hc h
          refine lv_aload_n hx hb dX10_tell_28 rfl (lv_at hl 0 rfl) ?_
          refine gf_X10_now X hW h0 m_2_69 dX10_tell_29 ?_
          refine gf_X2_queueLength X hW (kf_X10_now h0) m_1_145 dX10_tell_32 ?_
          refine lv_iconst (v := 2) hx hb dX10_tell_35 (by decide) ?_
          refine lv_iadd hx hb dX10_tell_36 ?_
          refine lv_bipush (v := 40) hx hb dX10_tell_37 (by decide) ?_
          refine lv_icmp_le (tgt := 50) hx hb dX10_tell_39 (by decide) (fun hc => ?_) (fun hc => ?_)
          · replace h := if_t hc h
            refine lv_aload_n hx hb dX10_tell_50 rfl (lv_at hl 0 rfl) ?_
            refine gf_X10_history X hW h0 m_2_71 dX10_tell_51 ?_
            refine lv_aload_n hx hb dX10_tell_54 rfl (lv_at hl 0 rfl) ?_
            refine gf_X10_now X hW h0 m_2_69 dX10_tell_55 ?_
            obtain ⟨σ_1, hcl, h⟩ := bind_el h
            refine call_V0 X hW (kC_X1 (kf_X10_history h0)) m_3_8 m_3_9 m_3_10 mv_X1_remember (c_X1_remember (kf_X10_history h0) (kf_X10_now h0) hcl) (by decide) rfl rfl (Nat.le_of_ble_eq_true rfl) hl.1 dX10_tell_58 ?_
            clear hW hcl; intro H locs hW
            refine lv_aload_n hx hb dX10_tell_61 rfl (lv_at hl 0 rfl) ?_
            refine gf_X10_now X hW h0 m_2_69 dX10_tell_62 ?_
            refine lv_iload_n hx hb dX10_tell_65 rfl (lv_at hl 1 rfl) ?_
            obtain ⟨σ_2, hcl, h⟩ := bind_el h
            refine call_V0 X hW (kC_X2 (kf_X10_now h0)) m_3_25 m_3_26 m_3_27 mv_X2_enqueue (c_X2_enqueue (kf_X10_now h0) hcl) (by decide) rfl rfl (Nat.le_of_ble_eq_true rfl) hl.1 dX10_tell_66 ?_
            clear hW hcl; intro H locs hW
            refine lv_aload_n hx hb dX10_tell_69 rfl (lv_at hl 0 rfl) ?_
            refine gf_X10_now X hW h0 m_2_69 dX10_tell_70 ?_
            refine lv_iload_n hx hb dX10_tell_73 rfl (lv_at hl 2 rfl) ?_
            obtain ⟨σ_3, hcl, h⟩ := bind_el h
            refine call_V0 X hW (kC_X2 (kf_X10_now h0)) m_3_25 m_3_26 m_3_27 mv_X2_enqueue (c_X2_enqueue (kf_X10_now h0) hcl) (by decide) rfl rfl (Nat.le_of_ble_eq_true rfl) hl.1 dX10_tell_74 ?_
            clear hW hcl; intro H locs hW
            refine lv_aload_n hx hb dX10_tell_77 rfl (lv_at hl 0 rfl) ?_
            refine gf_X10_now X hW h0 m_2_69 dX10_tell_78 ?_
            refine gf_X2_queueLength X hW (kf_X10_now h0) m_1_145 dX10_tell_81 ?_
            replace h := xr_el h
            exact ri_end hret h dX10_tell_84 hW
          · replace h := if_f hc h
            cases h
        · replace h := if_f hc h
          exact bl_X10_tell_b20 X hret σ h _ _ _ hW (lv_sub hl [] rfl)
set_option maxRecDepth 20000 in
set_option maxHeartbeats 4000000 in
theorem xl_X10_tell_b20 (X : Cx G p R s m args c cells slots cX10_tell 3 RX10 7) {r : Nat} {σ' : St} (hthr : R_X G p l e R s m args below meth c cells slots Q cX10_tell 3 RX10 r σ') (hpr : R_P G p l e R s m args below meth c cells slots Q r σ') :
    ∀ (σ : St) (_ : pf_X10_tell_b20 σ = some (.inl r, σ')) (H : Heap) (locs : List Loc) (ls : Array Slot) (_ : GW G σ s H locs) (_ : lv_has ls 3 []), W p l e R s m args below meth c H locs cells slots Q (F0 m 20 ls []) := by
  have hx := X.1.1
  have hb := X.1.2.1
  intro σ h H locs ls hW hl
  unfold pf_X10_tell_b20 at h
  exact thr_end hthr h dX10_tell_20 dX10_tell_23 dX10_tell_24 dX10_tell_27 exw_1_66 hW (Nat.le_of_ble_eq_true rfl) hl.1
set_option maxRecDepth 20000 in
set_option maxHeartbeats 4000000 in
theorem x_X10_tell {G : Gt} {l : Launch} {v0 : Nat} (h0 : kd v0 = 9) {v1 : Int32} {v2 : Int32} {σ : St} {r : Nat} {σ' : St} (hf : pf_X10_tell v0 v1 v2 σ = some (.inl r, σ')) : CtT G l yX10_tell cX10_tell 3 (some .int) 7 [.ref (gz G + (v0)), .int (v1), .int (v2)] σ r σ' := by
  refine met_t (by decide +kernel) (Nat.le_of_ble_eq_true rfl) (by decide) ?_
  intro p e s m args below meth c Q ls X hW hthr hpr hl
  have hx := X.1.1
  have hb := X.1.2.1
  have hl : lv_has ls 3 [(0, .ref (gz G + (v0))), (1, .int (v1)), (2, .int (v2))] := hl
  have h := hf
  clear hf
  unfold pf_X10_tell at h
  refine lv_iload_n hx hb dX10_tell_0 rfl (lv_at hl 1 rfl) ?_
  refine lv_if_lt (tgt := 20) hx hb dX10_tell_1 (by decide) (fun hc => ?_) (fun hc => ?_)
  · replace h := if_t hc h
    exact xl_X10_tell_b20 X hthr hpr σ h _ _ _ hW (lv_sub hl [] rfl)
  · replace h := if_f hc h
    refine lv_iload_n hx hb dX10_tell_4 rfl (lv_at hl 1 rfl) ?_
    refine lv_bipush (v := 99) hx hb dX10_tell_5 (by decide) ?_
    refine lv_icmp_gt (tgt := 20) hx hb dX10_tell_7 (by decide) (fun hc => ?_) (fun hc => ?_)
    · replace h := if_t hc h
      exact xl_X10_tell_b20 X hthr hpr σ h _ _ _ hW (lv_sub hl [] rfl)
    · replace h := if_f hc h
      refine lv_iload_n hx hb dX10_tell_10 rfl (lv_at hl 2 rfl) ?_
      refine lv_if_lt (tgt := 20) hx hb dX10_tell_11 (by decide) (fun hc => ?_) (fun hc => ?_)
      · replace h := if_t hc h
        exact xl_X10_tell_b20 X hthr hpr σ h _ _ _ hW (lv_sub hl [] rfl)
      · replace h := if_f hc h
        refine lv_iload_n hx hb dX10_tell_14 rfl (lv_at hl 2 rfl) ?_
        refine lv_bipush (v := 99) hx hb dX10_tell_15 (by decide) ?_
        refine lv_icmp_le (tgt := 28) hx hb dX10_tell_17 (by decide) (fun hc => ?_) (fun hc => ?_)
        · replace h := if_t hc h
          refine lv_aload_n hx hb dX10_tell_28 rfl (lv_at hl 0 rfl) ?_
          refine gf_X10_now X hW h0 m_2_69 dX10_tell_29 ?_
          refine gf_X2_queueLength X hW (kf_X10_now h0) m_1_145 dX10_tell_32 ?_
          refine lv_iconst (v := 2) hx hb dX10_tell_35 (by decide) ?_
          refine lv_iadd hx hb dX10_tell_36 ?_
          refine lv_bipush (v := 40) hx hb dX10_tell_37 (by decide) ?_
          refine lv_icmp_le (tgt := 50) hx hb dX10_tell_39 (by decide) (fun hc => ?_) (fun hc => ?_)
          · replace h := if_t hc h
            refine lv_aload_n hx hb dX10_tell_50 rfl (lv_at hl 0 rfl) ?_
            refine gf_X10_history X hW h0 m_2_71 dX10_tell_51 ?_
            refine lv_aload_n hx hb dX10_tell_54 rfl (lv_at hl 0 rfl) ?_
            refine gf_X10_now X hW h0 m_2_69 dX10_tell_55 ?_
            obtain ⟨σ_1, hcl, h⟩ := bind_el h
            refine call_V0 X hW (kC_X1 (kf_X10_history h0)) m_3_8 m_3_9 m_3_10 mv_X1_remember (c_X1_remember (kf_X10_history h0) (kf_X10_now h0) hcl) (by decide) rfl rfl (Nat.le_of_ble_eq_true rfl) hl.1 dX10_tell_58 ?_
            clear hW hcl; intro H locs hW
            refine lv_aload_n hx hb dX10_tell_61 rfl (lv_at hl 0 rfl) ?_
            refine gf_X10_now X hW h0 m_2_69 dX10_tell_62 ?_
            refine lv_iload_n hx hb dX10_tell_65 rfl (lv_at hl 1 rfl) ?_
            obtain ⟨σ_2, hcl, h⟩ := bind_el h
            refine call_V0 X hW (kC_X2 (kf_X10_now h0)) m_3_25 m_3_26 m_3_27 mv_X2_enqueue (c_X2_enqueue (kf_X10_now h0) hcl) (by decide) rfl rfl (Nat.le_of_ble_eq_true rfl) hl.1 dX10_tell_66 ?_
            clear hW hcl; intro H locs hW
            refine lv_aload_n hx hb dX10_tell_69 rfl (lv_at hl 0 rfl) ?_
            refine gf_X10_now X hW h0 m_2_69 dX10_tell_70 ?_
            refine lv_iload_n hx hb dX10_tell_73 rfl (lv_at hl 2 rfl) ?_
            obtain ⟨σ_3, hcl, h⟩ := bind_el h
            refine call_V0 X hW (kC_X2 (kf_X10_now h0)) m_3_25 m_3_26 m_3_27 mv_X2_enqueue (c_X2_enqueue (kf_X10_now h0) hcl) (by decide) rfl rfl (Nat.le_of_ble_eq_true rfl) hl.1 dX10_tell_74 ?_
            clear hW hcl; intro H locs hW
            refine lv_aload_n hx hb dX10_tell_77 rfl (lv_at hl 0 rfl) ?_
            refine gf_X10_now X hW h0 m_2_69 dX10_tell_78 ?_
            refine gf_X2_queueLength X hW (kf_X10_now h0) m_1_145 dX10_tell_81 ?_
            cases h
          · replace h := if_f hc h
            exact thr_end hthr h dX10_tell_42 dX10_tell_45 dX10_tell_46 dX10_tell_49 exw_3_246 hW (Nat.le_of_ble_eq_true rfl) hl.1
        · replace h := if_f hc h
          exact xl_X10_tell_b20 X hthr hpr σ h _ _ _ hW (lv_sub hl [] rfl)
set_option maxRecDepth 20000 in
set_option maxHeartbeats 4000000 in
theorem c_X10_attempt {G : Gt} {l : Launch} {v0 : Nat} (h0 : kd v0 = 9) {v1 : Int32} {v2 : Int32} {σ : St} {r : Int32} {σ' : St} (hf : pf_X10_attempt v0 v1 v2 σ = some (.inr r, σ')) : Ct G l yX10_attempt cX10_attempt 4 (some .int) 9 [.ref (gz G + (v0)), .int (v1), .int (v2)] σ (some (.int r)) σ' := by
  refine met_i (by decide +kernel) (Nat.le_of_ble_eq_true rfl) rfl ?_
  intro p e s m args below meth c Q ls X hW hret hl
  have hx := X.1.1
  have hb := X.1.2.1
  have hl : lv_has ls 4 [(0, .ref (gz G + (v0))), (1, .int (v1)), (2, .int (v2))] := hl
  have h := hf
  clear hf
  unfold pf_X10_attempt at h
  refine lv_aload_n hx hb dX10_attempt_0 rfl (lv_at hl 0 rfl) ?_
  refine lv_iload_n hx hb dX10_attempt_1 rfl (lv_at hl 1 rfl) ?_
  refine lv_iload_n hx hb dX10_attempt_2 rfl (lv_at hl 2 rfl) ?_
  obtain ⟨r_1, hcl, h⟩ := bndX0W_n h
  refine call_V1 X hW (kC_X10 h0) m_5_67 m_5_69 m_0_14 mv_X10_questWithStep (c_X10_questWithStep h0 hcl) (by decide) rfl rfl (Nat.le_of_ble_eq_true rfl) hl.1 dX10_attempt_3 ?_
  clear hW hcl; intro H locs hW
  obtain ⟨hk2, h⟩ := ckK_el h
  refine lv_astore_n (lv' := [(3, .ref (gz G + (r_1))), (0, .ref (gz G + (v0))), (1, .int (v1)), (2, .int (v2))]) hx hb dX10_attempt_6 rfl hl (by decide) rfl ?_
  clear hl; intro ls hl
  refine lv_aload_n hx hb dX10_attempt_7 rfl (lv_at hl 0 rfl) ?_
  refine lv_iload_n hx hb dX10_attempt_8 rfl (lv_at hl 3 rfl) ?_
  refine lv_aload_n hx hb dX10_attempt_9 rfl (lv_at hl 1 rfl) ?_
  refine gf_X10_now X hW h0 m_2_69 dX10_attempt_10 ?_
  refine gf_X2_stock X hW (kf_X10_now h0) m_1_142 dX10_attempt_13 ?_
  obtain ⟨r_3, hcl, h⟩ := bind_el h
  refine call_V1 X hW (kC_X3 hk2) m_5_80 m_5_81 m_5_82 mv_X3_hindrance (c_X3_hindrance hk2 (kf_X2_stock (kf_X10_now h0)) hcl) (by decide) rfl rfl (Nat.le_of_ble_eq_true rfl) hl.1 dX10_attempt_16 ?_
  clear hW hcl; intro H locs hW
  refine lv_if_eq (tgt := 30) hx hb dX10_attempt_19 (by decide) (fun hc => ?_) (fun hc => ?_)
  · replace h := if_t hc h
    refine lv_aload_n hx hb dX10_attempt_30 rfl (lv_at hl 1 rfl) ?_
    refine gf_X10_history X hW h0 m_2_71 dX10_attempt_31 ?_
    refine lv_aload_n hx hb dX10_attempt_34 rfl (lv_at hl 1 rfl) ?_
    refine gf_X10_now X hW h0 m_2_69 dX10_attempt_35 ?_
    obtain ⟨σ_4, hcl, h⟩ := bind_el h
    refine call_V0 X hW (kC_X1 (kf_X10_history h0)) m_3_8 m_3_9 m_3_10 mv_X1_remember (c_X1_remember (kf_X10_history h0) (kf_X10_now h0) hcl) (by decide) rfl rfl (Nat.le_of_ble_eq_true rfl) hl.1 dX10_attempt_38 ?_
    clear hW hcl; intro H locs hW
    refine lv_aload_n hx hb dX10_attempt_41 rfl (lv_at hl 1 rfl) ?_
    refine gf_X10_now X hW h0 m_2_69 dX10_attempt_42 ?_
    refine lv_aload_n hx hb dX10_attempt_45 rfl (lv_at hl 0 rfl) ?_
    refine lv_iload_n hx hb dX10_attempt_46 rfl (lv_at hl 3 rfl) ?_
    obtain ⟨r_5, σ_5, hcl, h⟩ := bnd2_el h
    refine call_V1 X hW (kC_X2 (kf_X10_now h0)) m_6_214 m_6_215 m_6_216 mv_X2_tryStep (c_X2_tryStep (kf_X10_now h0) hk2 hcl) (by decide) rfl rfl (Nat.le_of_ble_eq_true rfl) hl.1 dX10_attempt_47 ?_
    clear hW hcl; intro H locs hW
    replace h := xr_el h
    exact ri_end hret h dX10_attempt_50 hW
  · replace h := if_f hc h
    cases h
set_option maxRecDepth 20000 in
set_option maxHeartbeats 4000000 in
theorem x_X10_attempt {G : Gt} {l : Launch} {v0 : Nat} (h0 : kd v0 = 9) {v1 : Int32} {v2 : Int32} {σ : St} {r : Nat} {σ' : St} (hf : pf_X10_attempt v0 v1 v2 σ = some (.inl r, σ')) : CtT G l yX10_attempt cX10_attempt 4 (some .int) 9 [.ref (gz G + (v0)), .int (v1), .int (v2)] σ r σ' := by
  refine met_t (by decide +kernel) (Nat.le_of_ble_eq_true rfl) (by decide) ?_
  intro p e s m args below meth c Q ls X hW hthr hpr hl
  have hx := X.1.1
  have hb := X.1.2.1
  have hl : lv_has ls 4 [(0, .ref (gz G + (v0))), (1, .int (v1)), (2, .int (v2))] := hl
  have h := hf
  clear hf
  unfold pf_X10_attempt at h
  refine lv_aload_n hx hb dX10_attempt_0 rfl (lv_at hl 0 rfl) ?_
  refine lv_iload_n hx hb dX10_attempt_1 rfl (lv_at hl 1 rfl) ?_
  refine lv_iload_n hx hb dX10_attempt_2 rfl (lv_at hl 2 rfl) ?_
  rcases bndX0W_t h with ⟨hcl, rfl⟩ | ⟨r_1, hcl, h⟩
  · exact tcall_V X hW (kC_X10 h0) m_5_67 m_5_69 m_0_14 mv_X10_questWithStep (x_X10_questWithStep h0 hcl) (by decide) rfl rfl (Nat.le_of_ble_eq_true rfl) hl.1 dX10_attempt_3 hpr
  refine call_V1 X hW (kC_X10 h0) m_5_67 m_5_69 m_0_14 mv_X10_questWithStep (c_X10_questWithStep h0 hcl) (by decide) rfl rfl (Nat.le_of_ble_eq_true rfl) hl.1 dX10_attempt_3 ?_
  clear hW hcl; intro H locs hW
  obtain ⟨hk2, h⟩ := ckK_el h
  refine lv_astore_n (lv' := [(3, .ref (gz G + (r_1))), (0, .ref (gz G + (v0))), (1, .int (v1)), (2, .int (v2))]) hx hb dX10_attempt_6 rfl hl (by decide) rfl ?_
  clear hl; intro ls hl
  refine lv_aload_n hx hb dX10_attempt_7 rfl (lv_at hl 0 rfl) ?_
  refine lv_iload_n hx hb dX10_attempt_8 rfl (lv_at hl 3 rfl) ?_
  refine lv_aload_n hx hb dX10_attempt_9 rfl (lv_at hl 1 rfl) ?_
  refine gf_X10_now X hW h0 m_2_69 dX10_attempt_10 ?_
  refine gf_X2_stock X hW (kf_X10_now h0) m_1_142 dX10_attempt_13 ?_
  obtain ⟨r_3, hcl, h⟩ := bind_el h
  refine call_V1 X hW (kC_X3 hk2) m_5_80 m_5_81 m_5_82 mv_X3_hindrance (c_X3_hindrance hk2 (kf_X2_stock (kf_X10_now h0)) hcl) (by decide) rfl rfl (Nat.le_of_ble_eq_true rfl) hl.1 dX10_attempt_16 ?_
  clear hW hcl; intro H locs hW
  refine lv_if_eq (tgt := 30) hx hb dX10_attempt_19 (by decide) (fun hc => ?_) (fun hc => ?_)
  · replace h := if_t hc h
    refine lv_aload_n hx hb dX10_attempt_30 rfl (lv_at hl 1 rfl) ?_
    refine gf_X10_history X hW h0 m_2_71 dX10_attempt_31 ?_
    refine lv_aload_n hx hb dX10_attempt_34 rfl (lv_at hl 1 rfl) ?_
    refine gf_X10_now X hW h0 m_2_69 dX10_attempt_35 ?_
    obtain ⟨σ_4, hcl, h⟩ := bind_el h
    refine call_V0 X hW (kC_X1 (kf_X10_history h0)) m_3_8 m_3_9 m_3_10 mv_X1_remember (c_X1_remember (kf_X10_history h0) (kf_X10_now h0) hcl) (by decide) rfl rfl (Nat.le_of_ble_eq_true rfl) hl.1 dX10_attempt_38 ?_
    clear hW hcl; intro H locs hW
    refine lv_aload_n hx hb dX10_attempt_41 rfl (lv_at hl 1 rfl) ?_
    refine gf_X10_now X hW h0 m_2_69 dX10_attempt_42 ?_
    refine lv_aload_n hx hb dX10_attempt_45 rfl (lv_at hl 0 rfl) ?_
    refine lv_iload_n hx hb dX10_attempt_46 rfl (lv_at hl 3 rfl) ?_
    obtain ⟨r_5, σ_5, hcl, h⟩ := bnd2_el h
    refine call_V1 X hW (kC_X2 (kf_X10_now h0)) m_6_214 m_6_215 m_6_216 mv_X2_tryStep (c_X2_tryStep (kf_X10_now h0) hk2 hcl) (by decide) rfl rfl (Nat.le_of_ble_eq_true rfl) hl.1 dX10_attempt_47 ?_
    clear hW hcl; intro H locs hW
    cases h
  · replace h := if_f hc h
    exact thr_end hthr h dX10_attempt_22 dX10_attempt_25 dX10_attempt_26 dX10_attempt_29 exw_3_246 hW (Nat.le_of_ble_eq_true rfl) hl.1
end
