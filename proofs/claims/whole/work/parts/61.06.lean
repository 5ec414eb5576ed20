section
variable {G : Gt} {p : Program} {l : Launch} {e : Env} {R : Room} {s : State} {m : MethodId} {args : Array Value} {below : List Frame} {meth : Method} {c : Code} {cells slots : Nat} {Q : State → Prop}
set_option maxRecDepth 20000 in
set_option maxHeartbeats 4000000 in
theorem bl_X10_checkItem_b10 {σ : St} (X : Cx G p R s m args c cells slots cX10_checkItem 1 RX10 7)  (hret : R_V G p l e R s m args below meth c cells slots Q cX10_checkItem σ) :
    ∀ (_ : pf_X10_checkItem_b10 σ = some (.inr ())) (H : Heap) (locs : List Loc) (ls : Array Slot) (_ : GW G σ s H locs) (_ : lv_has ls 1 []), W p l e R s m args below meth c H locs cells slots Q (F0 m 10 ls []) := by
  have hx := X.1.1
  have hb := X.1.2.1
  intro h H locs ls hW hl
  unfold pf_X10_checkItem_b10 at h
  cases h
set_option maxRecDepth 20000 in
set_option maxHeartbeats 4000000 in
theorem c_X10_checkItem {G : Gt} {l : Launch} {v0 : Int32} {σ : St} (hf : pf_X10_checkItem v0 σ = some (.inr ())) : Ct G l yX10_checkItem cX10_checkItem 1 none 7 [.int (v0)] σ none σ := by
  refine met_v (by decide +kernel) (Nat.le_of_ble_eq_true rfl) rfl ?_
  intro p e s m args below meth c Q ls X hW hret hl
  have hx := X.1.1
  have hb := X.1.2.1
  have hl : lv_has ls 1 [(0, .int (v0))] := hl
  have h := hf
  clear hf
  unfold pf_X10_checkItem at h
  refine lv_iload_n hx hb dX10_checkItem_0 rfl (lv_at hl 0 rfl) ?_
  refine lv_if_lt (tgt := 10) hx hb dX10_checkItem_1 (by decide) (fun hc => ?_) (fun hc => ?_)
  · replace h := if_t hc h
    exact bl_X10_checkItem_b10 X hret h _ _ _ hW (lv_sub hl [] rfl)
  · replace h := if_f hc h
    refine lv_iload_n hx hb dX10_checkItem_4 rfl (lv_at hl 0 rfl) ?_
    refine lv_bipush (v := 8) hx hb dX10_checkItem_5 (by decide) ?_
    refine lv_icmp_lt (tgt := 18) hx hb dX10_checkItem_7 (by decide) (fun hc => ?_) (fun hc => ?_)
    · replace h := if_t hc h
      skip
      exact hret _ _ _ _ dX10_checkItem_18 hW
    · replace h := if_f hc h
      exact bl_X10_checkItem_b10 X hret h _ _ _ hW (lv_sub hl [] rfl)
set_option maxRecDepth 20000 in
set_option maxHeartbeats 4000000 in
theorem xl_X10_checkItem_b10 {σ : St} (X : Cx G p R s m args c cells slots cX10_checkItem 1 RX10 7) {r : Nat} (hthr : R_X G p l e R s m args below meth c cells slots Q cX10_checkItem 1 RX10 r σ) (hpr : R_P G p l e R s m args below meth c cells slots Q r σ) :
    ∀ (_ : pf_X10_checkItem_b10 σ = some (.inl r)) (H : Heap) (locs : List Loc) (ls : Array Slot) (_ : GW G σ s H locs) (_ : lv_has ls 1 []), W p l e R s m args below meth c H locs cells slots Q (F0 m 10 ls []) := by
  have hx := X.1.1
  have hb := X.1.2.1
  intro h H locs ls hW hl
  unfold pf_X10_checkItem_b10 at h
  exact thr_end0 hthr h dX10_checkItem_10 dX10_checkItem_13 dX10_checkItem_14 dX10_checkItem_17 exw_2_283 hW (Nat.le_of_ble_eq_true rfl) hl.1
set_option maxRecDepth 20000 in
set_option maxHeartbeats 4000000 in
theorem x_X10_checkItem {G : Gt} {l : Launch} {v0 : Int32} {σ : St} {r : Nat} (hf : pf_X10_checkItem v0 σ = some (.inl r)) : CtT G l yX10_checkItem cX10_checkItem 1 none 7 [.int (v0)] σ r σ := by
  refine met_t (by decide +kernel) (Nat.le_of_ble_eq_true rfl) (by decide) ?_
  intro p e s m args below meth c Q ls X hW hthr hpr hl
  have hx := X.1.1
  have hb := X.1.2.1
  have hl : lv_has ls 1 [(0, .int (v0))] := hl
  have h := hf
  clear hf
  unfold pf_X10_checkItem at h
  refine lv_iload_n hx hb dX10_checkItem_0 rfl (lv_at hl 0 rfl) ?_
  refine lv_if_lt (tgt := 10) hx hb dX10_checkItem_1 (by decide) (fun hc => ?_) (fun hc => ?_)
  · replace h := if_t hc h
    exact xl_X10_checkItem_b10 X hthr hpr h _ _ _ hW (lv_sub hl [] rfl)
  · replace h := if_f hc h
    refine lv_iload_n hx hb dX10_checkItem_4 rfl (lv_at hl 0 rfl) ?_
    refine lv_bipush (v := 8) hx hb dX10_checkItem_5 (by decide) ?_
    refine lv_icmp_lt (tgt := 18) hx hb dX10_checkItem_7 (by decide) (fun hc => ?_) (fun hc => ?_)
    · replace h := if_t hc h
      cases h
    · replace h := if_f hc h
      exact xl_X10_checkItem_b10 X hthr hpr h _ _ _ hW (lv_sub hl [] rfl)
set_option maxRecDepth 20000 in
set_option maxHeartbeats 4000000 in
theorem c_X10_stock {G : Gt} {l : Launch} {v0 : Nat} (h0 : kd v0 = 9) {v1 : Int32} {σ : St} {r : Int32} (hf : pf_X10_stock v0 v1 σ = some (.inr r)) : Ct G l yX10_stock cX10_stock 2 (some .int) 8 [.ref (gz G + (v0)), .int (v1)] σ (some (.int r)) σ := by
  refine met_i (by decide +kernel) (Nat.le_of_ble_eq_true rfl) rfl ?_
  intro p e s m args below meth c Q ls X hW hret hl
  have hx := X.1.1
  have hb := X.1.2.1
  have hl : lv_has ls 2 [(0, .ref (gz G + (v0))), (1, .int (v1))] := hl
  have h := hf
  clear hf
  unfold pf_X10_stock at h
  refine lv_iload_n hx hb dX10_stock_0 rfl (lv_at hl 1 rfl) ?_
  obtain ⟨r_1, hcl, h⟩ := bndX0_n h
  refine call_S0 X hW m_5_11 m_5_12 mv_X10_checkItem (c_X10_checkItem hcl) (by decide) rfl rfl (Nat.le_of_ble_eq_true rfl) hl.1 dX10_stock_1 ?_
  clear hW hcl; intro H locs hW
  refine lv_aload_n hx hb dX10_stock_4 rfl (lv_at hl 0 rfl) ?_
  refine gf_X10_now X hW h0 m_2_64 dX10_stock_5 ?_
  refine gf_X2_stock X hW (kf_X10_now h0) m_1_136 dX10_stock_8 ?_
  refine lv_iload_n hx hb dX10_stock_11 rfl (lv_at hl 1 rfl) ?_
  obtain ⟨r_2, hcl, h⟩ := bind_el h
  refine call_S1 X hW m_3_104 m_2_132 mv_X10_at (c_X10_at (kf_X2_stock (kf_X10_now h0)) hcl) (by decide) rfl rfl (Nat.le_of_ble_eq_true rfl) hl.1 dX10_stock_12 ?_
  clear hW hcl; intro H locs hW
  replace h := xr_el0 h
  exact ri_end0 hret h dX10_stock_15 hW
set_option maxRecDepth 20000 in
set_option maxHeartbeats 4000000 in
theorem x_X10_stock {G : Gt} {l : Launch} {v0 : Nat} (h0 : kd v0 = 9) {v1 : Int32} {σ : St} {r : Nat} (hf : pf_X10_stock v0 v1 σ = some (.inl r)) : CtT G l yX10_stock cX10_stock 2 (some .int) 8 [.ref (gz G + (v0)), .int (v1)] σ r σ := by
  refine met_t (by decide +kernel) (Nat.le_of_ble_eq_true rfl) (by decide) ?_
  intro p e s m args below meth c Q ls X hW hthr hpr hl
  have hx := X.1.1
  have hb := X.1.2.1
  have hl : lv_has ls 2 [(0, .ref (gz G + (v0))), (1, .int (v1))] := hl
  have h := hf
  clear hf
  unfold pf_X10_stock at h
  refine lv_iload_n hx hb dX10_stock_0 rfl (lv_at hl 1 rfl) ?_
  rcases bndX0_t h with hcl | ⟨r_1, hcl, h⟩
  · exact tcall_S X hW m_5_11 m_5_12 mv_X10_checkItem (x_X10_checkItem hcl) (by decide) rfl rfl (Nat.le_of_ble_eq_true rfl) hl.1 dX10_stock_1 hpr
  refine call_S0 X hW m_5_11 m_5_12 mv_X10_checkItem (c_X10_checkItem hcl) (by decide) rfl rfl (Nat.le_of_ble_eq_true rfl) hl.1 dX10_stock_1 ?_
  clear hW hcl; intro H locs hW
  refine lv_aload_n hx hb dX10_stock_4 rfl (lv_at hl 0 rfl) ?_
  refine gf_X10_now X hW h0 m_2_64 dX10_stock_5 ?_
  refine gf_X2_stock X hW (kf_X10_now h0) m_1_136 dX10_stock_8 ?_
  refine lv_iload_n hx hb dX10_stock_11 rfl (lv_at hl 1 rfl) ?_
  obtain ⟨r_2, hcl, h⟩ := bind_el h
  refine call_S1 X hW m_3_104 m_2_132 mv_X10_at (c_X10_at (kf_X2_stock (kf_X10_now h0)) hcl) (by decide) rfl rfl (Nat.le_of_ble_eq_true rfl) hl.1 dX10_stock_12 ?_
  clear hW hcl; intro H locs hW
  cases h
set_option maxRecDepth 20000 in
set_option maxHeartbeats 4000000 in
theorem bl_X10_questAt_b21 {σ : St} (X : Cx G p R s m args c cells slots cX10_questAt 2 RX10 7) {r : Nat} (hret : R_A G p l e R s m args below meth c cells slots Q cX10_questAt (.ref (gz G + r)) σ) :
    ∀ (_ : pf_X10_questAt_b21 σ = some (.inr r)) (H : Heap) (locs : List Loc) (ls : Array Slot) (_ : GW G σ s H locs) (_ : lv_has ls 2 []), W p l e R s m args below meth c H locs cells slots Q (F0 m 21 ls []) := by
  have hx := X.1.1
  have hb := X.1.2.1
  intro h H locs ls hW hl
  unfold pf_X10_questAt_b21 at h
  cases h
set_option maxRecDepth 20000 in
set_option maxHeartbeats 4000000 in
theorem c_X10_questAt {G : Gt} {l : Launch} {v0 : Nat} (h0 : kd v0 = 9) {v1 : Int32} {σ : St} {r : Nat} (hf : pf_X10_questAt v0 v1 σ = some (.inr r)) : Ct G l yX10_questAt cX10_questAt 2 (some (.object "QuestLedger$Quest")) 7 [.ref (gz G + (v0)), .int (v1)] σ (some (.ref (gz G + r))) σ := by
  refine met_a (by decide +kernel) (Nat.le_of_ble_eq_true rfl) rfl (Or.inl ⟨_, rfl⟩) (Or.inr ⟨_, rfl⟩) ?_
  intro p e s m args below meth c Q ls X hW hret hl
  have hx := X.1.1
  have hb := X.1.2.1
  have hl : lv_has ls 2 [(0, .ref (gz G + (v0))), (1, .int (v1))] := hl
  have h := hf
  clear hf
  unfold pf_X10_questAt at h
  refine lv_iload_n hx hb dX10_questAt_0 rfl (lv_at hl 1 rfl) ?_
  refine lv_if_lt (tgt := 21) hx hb dX10_questAt_1 (by decide) (fun hc => ?_) (fun hc => ?_)
  · replace h := if_t hc h
    exact bl_X10_questAt_b21 X hret h _ _ _ hW (lv_sub hl [] rfl)
  · replace h := if_f hc h
    refine lv_iload_n hx hb dX10_questAt_4 rfl (lv_at hl 1 rfl) ?_
    refine lv_aload_n hx hb dX10_questAt_5 rfl (lv_at hl 0 rfl) ?_
    refine gf_X10_now X hW h0 m_2_64 dX10_questAt_6 ?_
    refine gf_X2_questCount X hW (kf_X10_now h0) m_1_147 dX10_questAt_9 ?_
    refine lv_icmp_ge (tgt := 21) hx hb dX10_questAt_12 (by decide) (fun hc => ?_) (fun hc => ?_)
    · replace h := if_t hc h
      exact bl_X10_questAt_b21 X hret h _ _ _ hW (lv_sub hl [] rfl)
    · replace h := if_f hc h
      refine lv_iload_n hx hb dX10_questAt_15 rfl (lv_at hl 1 rfl) ?_
      refine lv_bipush (v := 6) hx hb dX10_questAt_16 (by decide) ?_
      refine lv_icmp_lt (tgt := 29) hx hb dX10_questAt_18 (by decide) (fun hc => ?_) (fun hc => ?_)
      · replace h := if_t hc h
        refine lv_aload_n hx hb dX10_questAt_29 rfl (lv_at hl 0 rfl) ?_
        refine gf_X10_now X hW h0 m_2_64 dX10_questAt_30 ?_
        refine gf_X2_quests X hW (kf_X10_now h0) m_1_144 dX10_questAt_33 ?_
        refine lv_iload_n hx hb dX10_questAt_36 rfl (lv_at hl 1 rfl) ?_
        obtain ⟨hi1, h⟩ := ckI_el h
        refine r_qald X hW (kf_X2_quests (kf_X10_now h0)) hi1 dX10_questAt_37 ?_
        replace h := xr_el0 h
        exact rq_end hret h dX10_questAt_38 hW
      · replace h := if_f hc h
        exact bl_X10_questAt_b21 X hret h _ _ _ hW (lv_sub hl [] rfl)
set_option maxRecDepth 20000 in
set_option maxHeartbeats 4000000 in
theorem xl_X10_questAt_b21 {σ : St} (X : Cx G p R s m args c cells slots cX10_questAt 2 RX10 7) {r : Nat} (hthr : R_X G p l e R s m args below meth c cells slots Q cX10_questAt 2 RX10 r σ) (hpr : R_P G p l e R s m args below meth c cells slots Q r σ) :
    ∀ (_ : pf_X10_questAt_b21 σ = some (.inl r)) (H : Heap) (locs : List Loc) (ls : Array Slot) (_ : GW G σ s H locs) (_ : lv_has ls 2 []), W p l e R s m args below meth c H locs cells slots Q (F0 m 21 ls []) := by
  have hx := X.1.1
  have hb := X.1.2.1
  intro h H locs ls hW hl
  unfold pf_X10_questAt_b21 at h
  exact thr_end0 hthr h dX10_questAt_21 dX10_questAt_24 dX10_questAt_25 dX10_questAt_28 exw_2_283 hW (Nat.le_of_ble_eq_true rfl) hl.1
set_option maxRecDepth 20000 in
set_option maxHeartbeats 4000000 in
theorem x_X10_questAt {G : Gt} {l : Launch} {v0 : Nat} (h0 : kd v0 = 9) {v1 : Int32} {σ : St} {r : Nat} (hf : pf_X10_questAt v0 v1 σ = some (.inl r)) : CtT G l yX10_questAt cX10_questAt 2 (some (.object "QuestLedger$Quest")) 7 [.ref (gz G + (v0)), .int (v1)] σ r σ := by
  refine met_t (by decide +kernel) (Nat.le_of_ble_eq_true rfl) (by decide) ?_
  intro p e s m args below meth c Q ls X hW hthr hpr hl
  have hx := X.1.1
  have hb := X.1.2.1
  have hl : lv_has ls 2 [(0, .ref (gz G + (v0))), (1, .int (v1))] := hl
  have h := hf
  clear hf
  unfold pf_X10_questAt at h
  refine lv_iload_n hx hb dX10_questAt_0 rfl (lv_at hl 1 rfl) ?_
  refine lv_if_lt (tgt := 21) hx hb dX10_questAt_1 (by decide) (fun hc => ?_) (fun hc => ?_)
  · replace h := if_t hc h
    exact xl_X10_questAt_b21 X hthr hpr h _ _ _ hW (lv_sub hl [] rfl)
  · replace h := if_f hc h
    refine lv_iload_n hx hb dX10_questAt_4 rfl (lv_at hl 1 rfl) ?_
    refine lv_aload_n hx hb dX10_questAt_5 rfl (lv_at hl 0 rfl) ?_
    refine gf_X10_now X hW h0 m_2_64 dX10_questAt_6 ?_
    refine gf_X2_questCount X hW (kf_X10_now h0) m_1_147 dX10_questAt_9 ?_
    refine lv_icmp_ge (tgt := 21) hx hb dX10_questAt_12 (by decide) (fun hc => ?_) (fun hc => ?_)
    · replace h := if_t hc h
      exact xl_X10_questAt_b21 X hthr hpr h _ _ _ hW (lv_sub hl [] rfl)
    · replace h := if_f hc h
      refine lv_iload_n hx hb dX10_questAt_15 rfl (lv_at hl 1 rfl) ?_
      refine lv_bipush (v := 6) hx hb dX10_questAt_16 (by decide) ?_
      refine lv_icmp_lt (tgt := 29) hx hb dX10_questAt_18 (by decide) (fun hc => ?_) (fun hc => ?_)
      · replace h := if_t hc h
        refine lv_aload_n hx hb dX10_questAt_29 rfl (lv_at hl 0 rfl) ?_
        refine gf_X10_now X hW h0 m_2_64 dX10_questAt_30 ?_
        refine gf_X2_quests X hW (kf_X10_now h0) m_1_144 dX10_questAt_33 ?_
        refine lv_iload_n hx hb dX10_questAt_36 rfl (lv_at hl 1 rfl) ?_
        obtain ⟨hi1, h⟩ := ckI_el h
        refine r_qald X hW (kf_X2_quests (kf_X10_now h0)) hi1 dX10_questAt_37 ?_
        cases h
      · replace h := if_f hc h
        exact xl_X10_questAt_b21 X hthr hpr h _ _ _ hW (lv_sub hl [] rfl)
set_option maxRecDepth 20000 in
set_option maxHeartbeats 4000000 in
theorem c_X10_quest {G : Gt} {l : Launch} {v0 : Nat} (h0 : kd v0 = 9) {v1 : Int32} {v2 : Int32} {σ : St} {r : Int32} (hf : pf_X10_quest v0 v1 v2 σ = some (.inr r)) : Ct G l yX10_quest cX10_quest 4 (some .int) 8 [.ref (gz G + (v0)), .int (v1), .int (v2)] σ (some (.int r)) σ := by
  refine met_i (by decide +kernel) (Nat.le_of_ble_eq_true rfl) rfl ?_
  intro p e s m args below meth c Q ls X hW hret hl
  have hx := X.1.1
  have hb := X.1.2.1
  have hl : lv_has ls 4 [(0, .ref (gz G + (v0))), (1, .int (v1)), (2, .int (v2))] := hl
  have h := hf
  clear hf
  unfold pf_X10_quest at h
  refine lv_aload_n hx hb dX10_quest_0 rfl (lv_at hl 0 rfl) ?_
  refine lv_iload_n hx hb dX10_quest_1 rfl (lv_at hl 1 rfl) ?_
  obtain ⟨r_1, hcl, h⟩ := bndX0_n h
  refine call_V1 X hW (kC_X10 h0) m_3_113 m_3_115 m_0_15 mv_X10_questAt (c_X10_questAt h0 hcl) (by decide) rfl rfl (Nat.le_of_ble_eq_true rfl) hl.1 dX10_quest_2 ?_
  clear hW hcl; intro H locs hW
  obtain ⟨hk2, h⟩ := ckK_el h
  refine lv_astore_n (lv' := [(3, .ref (gz G + (r_1))), (0, .ref (gz G + (v0))), (1, .int (v1)), (2, .int (v2))]) hx hb dX10_quest_5 rfl hl (by decide) rfl ?_
  clear hl; intro ls hl
  refine lv_iload_n hx hb dX10_quest_6 rfl (lv_at hl 3 rfl) ?_
  by_cases hc0 : v2 = 0
  · replace h := if_t hc0 h
    refine lv_tableIn (off := 45) (tgt := 52) hx hb dX10_quest_7 (by rw [hc0]; decide) (by rw [hc0]; decide) (by rw [hc0]; rfl) (by decide) ?_
    refine lv_aload_n hx hb dX10_quest_52 rfl (lv_at hl 0 rfl) ?_
    refine gf_X3_stepCount X hW hk2 m_1_53 dX10_quest_53 ?_
    replace h := xr_el0 h
    exact ri_end0 hret h dX10_quest_56 hW
  replace h := if_f hc0 h
  by_cases hc1 : v2 = 1
  · replace h := if_t hc1 h
    refine lv_tableIn (off := 50) (tgt := 57) hx hb dX10_quest_7 (by rw [hc1]; decide) (by rw [hc1]; decide) (by rw [hc1]; rfl) (by decide) ?_
    refine lv_aload_n hx hb dX10_quest_57 rfl (lv_at hl 0 rfl) ?_
    refine gf_X3_status X hW hk2 m_1_58 dX10_quest_58 ?_
    replace h := xr_el0 h
    exact ri_end0 hret h dX10_quest_61 hW
  replace h := if_f hc1 h
  by_cases hc2 : v2 = 2
  · replace h := if_t hc2 h
    refine lv_tableIn (off := 55) (tgt := 62) hx hb dX10_quest_7 (by rw [hc2]; decide) (by rw [hc2]; decide) (by rw [hc2]; rfl) (by decide) ?_
    refine lv_aload_n hx hb dX10_quest_62 rfl (lv_at hl 0 rfl) ?_
    refine gf_X3_done X hW hk2 m_1_61 dX10_quest_63 ?_
    replace h := xr_el0 h
    exact ri_end0 hret h dX10_quest_66 hW
  replace h := if_f hc2 h
  by_cases hc3 : v2 = 3
  · replace h := if_t hc3 h
    refine lv_tableIn (off := 60) (tgt := 67) hx hb dX10_quest_7 (by rw [hc3]; decide) (by rw [hc3]; decide) (by rw [hc3]; rfl) (by decide) ?_
    refine lv_aload_n hx hb dX10_quest_67 rfl (lv_at hl 0 rfl) ?_
    obtain ⟨r_3, hcl, h⟩ := bind_el h
    refine call_V1 X hW (kC_X3 hk2) m_3_132 m_3_133 m_3_134 mv_X3_brokenSteps (c_X3_brokenSteps hk2 hcl) (by decide) rfl rfl (Nat.le_of_ble_eq_true rfl) hl.1 dX10_quest_68 ?_
    clear hW hcl; intro H locs hW
    replace h := xr_el0 h
    exact ri_end0 hret h dX10_quest_71 hW
  replace h := if_f hc3 h
  by_cases hc4 : v2 = 4
  · replace h := if_t hc4 h
    refine lv_tableIn (off := 65) (tgt := 72) hx hb dX10_quest_7 (by rw [hc4]; decide) (by rw [hc4]; decide) (by rw [hc4]; rfl) (by decide) ?_
    refine lv_aload_n hx hb dX10_quest_72 rfl (lv_at hl 0 rfl) ?_
    refine gf_X3_rewardItem X hW hk2 m_1_66 dX10_quest_73 ?_
    replace h := xr_el0 h
    exact ri_end0 hret h dX10_quest_76 hW
  replace h := if_f hc4 h
  by_cases hc5 : v2 = 5
  · replace h := if_t hc5 h
    refine lv_tableIn (off := 70) (tgt := 77) hx hb dX10_quest_7 (by rw [hc5]; decide) (by rw [hc5]; decide) (by rw [hc5]; rfl) (by decide) ?_
    refine lv_aload_n hx hb dX10_quest_77 rfl (lv_at hl 0 rfl) ?_
    refine gf_X3_rewardAmount X hW hk2 m_1_70 dX10_quest_78 ?_
    replace h := xr_el0 h
    exact ri_end0 hret h dX10_quest_81 hW
  replace h := if_f hc5 h
  by_cases hc6 : v2 = 6
  · replace h := if_t hc6 h
    refine lv_tableIn (off := 75) (tgt := 82) hx hb dX10_quest_7 (by rw [hc6]; decide) (by rw [hc6]; decide) (by rw [hc6]; rfl) (by decide) ?_
    refine lv_aload_n hx hb dX10_quest_82 rfl (lv_at hl 0 rfl) ?_
    obtain ⟨r_4, hcl, h⟩ := bind_el h
    refine call_V1 X hW (kC_X3 hk2) m_2_226 m_2_227 m_2_228 mv_X3_sumOfFails (c_X3_sumOfFails hk2 hcl) (by decide) rfl rfl (Nat.le_of_ble_eq_true rfl) hl.1 dX10_quest_83 ?_
    clear hW hcl; intro H locs hW
    replace h := xr_el0 h
    exact ri_end0 hret h dX10_quest_86 hW
  replace h := if_f hc6 h
  by_cases hc7 : v2 = 7
  · replace h := if_t hc7 h
    refine lv_tableIn (off := 80) (tgt := 87) hx hb dX10_quest_7 (by rw [hc7]; decide) (by rw [hc7]; decide) (by rw [hc7]; rfl) (by decide) ?_
    refine lv_aload_n hx hb dX10_quest_87 rfl (lv_at hl 0 rfl) ?_
    refine lv_aload_n hx hb dX10_quest_88 rfl (lv_at hl 1 rfl) ?_
    refine gf_X10_now X hW h0 m_2_64 dX10_quest_89 ?_
    refine gf_X2_stock X hW (kf_X10_now h0) m_1_136 dX10_quest_92 ?_
    obtain ⟨r_5, hcl, h⟩ := bind_el h
    refine call_V1 X hW (kC_X3 hk2) m_3_136 m_3_137 m_3_138 mv_X3_stepsToTry (c_X3_stepsToTry hk2 (kf_X2_stock (kf_X10_now h0)) hcl) (by decide) rfl rfl (Nat.le_of_ble_eq_true rfl) hl.1 dX10_quest_95 ?_
    clear hW hcl; intro H locs hW
    replace h := xr_el0 h
    exact ri_end0 hret h dX10_quest_98 hW
  replace h := if_f hc7 h
  refine lv_tableOut (tgt := 99) hx hb dX10_quest_7 (tb_out (n := 8) (by decide) rfl (fun k hk => match k, hk with | 0, _ => hc0 | 1, _ => hc1 | 2, _ => hc2 | 3, _ => hc3 | 4, _ => hc4 | 5, _ => hc5 | 6, _ => hc6 | 7, _ => hc7 | k + 8, hk => absurd hk (by omega))) (by decide) ?_
  skip
  cases h
set_option maxRecDepth 20000 in
set_option maxHeartbeats 4000000 in
theorem x_X10_quest {G : Gt} {l : Launch} {v0 : Nat} (h0 : kd v0 = 9) {v1 : Int32} {v2 : Int32} {σ : St} {r : Nat} (hf : pf_X10_quest v0 v1 v2 σ = some (.inl r)) : CtT G l yX10_quest cX10_quest 4 (some .int) 8 [.ref (gz G + (v0)), .int (v1), .int (v2)] σ r σ := by
  refine met_t (by decide +kernel) (Nat.le_of_ble_eq_true rfl) (by decide) ?_
  intro p e s m args below meth c Q ls X hW hthr hpr hl
  have hx := X.1.1
  have hb := X.1.2.1
  have hl : lv_has ls 4 [(0, .ref (gz G + (v0))), (1, .int (v1)), (2, .int (v2))] := hl
  have h := hf
  clear hf
  unfold pf_X10_quest at h
  refine lv_aload_n hx hb dX10_quest_0 rfl (lv_at hl 0 rfl) ?_
  refine lv_iload_n hx hb dX10_quest_1 rfl (lv_at hl 1 rfl) ?_
  rcases bndX0_t h with hcl | ⟨r_1, hcl, h⟩
  · exact tcall_V X hW (kC_X10 h0) m_3_113 m_3_115 m_0_15 mv_X10_questAt (x_X10_questAt h0 hcl) (by decide) rfl rfl (Nat.le_of_ble_eq_true rfl) hl.1 dX10_quest_2 hpr
  refine call_V1 X hW (kC_X10 h0) m_3_113 m_3_115 m_0_15 mv_X10_questAt (c_X10_questAt h0 hcl) (by decide) rfl rfl (Nat.le_of_ble_eq_true rfl) hl.1 dX10_quest_2 ?_
  clear hW hcl; intro H locs hW
  obtain ⟨hk2, h⟩ := ckK_el h
  refine lv_astore_n (lv' := [(3, .ref (gz G + (r_1))), (0, .ref (gz G + (v0))), (1, .int (v1)), (2, .int (v2))]) hx hb dX10_quest_5 rfl hl (by decide) rfl ?_
  clear hl; intro ls hl
  refine lv_iload_n hx hb dX10_quest_6 rfl (lv_at hl 3 rfl) ?_
  by_cases hc0 : v2 = 0
  · replace h := if_t hc0 h
    refine lv_tableIn (off := 45) (tgt := 52) hx hb dX10_quest_7 (by rw [hc0]; decide) (by rw [hc0]; decide) (by rw [hc0]; rfl) (by decide) ?_
    refine lv_aload_n hx hb dX10_quest_52 rfl (lv_at hl 0 rfl) ?_
    refine gf_X3_stepCount X hW hk2 m_1_53 dX10_quest_53 ?_
    cases h
  replace h := if_f hc0 h
  by_cases hc1 : v2 = 1
  · replace h := if_t hc1 h
    refine lv_tableIn (off := 50) (tgt := 57) hx hb dX10_quest_7 (by rw [hc1]; decide) (by rw [hc1]; decide) (by rw [hc1]; rfl) (by decide) ?_
    refine lv_aload_n hx hb dX10_quest_57 rfl (lv_at hl 0 rfl) ?_
    refine gf_X3_status X hW hk2 m_1_58 dX10_quest_58 ?_
    cases h
  replace h := if_f hc1 h
  by_cases hc2 : v2 = 2
  · replace h := if_t hc2 h
    refine lv_tableIn (off := 55) (tgt := 62) hx hb dX10_quest_7 (by rw [hc2]; decide) (by rw [hc2]; decide) (by rw [hc2]; rfl) (by decide) ?_
    refine lv_aload_n hx hb dX10_quest_62 rfl (lv_at hl 0 rfl) ?_
    refine gf_X3_done X hW hk2 m_1_61 dX10_quest_63 ?_
    cases h
  replace h := if_f hc2 h
  by_cases hc3 : v2 = 3
  · replace h := if_t hc3 h
    refine lv_tableIn (off := 60) (tgt := 67) hx hb dX10_quest_7 (by rw [hc3]; decide) (by rw [hc3]; decide) (by rw [hc3]; rfl) (by decide) ?_
    refine lv_aload_n hx hb dX10_quest_67 rfl (lv_at hl 0 rfl) ?_
    obtain ⟨r_3, hcl, h⟩ := bind_el h
    refine call_V1 X hW (kC_X3 hk2) m_3_132 m_3_133 m_3_134 mv_X3_brokenSteps (c_X3_brokenSteps hk2 hcl) (by decide) rfl rfl (Nat.le_of_ble_eq_true rfl) hl.1 dX10_quest_68 ?_
    clear hW hcl; intro H locs hW
    cases h
  replace h := if_f hc3 h
  by_cases hc4 : v2 = 4
  · replace h := if_t hc4 h
    refine lv_tableIn (off := 65) (tgt := 72) hx hb dX10_quest_7 (by rw [hc4]; decide) (by rw [hc4]; decide) (by rw [hc4]; rfl) (by decide) ?_
    refine lv_aload_n hx hb dX10_quest_72 rfl (lv_at hl 0 rfl) ?_
    refine gf_X3_rewardItem X hW hk2 m_1_66 dX10_quest_73 ?_
    cases h
  replace h := if_f hc4 h
  by_cases hc5 : v2 = 5
  · replace h := if_t hc5 h
    refine lv_tableIn (off := 70) (tgt := 77) hx hb dX10_quest_7 (by rw [hc5]; decide) (by rw [hc5]; decide) (by rw [hc5]; rfl) (by decide) ?_
    refine lv_aload_n hx hb dX10_quest_77 rfl (lv_at hl 0 rfl) ?_
    refine gf_X3_rewardAmount X hW hk2 m_1_70 dX10_quest_78 ?_
    cases h
  replace h := if_f hc5 h
  by_cases hc6 : v2 = 6
  · replace h := if_t hc6 h
    refine lv_tableIn (off := 75) (tgt := 82) hx hb dX10_quest_7 (by rw [hc6]; decide) (by rw [hc6]; decide) (by rw [hc6]; rfl) (by decide) ?_
    refine lv_aload_n hx hb dX10_quest_82 rfl (lv_at hl 0 rfl) ?_
    obtain ⟨r_4, hcl, h⟩ := bind_el h
    refine call_V1 X hW (kC_X3 hk2) m_2_226 m_2_227 m_2_228 mv_X3_sumOfFails (c_X3_sumOfFails hk2 hcl) (by decide) rfl rfl (Nat.le_of_ble_eq_true rfl) hl.1 dX10_quest_83 ?_
    clear hW hcl; intro H locs hW
    cases h
  replace h := if_f hc6 h
  by_cases hc7 : v2 = 7
  · replace h := if_t hc7 h
    refine lv_tableIn (off := 80) (tgt := 87) hx hb dX10_quest_7 (by rw [hc7]; decide) (by rw [hc7]; decide) (by rw [hc7]; rfl) (by decide) ?_
    refine lv_aload_n hx hb dX10_quest_87 rfl (lv_at hl 0 rfl) ?_
    refine lv_aload_n hx hb dX10_quest_88 rfl (lv_at hl 1 rfl) ?_
    refine gf_X10_now X hW h0 m_2_64 dX10_quest_89 ?_
    refine gf_X2_stock X hW (kf_X10_now h0) m_1_136 dX10_quest_92 ?_
    obtain ⟨r_5, hcl, h⟩ := bind_el h
    refine call_V1 X hW (kC_X3 hk2) m_3_136 m_3_137 m_3_138 mv_X3_stepsToTry (c_X3_stepsToTry hk2 (kf_X2_stock (kf_X10_now h0)) hcl) (by decide) rfl rfl (Nat.le_of_ble_eq_true rfl) hl.1 dX10_quest_95 ?_
    clear hW hcl; intro H locs hW
    cases h
  replace h := if_f hc7 h
  refine lv_tableOut (tgt := 99) hx hb dX10_quest_7 (tb_out (n := 8) (by decide) rfl (fun k hk => match k, hk with | 0, _ => hc0 | 1, _ => hc1 | 2, _ => hc2 | 3, _ => hc3 | 4, _ => hc4 | 5, _ => hc5 | 6, _ => hc6 | 7, _ => hc7 | k + 8, hk => absurd hk (by omega))) (by decide) ?_
  skip
  exact thr_end0 hthr h dX10_quest_99 dX10_quest_102 dX10_quest_103 dX10_quest_106 exw_1_66 hW (Nat.le_of_ble_eq_true rfl) hl.1
set_option maxRecDepth 20000 in
set_option maxHeartbeats 4000000 in
theorem bl_X10_questWithStep_b18 {σ : St} (X : Cx G p R s m args c cells slots cX10_questWithStep 4 RX10 8) {r : Nat} (hret : R_A G p l e R s m args below meth c cells slots Q cX10_questWithStep (.ref (gz G + r)) σ) :
    ∀ (_ : pf_X10_questWithStep_b18 σ = some (.inr r)) (H : Heap) (locs : List Loc) (ls : Array Slot) (_ : GW G σ s H locs) (_ : lv_has ls 4 []), W p l e R s m args below meth c H locs cells slots Q (F0 m 18 ls []) := by
  have hx := X.1.1
  have hb := X.1.2.1
  intro h H locs ls hW hl
  unfold pf_X10_questWithStep_b18 at h
  cases h
set_option maxRecDepth 20000 in
set_option maxHeartbeats 4000000 in
theorem c_X10_questWithStep {G : Gt} {l : Launch} {v0 : Nat} (h0 : kd v0 = 9) {v1 : Int32} {v2 : Int32} {σ : St} {r : Nat} (hf : pf_X10_questWithStep v0 v1 v2 σ = some (.inr r)) : Ct G l yX10_questWithStep cX10_questWithStep 4 (some (.object "QuestLedger$Quest")) 8 [.ref (gz G + (v0)), .int (v1), .int (v2)] σ (some (.ref (gz G + r))) σ := by
  refine met_a (by decide +kernel) (Nat.le_of_ble_eq_true rfl) rfl (Or.inl ⟨_, rfl⟩) (Or.inr ⟨_, rfl⟩) ?_
  intro p e s m args below meth c Q ls X hW hret hl
  have hx := X.1.1
  have hb := X.1.2.1
  have hl : lv_has ls 4 [(0, .ref (gz G + (v0))), (1, .int (v1)), (2, .int (v2))] := hl
  have h := hf
  clear hf
  unfold pf_X10_questWithStep at h
  refine lv_aload_n hx hb dX10_questWithStep_0 rfl (lv_at hl 0 rfl) ?_
  refine lv_iload_n hx hb dX10_questWithStep_1 rfl (lv_at hl 1 rfl) ?_
  obtain ⟨r_1, hcl, h⟩ := bndX0_n h
  refine call_V1 X hW (kC_X10 h0) m_3_113 m_3_115 m_0_15 mv_X10_questAt (c_X10_questAt h0 hcl) (by decide) rfl rfl (Nat.le_of_ble_eq_true rfl) hl.1 dX10_questWithStep_2 ?_
  clear hW hcl; intro H locs hW
  obtain ⟨hk2, h⟩ := ckK_el h
  refine lv_astore_n (lv' := [(3, .ref (gz G + (r_1))), (0, .ref (gz G + (v0))), (1, .int (v1)), (2, .int (v2))]) hx hb dX10_questWithStep_5 rfl hl (by decide) rfl ?_
  clear hl; intro ls hl
  refine lv_iload_n hx hb dX10_questWithStep_6 rfl (lv_at hl 3 rfl) ?_
  refine lv_if_lt (tgt := 18) hx hb dX10_questWithStep_7 (by decide) (fun hc => ?_) (fun hc => ?_)
  · replace h := if_t hc h
    exact bl_X10_questWithStep_b18 X hret h _ _ _ hW (lv_sub hl [] rfl)
  · replace h := if_f hc h
    refine lv_iload_n hx hb dX10_questWithStep_10 rfl (lv_at hl 3 rfl) ?_
    refine lv_aload_n hx hb dX10_questWithStep_11 rfl (lv_at hl 0 rfl) ?_
    refine gf_X3_stepCount X hW hk2 m_1_53 dX10_questWithStep_12 ?_
    refine lv_icmp_lt (tgt := 26) hx hb dX10_questWithStep_15 (by decide) (fun hc => ?_) (fun hc => ?_)
    · replace h := if_t hc h
      refine lv_aload_n hx hb dX10_questWithStep_26 rfl (lv_at hl 0 rfl) ?_
      replace h := xr_el0 h
      exact rq_end hret h dX10_questWithStep_27 hW
    · replace h := if_f hc h
      exact bl_X10_questWithStep_b18 X hret h _ _ _ hW (lv_sub hl [] rfl)
set_option maxRecDepth 20000 in
set_option maxHeartbeats 4000000 in
theorem xl_X10_questWithStep_b18 {σ : St} (X : Cx G p R s m args c cells slots cX10_questWithStep 4 RX10 8) {r : Nat} (hthr : R_X G p l e R s m args below meth c cells slots Q cX10_questWithStep 4 RX10 r σ) (hpr : R_P G p l e R s m args below meth c cells slots Q r σ) :
    ∀ (_ : pf_X10_questWithStep_b18 σ = some (.inl r)) (H : Heap) (locs : List Loc) (ls : Array Slot) (_ : GW G σ s H locs) (_ : lv_has ls 4 []), W p l e R s m args below meth c H locs cells slots Q (F0 m 18 ls []) := by
  have hx := X.1.1
  have hb := X.1.2.1
  intro h H locs ls hW hl
  unfold pf_X10_questWithStep_b18 at h
  exact thr_end0 hthr h dX10_questWithStep_18 dX10_questWithStep_21 dX10_questWithStep_22 dX10_questWithStep_25 exw_2_283 hW (Nat.le_of_ble_eq_true rfl) hl.1
set_option maxRecDepth 20000 in
set_option maxHeartbeats 4000000 in
theorem x_X10_questWithStep {G : Gt} {l : Launch} {v0 : Nat} (h0 : kd v0 = 9) {v1 : Int32} {v2 : Int32} {σ : St} {r : Nat} (hf : pf_X10_questWithStep v0 v1 v2 σ = some (.inl r)) : CtT G l yX10_questWithStep cX10_questWithStep 4 (some (.object "QuestLedger$Quest")) 8 [.ref (gz G + (v0)), .int (v1), .int (v2)] σ r σ := by
  refine met_t (by decide +kernel) (Nat.le_of_ble_eq_true rfl) (by decide) ?_
  intro p e s m args below meth c Q ls X hW hthr hpr hl
  have hx := X.1.1
  have hb := X.1.2.1
  have hl : lv_has ls 4 [(0, .ref (gz G + (v0))), (1, .int (v1)), (2, .int (v2))] := hl
  have h := hf
  clear hf
  unfold pf_X10_questWithStep at h
  refine lv_aload_n hx hb dX10_questWithStep_0 rfl (lv_at hl 0 rfl) ?_
  refine lv_iload_n hx hb dX10_questWithStep_1 rfl (lv_at hl 1 rfl) ?_
  rcases bndX0_t h with hcl | ⟨r_1, hcl, h⟩
  · exact tcall_V X hW (kC_X10 h0) m_3_113 m_3_115 m_0_15 mv_X10_questAt (x_X10_questAt h0 hcl) (by decide) rfl rfl (Nat.le_of_ble_eq_true rfl) hl.1 dX10_questWithStep_2 hpr
  refine call_V1 X hW (kC_X10 h0) m_3_113 m_3_115 m_0_15 mv_X10_questAt (c_X10_questAt h0 hcl) (by decide) rfl rfl (Nat.le_of_ble_eq_true rfl) hl.1 dX10_questWithStep_2 ?_
  clear hW hcl; intro H locs hW
  obtain ⟨hk2, h⟩ := ckK_el h
  refine lv_astore_n (lv' := [(3, .ref (gz G + (r_1))), (0, .ref (gz G + (v0))), (1, .int (v1)), (2, .int (v2))]) hx hb dX10_questWithStep_5 rfl hl (by decide) rfl ?_
  clear hl; intro ls hl
  refine lv_iload_n hx hb dX10_questWithStep_6 rfl (lv_at hl 3 rfl) ?_
  refine lv_if_lt (tgt := 18) hx hb dX10_questWithStep_7 (by decide) (fun hc => ?_) (fun hc => ?_)
  · replace h := if_t hc h
    exact xl_X10_questWithStep_b18 X hthr hpr h _ _ _ hW (lv_sub hl [] rfl)
  · replace h := if_f hc h
    refine lv_iload_n hx hb dX10_questWithStep_10 rfl (lv_at hl 3 rfl) ?_
    refine lv_aload_n hx hb dX10_questWithStep_11 rfl (lv_at hl 0 rfl) ?_
    refine gf_X3_stepCount X hW hk2 m_1_53 dX10_questWithStep_12 ?_
    refine lv_icmp_lt (tgt := 26) hx hb dX10_questWithStep_15 (by decide) (fun hc => ?_) (fun hc => ?_)
    · replace h := if_t hc h
      refine lv_aload_n hx hb dX10_questWithStep_26 rfl (lv_at hl 0 rfl) ?_
      cases h
    · replace h := if_f hc h
      exact xl_X10_questWithStep_b18 X hthr hpr h _ _ _ hW (lv_sub hl [] rfl)
set_option maxRecDepth 20000 in
set_option maxHeartbeats 4000000 in
theorem c_X10_step {G : Gt} {l : Launch} {v0 : Nat} (h0 : kd v0 = 9) {v1 : Int32} {v2 : Int32} {v3 : Int32} {σ : St} {r : Int32} (hf : pf_X10_step v0 v1 v2 v3 σ = some (.inr r)) : Ct G l yX10_step cX10_step 5 (some .int) 9 [.ref (gz G + (v0)), .int (v1), .int (v2), .int (v3)] σ (some (.int r)) σ := by
  refine met_i (by decide +kernel) (Nat.le_of_ble_eq_true rfl) rfl ?_
  intro p e s m args below meth c Q ls X hW hret hl
  have hx := X.1.1
  have hb := X.1.2.1
  have hl : lv_has ls 5 [(0, .ref (gz G + (v0))), (1, .int (v1)), (2, .int (v2)), (3, .int (v3))] := hl
  have h := hf
  clear hf
  unfold pf_X10_step at h
  refine lv_aload_n hx hb dX10_step_0 rfl (lv_at hl 0 rfl) ?_
  refine lv_iload_n hx hb dX10_step_1 rfl (lv_at hl 1 rfl) ?_
  refine lv_iload_n hx hb dX10_step_2 rfl (lv_at hl 2 rfl) ?_
  obtain ⟨r_1, hcl, h⟩ := bndX0_n h
  refine call_V1 X hW (kC_X10 h0) m_3_149 m_3_151 m_0_16 mv_X10_questWithStep (c_X10_questWithStep h0 hcl) (by decide) rfl rfl (Nat.le_of_ble_eq_true rfl) hl.1 dX10_step_3 ?_
  clear hW hcl; intro H locs hW
  obtain ⟨hk2, h⟩ := ckK_el h
  refine lv_astore (lv' := [(4, .ref (gz G + (r_1))), (0, .ref (gz G + (v0))), (1, .int (v1)), (2, .int (v2)), (3, .int (v3))]) hx hb dX10_step_6 hl (by decide) rfl ?_
  clear hl; intro ls hl
  refine lv_iload_n hx hb dX10_step_8 rfl (lv_at hl 4 rfl) ?_
  by_cases hc0 : v3 = 0
  · replace h := if_t hc0 h
    refine lv_tableIn (off := 39) (tgt := 48) hx hb dX10_step_9 (by rw [hc0]; decide) (by rw [hc0]; decide) (by rw [hc0]; rfl) (by decide) ?_
    refine lv_aload hx hb dX10_step_48 (lv_at hl 0 rfl) ?_
    refine gf_X3_risk X hW hk2 m_1_77 dX10_step_50 ?_
    refine lv_iload_n hx hb dX10_step_53 rfl (lv_at hl 3 rfl) ?_
    obtain ⟨r_3, hcl, h⟩ := bind_el h
    refine call_S1 X hW m_3_104 m_2_132 mv_X10_at (c_X10_at (kf_X3_risk hk2) hcl) (by decide) rfl rfl (Nat.le_of_ble_eq_true rfl) hl.1 dX10_step_54 ?_
    clear hW hcl; intro H locs hW
    replace h := xr_el0 h
    exact ri_end0 hret h dX10_step_57 hW
  replace h := if_f hc0 h
  by_cases hc1 : v3 = 1
  · replace h := if_t hc1 h
    refine lv_tableIn (off := 49) (tgt := 58) hx hb dX10_step_9 (by rw [hc1]; decide) (by rw [hc1]; decide) (by rw [hc1]; rfl) (by decide) ?_
    refine lv_aload hx hb dX10_step_58 (lv_at hl 0 rfl) ?_
    refine gf_X3_limit X hW hk2 m_1_80 dX10_step_60 ?_
    refine lv_iload_n hx hb dX10_step_63 rfl (lv_at hl 3 rfl) ?_
    obtain ⟨r_4, hcl, h⟩ := bind_el h
    refine call_S1 X hW m_3_104 m_2_132 mv_X10_at (c_X10_at (kf_X3_limit hk2) hcl) (by decide) rfl rfl (Nat.le_of_ble_eq_true rfl) hl.1 dX10_step_64 ?_
    clear hW hcl; intro H locs hW
    replace h := xr_el0 h
    exact ri_end0 hret h dX10_step_67 hW
  replace h := if_f hc1 h
  by_cases hc2 : v3 = 2
  · replace h := if_t hc2 h
    refine lv_tableIn (off := 59) (tgt := 68) hx hb dX10_step_9 (by rw [hc2]; decide) (by rw [hc2]; decide) (by rw [hc2]; rfl) (by decide) ?_
    refine lv_aload hx hb dX10_step_68 (lv_at hl 0 rfl) ?_
    refine gf_X3_fails X hW hk2 m_1_83 dX10_step_70 ?_
    refine lv_iload_n hx hb dX10_step_73 rfl (lv_at hl 3 rfl) ?_
    obtain ⟨r_5, hcl, h⟩ := bind_el h
    refine call_S1 X hW m_3_104 m_2_132 mv_X10_at (c_X10_at (kf_X3_fails hk2) hcl) (by decide) rfl rfl (Nat.le_of_ble_eq_true rfl) hl.1 dX10_step_74 ?_
    clear hW hcl; intro H locs hW
    replace h := xr_el0 h
    exact ri_end0 hret h dX10_step_77 hW
  replace h := if_f hc2 h
  by_cases hc3 : v3 = 3
  · replace h := if_t hc3 h
    refine lv_tableIn (off := 69) (tgt := 78) hx hb dX10_step_9 (by rw [hc3]; decide) (by rw [hc3]; decide) (by rw [hc3]; rfl) (by decide) ?_
    refine lv_aload hx hb dX10_step_78 (lv_at hl 0 rfl) ?_
    refine lv_iload_n hx hb dX10_step_80 rfl (lv_at hl 3 rfl) ?_
    obtain ⟨r_6, hcl, h⟩ := bind_el h
    refine call_V1 X hW (kC_X3 hk2) m_3_153 m_3_154 m_3_155 mv_X3_isDone (c_X3_isDone hk2 hcl) (by decide) rfl rfl (Nat.le_of_ble_eq_true rfl) hl.1 dX10_step_81 ?_
    clear hW hcl; intro H locs hW
    refine lv_if_eq (tgt := 91) hx hb dX10_step_84 (by decide) (fun hc => ?_) (fun hc => ?_)
    · replace h := if_t hc h
      refine lv_iconst (v := 0) hx hb dX10_step_91 (by decide) ?_
      replace h := xr_el0 h
      exact ri_end0 hret h dX10_step_92 hW
    · replace h := if_f hc h
      refine lv_iconst (v := 1) hx hb dX10_step_87 (by decide) ?_
      refine lv_goto (tgt := 92) hx hb dX10_step_88 (by decide) ?_
      replace h := xr_el0 h
      exact ri_end0 hret h dX10_step_92 hW
  replace h := if_f hc3 h
  by_cases hc4 : v3 = 4
  · replace h := if_t hc4 h
    refine lv_tableIn (off := 84) (tgt := 93) hx hb dX10_step_9 (by rw [hc4]; decide) (by rw [hc4]; decide) (by rw [hc4]; rfl) (by decide) ?_
    refine lv_aload hx hb dX10_step_93 (lv_at hl 0 rfl) ?_
    refine gf_X3_ahead X hW hk2 m_1_85 dX10_step_95 ?_
    refine lv_iload_n hx hb dX10_step_98 rfl (lv_at hl 3 rfl) ?_
    obtain ⟨r_7, hcl, h⟩ := bind_el h
    refine call_S1 X hW m_3_104 m_2_132 mv_X10_at (c_X10_at (kf_X3_ahead hk2) hcl) (by decide) rfl rfl (Nat.le_of_ble_eq_true rfl) hl.1 dX10_step_99 ?_
    clear hW hcl; intro H locs hW
    replace h := xr_el0 h
    exact ri_end0 hret h dX10_step_102 hW
  replace h := if_f hc4 h
  by_cases hc5 : v3 = 5
  · replace h := if_t hc5 h
    refine lv_tableIn (off := 94) (tgt := 103) hx hb dX10_step_9 (by rw [hc5]; decide) (by rw [hc5]; decide) (by rw [hc5]; rfl) (by decide) ?_
    refine lv_aload hx hb dX10_step_103 (lv_at hl 0 rfl) ?_
    refine gf_X3_costly X hW hk2 m_1_89 dX10_step_105 ?_
    refine lv_iload_n hx hb dX10_step_108 rfl (lv_at hl 3 rfl) ?_
    obtain ⟨r_8, hcl, h⟩ := bind_el h
    refine call_S1 X hW m_3_104 m_2_132 mv_X10_at (c_X10_at (kf_X3_costly hk2) hcl) (by decide) rfl rfl (Nat.le_of_ble_eq_true rfl) hl.1 dX10_step_109 ?_
    clear hW hcl; intro H locs hW
    replace h := xr_el0 h
    exact ri_end0 hret h dX10_step_112 hW
  replace h := if_f hc5 h
  refine lv_tableOut (tgt := 113) hx hb dX10_step_9 (tb_out (n := 6) (by decide) rfl (fun k hk => match k, hk with | 0, _ => hc0 | 1, _ => hc1 | 2, _ => hc2 | 3, _ => hc3 | 4, _ => hc4 | 5, _ => hc5 | k + 6, hk => absurd hk (by omega))) (by decide) ?_
  skip
  cases h
set_option maxRecDepth 20000 in
set_option maxHeartbeats 4000000 in
theorem x_X10_step {G : Gt} {l : Launch} {v0 : Nat} (h0 : kd v0 = 9) {v1 : Int32} {v2 : Int32} {v3 : Int32} {σ : St} {r : Nat} (hf : pf_X10_step v0 v1 v2 v3 σ = some (.inl r)) : CtT G l yX10_step cX10_step 5 (some .int) 9 [.ref (gz G + (v0)), .int (v1), .int (v2), .int (v3)] σ r σ := by
  refine met_t (by decide +kernel) (Nat.le_of_ble_eq_true rfl) (by decide) ?_
  intro p e s m args below meth c Q ls X hW hthr hpr hl
  have hx := X.1.1
  have hb := X.1.2.1
  have hl : lv_has ls 5 [(0, .ref (gz G + (v0))), (1, .int (v1)), (2, .int (v2)), (3, .int (v3))] := hl
  have h := hf
  clear hf
  unfold pf_X10_step at h
  refine lv_aload_n hx hb dX10_step_0 rfl (lv_at hl 0 rfl) ?_
  refine lv_iload_n hx hb dX10_step_1 rfl (lv_at hl 1 rfl) ?_
  refine lv_iload_n hx hb dX10_step_2 rfl (lv_at hl 2 rfl) ?_
  rcases bndX0_t h with hcl | ⟨r_1, hcl, h⟩
  · exact tcall_V X hW (kC_X10 h0) m_3_149 m_3_151 m_0_16 mv_X10_questWithStep (x_X10_questWithStep h0 hcl) (by decide) rfl rfl (Nat.le_of_ble_eq_true rfl) hl.1 dX10_step_3 hpr
  refine call_V1 X hW (kC_X10 h0) m_3_149 m_3_151 m_0_16 mv_X10_questWithStep (c_X10_questWithStep h0 hcl) (by decide) rfl rfl (Nat.le_of_ble_eq_true rfl) hl.1 dX10_step_3 ?_
  clear hW hcl; intro H locs hW
  obtain ⟨hk2, h⟩ := ckK_el h
  refine lv_astore (lv' := [(4, .ref (gz G + (r_1))), (0, .ref (gz G + (v0))), (1, .int (v1)), (2, .int (v2)), (3, .int (v3))]) hx hb dX10_step_6 hl (by decide) rfl ?_
  clear hl; intro ls hl
  refine lv_iload_n hx hb dX10_step_8 rfl (lv_at hl 4 rfl) ?_
  by_cases hc0 : v3 = 0
  · replace h := if_t hc0 h
    refine lv_tableIn (off := 39) (tgt := 48) hx hb dX10_step_9 (by rw [hc0]; decide) (by rw [hc0]; decide) (by rw [hc0]; rfl) (by decide) ?_
    refine lv_aload hx hb dX10_step_48 (lv_at hl 0 rfl) ?_
    refine gf_X3_risk X hW hk2 m_1_77 dX10_step_50 ?_
    refine lv_iload_n hx hb dX10_step_53 rfl (lv_at hl 3 rfl) ?_
    obtain ⟨r_3, hcl, h⟩ := bind_el h
    refine call_S1 X hW m_3_104 m_2_132 mv_X10_at (c_X10_at (kf_X3_risk hk2) hcl) (by decide) rfl rfl (Nat.le_of_ble_eq_true rfl) hl.1 dX10_step_54 ?_
    clear hW hcl; intro H locs hW
    cases h
  replace h := if_f hc0 h
  by_cases hc1 : v3 = 1
  · replace h := if_t hc1 h
    refine lv_tableIn (off := 49) (tgt := 58) hx hb dX10_step_9 (by rw [hc1]; decide) (by rw [hc1]; decide) (by rw [hc1]; rfl) (by decide) ?_
    refine lv_aload hx hb dX10_step_58 (lv_at hl 0 rfl) ?_
    refine gf_X3_limit X hW hk2 m_1_80 dX10_step_60 ?_
    refine lv_iload_n hx hb dX10_step_63 rfl (lv_at hl 3 rfl) ?_
    obtain ⟨r_4, hcl, h⟩ := bind_el h
    refine call_S1 X hW m_3_104 m_2_132 mv_X10_at (c_X10_at (kf_X3_limit hk2) hcl) (by decide) rfl rfl (Nat.le_of_ble_eq_true rfl) hl.1 dX10_step_64 ?_
    clear hW hcl; intro H locs hW
    cases h
  replace h := if_f hc1 h
  by_cases hc2 : v3 = 2
  · replace h := if_t hc2 h
    refine lv_tableIn (off := 59) (tgt := 68) hx hb dX10_step_9 (by rw [hc2]; decide) (by rw [hc2]; decide) (by rw [hc2]; rfl) (by decide) ?_
    refine lv_aload hx hb dX10_step_68 (lv_at hl 0 rfl) ?_
    refine gf_X3_fails X hW hk2 m_1_83 dX10_step_70 ?_
    refine lv_iload_n hx hb dX10_step_73 rfl (lv_at hl 3 rfl) ?_
    obtain ⟨r_5, hcl, h⟩ := bind_el h
    refine call_S1 X hW m_3_104 m_2_132 mv_X10_at (c_X10_at (kf_X3_fails hk2) hcl) (by decide) rfl rfl (Nat.le_of_ble_eq_true rfl) hl.1 dX10_step_74 ?_
    clear hW hcl; intro H locs hW
    cases h
  replace h := if_f hc2 h
  by_cases hc3 : v3 = 3
  · replace h := if_t hc3 h
    refine lv_tableIn (off := 69) (tgt := 78) hx hb dX10_step_9 (by rw [hc3]; decide) (by rw [hc3]; decide) (by rw [hc3]; rfl) (by decide) ?_
    refine lv_aload hx hb dX10_step_78 (lv_at hl 0 rfl) ?_
    refine lv_iload_n hx hb dX10_step_80 rfl (lv_at hl 3 rfl) ?_
    obtain ⟨r_6, hcl, h⟩ := bind_el h
    refine call_V1 X hW (kC_X3 hk2) m_3_153 m_3_154 m_3_155 mv_X3_isDone (c_X3_isDone hk2 hcl) (by decide) rfl rfl (Nat.le_of_ble_eq_true rfl) hl.1 dX10_step_81 ?_
    clear hW hcl; intro H locs hW
    refine lv_if_eq (tgt := 91) hx hb dX10_step_84 (by decide) (fun hc => ?_) (fun hc => ?_)
    · replace h := if_t hc h
      refine lv_iconst (v := 0) hx hb dX10_step_91 (by decide) ?_
      cases h
    · replace h := if_f hc h
      refine lv_iconst (v := 1) hx hb dX10_step_87 (by decide) ?_
      refine lv_goto (tgt := 92) hx hb dX10_step_88 (by decide) ?_
      cases h
  replace h := if_f hc3 h
  by_cases hc4 : v3 = 4
  · replace h := if_t hc4 h
    refine lv_tableIn (off := 84) (tgt := 93) hx hb dX10_step_9 (by rw [hc4]; decide) (by rw [hc4]; decide) (by rw [hc4]; rfl) (by decide) ?_
    refine lv_aload hx hb dX10_step_93 (lv_at hl 0 rfl) ?_
    refine gf_X3_ahead X hW hk2 m_1_85 dX10_step_95 ?_
    refine lv_iload_n hx hb dX10_step_98 rfl (lv_at hl 3 rfl) ?_
    obtain ⟨r_7, hcl, h⟩ := bind_el h
    refine call_S1 X hW m_3_104 m_2_132 mv_X10_at (c_X10_at (kf_X3_ahead hk2) hcl) (by decide) rfl rfl (Nat.le_of_ble_eq_true rfl) hl.1 dX10_step_99 ?_
    clear hW hcl; intro H locs hW
    cases h
  replace h := if_f hc4 h
  by_cases hc5 : v3 = 5
  · replace h := if_t hc5 h
    refine lv_tableIn (off := 94) (tgt := 103) hx hb dX10_step_9 (by rw [hc5]; decide) (by rw [hc5]; decide) (by rw [hc5]; rfl) (by decide) ?_
    refine lv_aload hx hb dX10_step_103 (lv_at hl 0 rfl) ?_
    refine gf_X3_costly X hW hk2 m_1_89 dX10_step_105 ?_
    refine lv_iload_n hx hb dX10_step_108 rfl (lv_at hl 3 rfl) ?_
    obtain ⟨r_8, hcl, h⟩ := bind_el h
    refine call_S1 X hW m_3_104 m_2_132 mv_X10_at (c_X10_at (kf_X3_costly hk2) hcl) (by decide) rfl rfl (Nat.le_of_ble_eq_true rfl) hl.1 dX10_step_109 ?_
    clear hW hcl; intro H locs hW
    cases h
  replace h := if_f hc5 h
  refine lv_tableOut (tgt := 113) hx hb dX10_step_9 (tb_out (n := 6) (by decide) rfl (fun k hk => match k, hk with | 0, _ => hc0 | 1, _ => hc1 | 2, _ => hc2 | 3, _ => hc3 | 4, _ => hc4 | 5, _ => hc5 | k + 6, hk => absurd hk (by omega))) (by decide) ?_
  skip
  exact thr_end0 hthr h dX10_step_113 dX10_step_116 dX10_step_117 dX10_step_120 exw_1_66 hW (Nat.le_of_ble_eq_true rfl) hl.1
set_option maxRecDepth 20000 in
set_option maxHeartbeats 4000000 in
theorem c_X10_amount {G : Gt} {l : Launch} {v0 : Nat} (h0 : kd v0 = 9) {v1 : Int32} {v2 : Int32} {v3 : Int32} {v4 : Int32} {σ : St} {r : Int32} (hf : pf_X10_amount v0 v1 v2 v3 v4 σ = some (.inr r)) : Ct G l yX10_amount cX10_amount 7 (some .int) 9 [.ref (gz G + (v0)), .int (v1), .int (v2), .int (v3), .int (v4)] σ (some (.int r)) σ := by
  refine met_i (by decide +kernel) (Nat.le_of_ble_eq_true rfl) rfl ?_
  intro p e s m args below meth c Q ls X hW hret hl
  have hx := X.1.1
  have hb := X.1.2.1
  have hl : lv_has ls 7 [(0, .ref (gz G + (v0))), (1, .int (v1)), (2, .int (v2)), (3, .int (v3)), (4, .int (v4))] := hl
  have h := hf
  clear hf
  unfold pf_X10_amount at h
  refine lv_aload_n hx hb dX10_amount_0 rfl (lv_at hl 0 rfl) ?_
  refine lv_iload_n hx hb dX10_amount_1 rfl (lv_at hl 1 rfl) ?_
  refine lv_iload_n hx hb dX10_amount_2 rfl (lv_at hl 2 rfl) ?_
  obtain ⟨r_1, hcl, h⟩ := bndX0_n h
  refine call_V1 X hW (kC_X10 h0) m_3_149 m_3_151 m_0_16 mv_X10_questWithStep (c_X10_questWithStep h0 hcl) (by decide) rfl rfl (Nat.le_of_ble_eq_true rfl) hl.1 dX10_amount_3 ?_
  clear hW hcl; intro H locs hW
  obtain ⟨hk2, h⟩ := ckK_el h
  refine lv_astore (lv' := [(5, .ref (gz G + (r_1))), (0, .ref (gz G + (v0))), (1, .int (v1)), (2, .int (v2)), (3, .int (v3)), (4, .int (v4))]) hx hb dX10_amount_6 hl (by decide) rfl ?_
  clear hl; intro ls hl
  refine lv_iload_n hx hb dX10_amount_8 rfl (lv_at hl 4 rfl) ?_
  obtain ⟨r_3, hcl, h⟩ := bndX0_n h
  refine call_S0 X hW m_5_11 m_5_12 mv_X10_checkItem (c_X10_checkItem hcl) (by decide) rfl rfl (Nat.le_of_ble_eq_true rfl) hl.1 dX10_amount_9 ?_
  clear hW hcl; intro H locs hW
  refine lv_iload_n hx hb dX10_amount_12 rfl (lv_at hl 3 rfl) ?_
  refine lv_bipush (v := 8) hx hb dX10_amount_13 (by decide) ?_
  refine lv_imul hx hb dX10_amount_15 ?_
  refine lv_iload_n hx hb dX10_amount_16 rfl (lv_at hl 4 rfl) ?_
  refine lv_iadd hx hb dX10_amount_17 ?_
  refine nm_i h ?_
  clear h; intro v6_4 h
  refine lv_istore (lv' := [(6, .int (v6_4)), (5, .ref (gz G + (r_1))), (0, .ref (gz G + (v0))), (1, .int (v1)), (2, .int (v2)), (3, .int (v3)), (4, .int (v4))]) hx hb dX10_amount_18 hl (by decide) rfl ?_
  clear hl; intro ls hl
  refine lv_iload hx hb dX10_amount_20 (lv_at hl 6 rfl) ?_
  by_cases hc0 : v4 = 0
  · replace h := if_t hc0 h
    refine lv_tableIn (off := 26) (tgt := 48) hx hb dX10_amount_22 (by rw [hc0]; decide) (by rw [hc0]; decide) (by rw [hc0]; rfl) (by decide) ?_
    refine lv_aload hx hb dX10_amount_48 (lv_at hl 1 rfl) ?_
    refine gf_X3_uses X hW hk2 m_1_95 dX10_amount_50 ?_
    refine lv_iload hx hb dX10_amount_53 (lv_at hl 0 rfl) ?_
    obtain ⟨r_5, hcl, h⟩ := bind_el h
    refine call_S1 X hW m_3_104 m_2_132 mv_X10_at (c_X10_at (kf_X3_uses hk2) hcl) (by decide) rfl rfl (Nat.le_of_ble_eq_true rfl) hl.1 dX10_amount_55 ?_
    clear hW hcl; intro H locs hW
    replace h := xr_el0 h
    exact ri_end0 hret h dX10_amount_58 hW
  replace h := if_f hc0 h
  by_cases hc1 : v4 = 1
  · replace h := if_t hc1 h
    refine lv_tableIn (off := 37) (tgt := 59) hx hb dX10_amount_22 (by rw [hc1]; decide) (by rw [hc1]; decide) (by rw [hc1]; rfl) (by decide) ?_
    refine lv_aload hx hb dX10_amount_59 (lv_at hl 1 rfl) ?_
    refine gf_X3_needs X hW hk2 m_1_98 dX10_amount_61 ?_
    refine lv_iload hx hb dX10_amount_64 (lv_at hl 0 rfl) ?_
    obtain ⟨r_6, hcl, h⟩ := bind_el h
    refine call_S1 X hW m_3_104 m_2_132 mv_X10_at (c_X10_at (kf_X3_needs hk2) hcl) (by decide) rfl rfl (Nat.le_of_ble_eq_true rfl) hl.1 dX10_amount_66 ?_
    clear hW hcl; intro H locs hW
    replace h := xr_el0 h
    exact ri_end0 hret h dX10_amount_69 hW
  replace h := if_f hc1 h
  by_cases hc2 : v4 = 2
  · replace h := if_t hc2 h
    refine lv_tableIn (off := 48) (tgt := 70) hx hb dX10_amount_22 (by rw [hc2]; decide) (by rw [hc2]; decide) (by rw [hc2]; rfl) (by decide) ?_
    refine lv_aload hx hb dX10_amount_70 (lv_at hl 1 rfl) ?_
    refine gf_X3_gives X hW hk2 m_1_103 dX10_amount_72 ?_
    refine lv_iload hx hb dX10_amount_75 (lv_at hl 0 rfl) ?_
    obtain ⟨r_7, hcl, h⟩ := bind_el h
    refine call_S1 X hW m_3_104 m_2_132 mv_X10_at (c_X10_at (kf_X3_gives hk2) hcl) (by decide) rfl rfl (Nat.le_of_ble_eq_true rfl) hl.1 dX10_amount_77 ?_
    clear hW hcl; intro H locs hW
    replace h := xr_el0 h
    exact ri_end0 hret h dX10_amount_80 hW
  replace h := if_f hc2 h
  refine lv_tableOut (tgt := 81) hx hb dX10_amount_22 (tb_out (n := 3) (by decide) rfl (fun k hk => match k, hk with | 0, _ => hc0 | 1, _ => hc1 | 2, _ => hc2 | k + 3, hk => absurd hk (by omega))) (by decide) ?_
  skip
  cases h
set_option maxRecDepth 20000 in
set_option maxHeartbeats 4000000 in
theorem x_X10_amount {G : Gt} {l : Launch} {v0 : Nat} (h0 : kd v0 = 9) {v1 : Int32} {v2 : Int32} {v3 : Int32} {v4 : Int32} {σ : St} {r : Nat} (hf : pf_X10_amount v0 v1 v2 v3 v4 σ = some (.inl r)) : CtT G l yX10_amount cX10_amount 7 (some .int) 9 [.ref (gz G + (v0)), .int (v1), .int (v2), .int (v3), .int (v4)] σ r σ := by
  refine met_t (by decide +kernel) (Nat.le_of_ble_eq_true rfl) (by decide) ?_
  intro p e s m args below meth c Q ls X hW hthr hpr hl
  have hx := X.1.1
  have hb := X.1.2.1
  have hl : lv_has ls 7 [(0, .ref (gz G + (v0))), (1, .int (v1)), (2, .int (v2)), (3, .int (v3)), (4, .int (v4))] := hl
  have h := hf
  clear hf
  unfold pf_X10_amount at h
  refine lv_aload_n hx hb dX10_amount_0 rfl (lv_at hl 0 rfl) ?_
  refine lv_iload_n hx hb dX10_amount_1 rfl (lv_at hl 1 rfl) ?_
  refine lv_iload_n hx hb dX10_amount_2 rfl (lv_at hl 2 rfl) ?_
  rcases bndX0_t h with hcl | ⟨r_1, hcl, h⟩
  · exact tcall_V X hW (kC_X10 h0) m_3_149 m_3_151 m_0_16 mv_X10_questWithStep (x_X10_questWithStep h0 hcl) (by decide) rfl rfl (Nat.le_of_ble_eq_true rfl) hl.1 dX10_amount_3 hpr
  refine call_V1 X hW (kC_X10 h0) m_3_149 m_3_151 m_0_16 mv_X10_questWithStep (c_X10_questWithStep h0 hcl) (by decide) rfl rfl (Nat.le_of_ble_eq_true rfl) hl.1 dX10_amount_3 ?_
  clear hW hcl; intro H locs hW
  obtain ⟨hk2, h⟩ := ckK_el h
  refine lv_astore (lv' := [(5, .ref (gz G + (r_1))), (0, .ref (gz G + (v0))), (1, .int (v1)), (2, .int (v2)), (3, .int (v3)), (4, .int (v4))]) hx hb dX10_amount_6 hl (by decide) rfl ?_
  clear hl; intro ls hl
  refine lv_iload_n hx hb dX10_amount_8 rfl (lv_at hl 4 rfl) ?_
  rcases bndX0_t h with hcl | ⟨r_3, hcl, h⟩
  · exact tcall_S X hW m_5_11 m_5_12 mv_X10_checkItem (x_X10_checkItem hcl) (by decide) rfl rfl (Nat.le_of_ble_eq_true rfl) hl.1 dX10_amount_9 hpr
  refine call_S0 X hW m_5_11 m_5_12 mv_X10_checkItem (c_X10_checkItem hcl) (by decide) rfl rfl (Nat.le_of_ble_eq_true rfl) hl.1 dX10_amount_9 ?_
  clear hW hcl; intro H locs hW
  refine lv_iload_n hx hb dX10_amount_12 rfl (lv_at hl 3 rfl) ?_
  refine lv_bipush (v := 8) hx hb dX10_amount_13 (by decide) ?_
  refine lv_imul hx hb dX10_amount_15 ?_
  refine lv_iload_n hx hb dX10_amount_16 rfl (lv_at hl 4 rfl) ?_
  refine lv_iadd hx hb dX10_amount_17 ?_
  refine nm_i h ?_
  clear h; intro v6_4 h
  refine lv_istore (lv' := [(6, .int (v6_4)), (5, .ref (gz G + (r_1))), (0, .ref (gz G + (v0))), (1, .int (v1)), (2, .int (v2)), (3, .int (v3)), (4, .int (v4))]) hx hb dX10_amount_18 hl (by decide) rfl ?_
  clear hl; intro ls hl
  refine lv_iload hx hb dX10_amount_20 (lv_at hl 6 rfl) ?_
  by_cases hc0 : v4 = 0
  · replace h := if_t hc0 h
    refine lv_tableIn (off := 26) (tgt := 48) hx hb dX10_amount_22 (by rw [hc0]; decide) (by rw [hc0]; decide) (by rw [hc0]; rfl) (by decide) ?_
    refine lv_aload hx hb dX10_amount_48 (lv_at hl 1 rfl) ?_
    refine gf_X3_uses X hW hk2 m_1_95 dX10_amount_50 ?_
    refine lv_iload hx hb dX10_amount_53 (lv_at hl 0 rfl) ?_
    obtain ⟨r_5, hcl, h⟩ := bind_el h
    refine call_S1 X hW m_3_104 m_2_132 mv_X10_at (c_X10_at (kf_X3_uses hk2) hcl) (by decide) rfl rfl (Nat.le_of_ble_eq_true rfl) hl.1 dX10_amount_55 ?_
    clear hW hcl; intro H locs hW
    cases h
  replace h := if_f hc0 h
  by_cases hc1 : v4 = 1
  · replace h := if_t hc1 h
    refine lv_tableIn (off := 37) (tgt := 59) hx hb dX10_amount_22 (by rw [hc1]; decide) (by rw [hc1]; decide) (by rw [hc1]; rfl) (by decide) ?_
    refine lv_aload hx hb dX10_amount_59 (lv_at hl 1 rfl) ?_
    refine gf_X3_needs X hW hk2 m_1_98 dX10_amount_61 ?_
    refine lv_iload hx hb dX10_amount_64 (lv_at hl 0 rfl) ?_
    obtain ⟨r_6, hcl, h⟩ := bind_el h
    refine call_S1 X hW m_3_104 m_2_132 mv_X10_at (c_X10_at (kf_X3_needs hk2) hcl) (by decide) rfl rfl (Nat.le_of_ble_eq_true rfl) hl.1 dX10_amount_66 ?_
    clear hW hcl; intro H locs hW
    cases h
  replace h := if_f hc1 h
  by_cases hc2 : v4 = 2
  · replace h := if_t hc2 h
    refine lv_tableIn (off := 48) (tgt := 70) hx hb dX10_amount_22 (by rw [hc2]; decide) (by rw [hc2]; decide) (by rw [hc2]; rfl) (by decide) ?_
    refine lv_aload hx hb dX10_amount_70 (lv_at hl 1 rfl) ?_
    refine gf_X3_gives X hW hk2 m_1_103 dX10_amount_72 ?_
    refine lv_iload hx hb dX10_amount_75 (lv_at hl 0 rfl) ?_
    obtain ⟨r_7, hcl, h⟩ := bind_el h
    refine call_S1 X hW m_3_104 m_2_132 mv_X10_at (c_X10_at (kf_X3_gives hk2) hcl) (by decide) rfl rfl (Nat.le_of_ble_eq_true rfl) hl.1 dX10_amount_77 ?_
    clear hW hcl; intro H locs hW
    cases h
  replace h := if_f hc2 h
  refine lv_tableOut (tgt := 81) hx hb dX10_amount_22 (tb_out (n := 3) (by decide) rfl (fun k hk => match k, hk with | 0, _ => hc0 | 1, _ => hc1 | 2, _ => hc2 | k + 3, hk => absurd hk (by omega))) (by decide) ?_
  skip
  exact thr_end0 hthr h dX10_amount_81 dX10_amount_84 dX10_amount_85 dX10_amount_88 exw_1_66 hW (Nat.le_of_ble_eq_true rfl) hl.1
set_option maxRecDepth 20000 in
set_option maxHeartbeats 4000000 in
theorem c_X10_why {G : Gt} {l : Launch} {v0 : Nat} (h0 : kd v0 = 9) {v1 : Int32} {v2 : Int32} {σ : St} {r : Int32} (hf : pf_X10_why v0 v1 v2 σ = some (.inr r)) : Ct G l yX10_why cX10_why 3 (some .int) 9 [.ref (gz G + (v0)), .int (v1), .int (v2)] σ (some (.int r)) σ := by
  refine met_i (by decide +kernel) (Nat.le_of_ble_eq_true rfl) rfl ?_
  intro p e s m args below meth c Q ls X hW hret hl
  have hx := X.1.1
  have hb := X.1.2.1
  have hl : lv_has ls 3 [(0, .ref (gz G + (v0))), (1, .int (v1)), (2, .int (v2))] := hl
  have h := hf
  clear hf
  unfold pf_X10_why at h
  refine lv_aload_n hx hb dX10_why_0 rfl (lv_at hl 0 rfl) ?_
  refine lv_iload_n hx hb dX10_why_1 rfl (lv_at hl 1 rfl) ?_
  refine lv_iload_n hx hb dX10_why_2 rfl (lv_at hl 2 rfl) ?_
  obtain ⟨r_1, hcl, h⟩ := bndX0_n h
  refine call_V1 X hW (kC_X10 h0) m_3_149 m_3_151 m_0_16 mv_X10_questWithStep (c_X10_questWithStep h0 hcl) (by decide) rfl rfl (Nat.le_of_ble_eq_true rfl) hl.1 dX10_why_3 ?_
  clear hW hcl; intro H locs hW
  obtain ⟨hk2, h⟩ := ckK_el h
  refine lv_iload_n hx hb dX10_why_6 rfl (lv_at hl 2 rfl) ?_
  refine lv_aload_n hx hb dX10_why_7 rfl (lv_at hl 0 rfl) ?_
  refine gf_X10_now X hW h0 m_2_64 dX10_why_8 ?_
  refine gf_X2_stock X hW (kf_X10_now h0) m_1_136 dX10_why_11 ?_
  obtain ⟨r_3, hcl, h⟩ := bind_el h
  refine call_V1 X hW (kC_X3 hk2) m_5_36 m_3_141 m_3_142 mv_X3_hindrance (c_X3_hindrance hk2 (kf_X2_stock (kf_X10_now h0)) hcl) (by decide) rfl rfl (Nat.le_of_ble_eq_true rfl) hl.1 dX10_why_14 ?_
  clear hW hcl; intro H locs hW
  replace h := xr_el0 h
  exact ri_end0 hret h dX10_why_17 hW
set_option maxRecDepth 20000 in
set_option maxHeartbeats 4000000 in
theorem x_X10_why {G : Gt} {l : Launch} {v0 : Nat} (h0 : kd v0 = 9) {v1 : Int32} {v2 : Int32} {σ : St} {r : Nat} (hf : pf_X10_why v0 v1 v2 σ = some (.inl r)) : CtT G l yX10_why cX10_why 3 (some .int) 9 [.ref (gz G + (v0)), .int (v1), .int (v2)] σ r σ := by
  refine met_t (by decide +kernel) (Nat.le_of_ble_eq_true rfl) (by decide) ?_
  intro p e s m args below meth c Q ls X hW hthr hpr hl
  have hx := X.1.1
  have hb := X.1.2.1
  have hl : lv_has ls 3 [(0, .ref (gz G + (v0))), (1, .int (v1)), (2, .int (v2))] := hl
  have h := hf
  clear hf
  unfold pf_X10_why at h
  refine lv_aload_n hx hb dX10_why_0 rfl (lv_at hl 0 rfl) ?_
  refine lv_iload_n hx hb dX10_why_1 rfl (lv_at hl 1 rfl) ?_
  refine lv_iload_n hx hb dX10_why_2 rfl (lv_at hl 2 rfl) ?_
  rcases bndX0_t h with hcl | ⟨r_1, hcl, h⟩
  · exact tcall_V X hW (kC_X10 h0) m_3_149 m_3_151 m_0_16 mv_X10_questWithStep (x_X10_questWithStep h0 hcl) (by decide) rfl rfl (Nat.le_of_ble_eq_true rfl) hl.1 dX10_why_3 hpr
  refine call_V1 X hW (kC_X10 h0) m_3_149 m_3_151 m_0_16 mv_X10_questWithStep (c_X10_questWithStep h0 hcl) (by decide) rfl rfl (Nat.le_of_ble_eq_true rfl) hl.1 dX10_why_3 ?_
  clear hW hcl; intro H locs hW
  obtain ⟨hk2, h⟩ := ckK_el h
  refine lv_iload_n hx hb dX10_why_6 rfl (lv_at hl 2 rfl) ?_
  refine lv_aload_n hx hb dX10_why_7 rfl (lv_at hl 0 rfl) ?_
  refine gf_X10_now X hW h0 m_2_64 dX10_why_8 ?_
  refine gf_X2_stock X hW (kf_X10_now h0) m_1_136 dX10_why_11 ?_
  obtain ⟨r_3, hcl, h⟩ := bind_el h
  refine call_V1 X hW (kC_X3 hk2) m_5_36 m_3_141 m_3_142 mv_X3_hindrance (c_X3_hindrance hk2 (kf_X2_stock (kf_X10_now h0)) hcl) (by decide) rfl rfl (Nat.le_of_ble_eq_true rfl) hl.1 dX10_why_14 ?_
  clear hW hcl; intro H locs hW
  cases h
set_option maxRecDepth 20000 in
set_option maxHeartbeats 4000000 in
theorem bl_X10_holds_b16 {σ : St} (X : Cx G p R s m args c cells slots cX10_holds 4 RX10 8) {r : Int32} (hret : R_Z G p l e R s m args below meth c cells slots Q cX10_holds r σ) :
    ∀ (_ : pf_X10_holds_b16 σ = some (.inr r)) (H : Heap) (locs : List Loc) (ls : Array Slot) (_ : GW G σ s H locs) (_ : lv_has ls 4 []), W p l e R s m args below meth c H locs cells slots Q (F0 m 16 ls []) := by
  have hx := X.1.1
  have hb := X.1.2.1
  intro h H locs ls hW hl
  unfold pf_X10_holds_b16 at h
  cases h
set_option maxRecDepth 20000 in
set_option maxHeartbeats 4000000 in
theorem c_X10_holds {G : Gt} {l : Launch} {v0 : Nat} (h0 : kd v0 = 9) {v1 : Int32} {v2 : Int32} {σ : St} {r : Int32} (hf : pf_X10_holds v0 v1 v2 σ = some (.inr r)) : Ct G l yX10_holds cX10_holds 4 (some .boolean) 8 [.ref (gz G + (v0)), .int (v1), .int (v2)] σ (some (.int r)) σ := by
  refine met_z (by decide +kernel) (Nat.le_of_ble_eq_true rfl) rfl ?_
  intro p e s m args below meth c Q ls X hW hret hl
  have hx := X.1.1
  have hb := X.1.2.1
  have hl : lv_has ls 4 [(0, .ref (gz G + (v0))), (1, .int (v1)), (2, .int (v2))] := hl
  have h := hf
  clear hf
  unfold pf_X10_holds at h
  refine lv_aload_n hx hb dX10_holds_0 rfl (lv_at hl 0 rfl) ?_
  refine lv_iload_n hx hb dX10_holds_1 rfl (lv_at hl 1 rfl) ?_
  obtain ⟨r_1, hcl, h⟩ := bndX0_n h
  refine call_V1 X hW (kC_X10 h0) m_3_113 m_3_115 m_0_15 mv_X10_questAt (c_X10_questAt h0 hcl) (by decide) rfl rfl (Nat.le_of_ble_eq_true rfl) hl.1 dX10_holds_2 ?_
  clear hW hcl; intro H locs hW
  obtain ⟨hk2, h⟩ := ckK_el h
  refine lv_astore_n (lv' := [(3, .ref (gz G + (r_1))), (0, .ref (gz G + (v0))), (1, .int (v1)), (2, .int (v2))]) hx hb dX10_holds_5 rfl hl (by decide) rfl ?_
  clear hl; intro ls hl
  refine lv_iload_n hx hb dX10_holds_6 rfl (lv_at hl 3 rfl) ?_
  refine lv_if_lt (tgt := 16) hx hb dX10_holds_7 (by decide) (fun hc => ?_) (fun hc => ?_)
  · replace h := if_t hc h
    exact bl_X10_holds_b16 X hret h _ _ _ hW (lv_sub hl [] rfl)
  · replace h := if_f hc h
    refine lv_iload_n hx hb dX10_holds_10 rfl (lv_at hl 3 rfl) ?_
    refine lv_bipush (v := 64) hx hb dX10_holds_11 (by decide) ?_
    refine lv_icmp_lt (tgt := 24) hx hb dX10_holds_13 (by decide) (fun hc => ?_) (fun hc => ?_)
    · replace h := if_t hc h
      refine lv_aload_n hx hb dX10_holds_24 rfl (lv_at hl 0 rfl) ?_
      refine lv_iload_n hx hb dX10_holds_25 rfl (lv_at hl 3 rfl) ?_
      obtain ⟨r_3, hcl, h⟩ := bind_el h
      refine call_V1 X hW (kC_X3 hk2) m_5_44 m_2_144 m_2_145 mv_X3_goalHolds (c_X3_goalHolds hk2 hcl) (by decide) rfl rfl (Nat.le_of_ble_eq_true rfl) hl.1 dX10_holds_26 ?_
      clear hW hcl; intro H locs hW
      obtain ⟨hz, h⟩ := ckZ_el h
      replace h := xr_el0 h
      exact rz_end0 hret h hz dX10_holds_29 hW
    · replace h := if_f hc h
      exact bl_X10_holds_b16 X hret h _ _ _ hW (lv_sub hl [] rfl)
set_option maxRecDepth 20000 in
set_option maxHeartbeats 4000000 in
theorem xl_X10_holds_b16 {σ : St} (X : Cx G p R s m args c cells slots cX10_holds 4 RX10 8) {r : Nat} (hthr : R_X G p l e R s m args below meth c cells slots Q cX10_holds 4 RX10 r σ) (hpr : R_P G p l e R s m args below meth c cells slots Q r σ) :
    ∀ (_ : pf_X10_holds_b16 σ = some (.inl r)) (H : Heap) (locs : List Loc) (ls : Array Slot) (_ : GW G σ s H locs) (_ : lv_has ls 4 []), W p l e R s m args below meth c H locs cells slots Q (F0 m 16 ls []) := by
  have hx := X.1.1
  have hb := X.1.2.1
  intro h H locs ls hW hl
  unfold pf_X10_holds_b16 at h
  exact thr_end0 hthr h dX10_holds_16 dX10_holds_19 dX10_holds_20 dX10_holds_23 exw_1_66 hW (Nat.le_of_ble_eq_true rfl) hl.1
set_option maxRecDepth 20000 in
set_option maxHeartbeats 4000000 in
theorem x_X10_holds {G : Gt} {l : Launch} {v0 : Nat} (h0 : kd v0 = 9) {v1 : Int32} {v2 : Int32} {σ : St} {r : Nat} (hf : pf_X10_holds v0 v1 v2 σ = some (.inl r)) : CtT G l yX10_holds cX10_holds 4 (some .boolean) 8 [.ref (gz G + (v0)), .int (v1), .int (v2)] σ r σ := by
  refine met_t (by decide +kernel) (Nat.le_of_ble_eq_true rfl) (by decide) ?_
  intro p e s m args below meth c Q ls X hW hthr hpr hl
  have hx := X.1.1
  have hb := X.1.2.1
  have hl : lv_has ls 4 [(0, .ref (gz G + (v0))), (1, .int (v1)), (2, .int (v2))] := hl
  have h := hf
  clear hf
  unfold pf_X10_holds at h
  refine lv_aload_n hx hb dX10_holds_0 rfl (lv_at hl 0 rfl) ?_
  refine lv_iload_n hx hb dX10_holds_1 rfl (lv_at hl 1 rfl) ?_
  rcases bndX0_t h with hcl | ⟨r_1, hcl, h⟩
  · exact tcall_V X hW (kC_X10 h0) m_3_113 m_3_115 m_0_15 mv_X10_questAt (x_X10_questAt h0 hcl) (by decide) rfl rfl (Nat.le_of_ble_eq_true rfl) hl.1 dX10_holds_2 hpr
  refine call_V1 X hW (kC_X10 h0) m_3_113 m_3_115 m_0_15 mv_X10_questAt (c_X10_questAt h0 hcl) (by decide) rfl rfl (Nat.le_of_ble_eq_true rfl) hl.1 dX10_holds_2 ?_
  clear hW hcl; intro H locs hW
  obtain ⟨hk2, h⟩ := ckK_el h
  refine lv_astore_n (lv' := [(3, .ref (gz G + (r_1))), (0, .ref (gz G + (v0))), (1, .int (v1)), (2, .int (v2))]) hx hb dX10_holds_5 rfl hl (by decide) rfl ?_
  clear hl; intro ls hl
  refine lv_iload_n hx hb dX10_holds_6 rfl (lv_at hl 3 rfl) ?_
  refine lv_if_lt (tgt := 16) hx hb dX10_holds_7 (by decide) (fun hc => ?_) (fun hc => ?_)
  · replace h := if_t hc h
    exact xl_X10_holds_b16 X hthr hpr h _ _ _ hW (lv_sub hl [] rfl)
  · replace h := if_f hc h
    refine lv_iload_n hx hb dX10_holds_10 rfl (lv_at hl 3 rfl) ?_
    refine lv_bipush (v := 64) hx hb dX10_holds_11 (by decide) ?_
    refine lv_icmp_lt (tgt := 24) hx hb dX10_holds_13 (by decide) (fun hc => ?_) (fun hc => ?_)
    · replace h := if_t hc h
      refine lv_aload_n hx hb dX10_holds_24 rfl (lv_at hl 0 rfl) ?_
      refine lv_iload_n hx hb dX10_holds_25 rfl (lv_at hl 3 rfl) ?_
      obtain ⟨r_3, hcl, h⟩ := bind_el h
      refine call_V1 X hW (kC_X3 hk2) m_5_44 m_2_144 m_2_145 mv_X3_goalHolds (c_X3_goalHolds hk2 hcl) (by decide) rfl rfl (Nat.le_of_ble_eq_true rfl) hl.1 dX10_holds_26 ?_
      clear hW hcl; intro H locs hW
      obtain ⟨hz, h⟩ := ckZ_el h
      cases h
    · replace h := if_f hc h
      exact xl_X10_holds_b16 X hthr hpr h _ _ _ hW (lv_sub hl [] rfl)
set_option maxRecDepth 20000 in
set_option maxHeartbeats 4000000 in
theorem c_X10_possible {G : Gt} {l : Launch} {v0 : Nat} (h0 : kd v0 = 9) {v1 : Int32} {σ : St} {r : Int32} {σ' : St} (hf : pf_X10_possible v0 v1 σ = some (.inr r, σ')) : Ct G l yX10_possible cX10_possible 2 (some .boolean) 8 [.ref (gz G + (v0)), .int (v1)] σ (some (.int r)) σ' := by
  refine met_z (by decide +kernel) (Nat.le_of_ble_eq_true rfl) rfl ?_
  intro p e s m args below meth c Q ls X hW hret hl
  have hx := X.1.1
  have hb := X.1.2.1
  have hl : lv_has ls 2 [(0, .ref (gz G + (v0))), (1, .int (v1))] := hl
  have h := hf
  clear hf
  unfold pf_X10_possible at h
  refine lv_aload_n hx hb dX10_possible_0 rfl (lv_at hl 0 rfl) ?_
  refine gf_X10_ways X hW h0 m_2_68 dX10_possible_1 ?_
  refine lv_aload_n hx hb dX10_possible_4 rfl (lv_at hl 0 rfl) ?_
  refine lv_iload_n hx hb dX10_possible_5 rfl (lv_at hl 1 rfl) ?_
  obtain ⟨r_1, hcl, h⟩ := bndX0W_n h
  refine call_V1 X hW (kC_X10 h0) m_3_113 m_3_115 m_0_15 mv_X10_questAt (c_X10_questAt h0 hcl) (by decide) rfl rfl (Nat.le_of_ble_eq_true rfl) hl.1 dX10_possible_6 ?_
  clear hW hcl; intro H locs hW
  obtain ⟨hk2, h⟩ := ckK_el h
  refine lv_aload_n hx hb dX10_possible_9 rfl (lv_at hl 0 rfl) ?_
  refine gf_X10_now X hW h0 m_2_64 dX10_possible_10 ?_
  refine gf_X2_stock X hW (kf_X10_now h0) m_1_136 dX10_possible_13 ?_
  obtain ⟨r_3, σ_3, hcl, h⟩ := bnd2_el h
  refine call_V1 X hW (kC_X7 (kf_X10_ways h0)) m_2_124 m_2_125 m_2_126 mv_X7_explore (c_X7_explore (kf_X10_ways h0) hk2 (kf_X2_stock (kf_X10_now h0)) hcl) (by decide) rfl rfl (Nat.le_of_ble_eq_true rfl) hl.1 dX10_possible_16 ?_
  clear hW hcl; intro H locs hW
  obtain ⟨hz, h⟩ := ckZ_el h
  replace h := xr_el h
  exact rz_end hret h hz dX10_possible_19 hW
set_option maxRecDepth 20000 in
set_option maxHeartbeats 4000000 in
theorem x_X10_possible {G : Gt} {l : Launch} {v0 : Nat} (h0 : kd v0 = 9) {v1 : Int32} {σ : St} {r : Nat} {σ' : St} (hf : pf_X10_possible v0 v1 σ = some (.inl r, σ')) : CtT G l yX10_possible cX10_possible 2 (some .boolean) 8 [.ref (gz G + (v0)), .int (v1)] σ r σ' := by
  refine met_t (by decide +kernel) (Nat.le_of_ble_eq_true rfl) (by decide) ?_
  intro p e s m args below meth c Q ls X hW hthr hpr hl
  have hx := X.1.1
  have hb := X.1.2.1
  have hl : lv_has ls 2 [(0, .ref (gz G + (v0))), (1, .int (v1))] := hl
  have h := hf
  clear hf
  unfold pf_X10_possible at h
  refine lv_aload_n hx hb dX10_possible_0 rfl (lv_at hl 0 rfl) ?_
  refine gf_X10_ways X hW h0 m_2_68 dX10_possible_1 ?_
  refine lv_aload_n hx hb dX10_possible_4 rfl (lv_at hl 0 rfl) ?_
  refine lv_iload_n hx hb dX10_possible_5 rfl (lv_at hl 1 rfl) ?_
  rcases bndX0W_t h with ⟨hcl, rfl⟩ | ⟨r_1, hcl, h⟩
  · exact tcall_V X hW (kC_X10 h0) m_3_113 m_3_115 m_0_15 mv_X10_questAt (x_X10_questAt h0 hcl) (by decide) rfl rfl (Nat.le_of_ble_eq_true rfl) hl.1 dX10_possible_6 hpr
  refine call_V1 X hW (kC_X10 h0) m_3_113 m_3_115 m_0_15 mv_X10_questAt (c_X10_questAt h0 hcl) (by decide) rfl rfl (Nat.le_of_ble_eq_true rfl) hl.1 dX10_possible_6 ?_
  clear hW hcl; intro H locs hW
  obtain ⟨hk2, h⟩ := ckK_el h
  refine lv_aload_n hx hb dX10_possible_9 rfl (lv_at hl 0 rfl) ?_
  refine gf_X10_now X hW h0 m_2_64 dX10_possible_10 ?_
  refine gf_X2_stock X hW (kf_X10_now h0) m_1_136 dX10_possible_13 ?_
  obtain ⟨r_3, σ_3, hcl, h⟩ := bnd2_el h
  refine call_V1 X hW (kC_X7 (kf_X10_ways h0)) m_2_124 m_2_125 m_2_126 mv_X7_explore (c_X7_explore (kf_X10_ways h0) hk2 (kf_X2_stock (kf_X10_now h0)) hcl) (by decide) rfl rfl (Nat.le_of_ble_eq_true rfl) hl.1 dX10_possible_16 ?_
  clear hW hcl; intro H locs hW
  obtain ⟨hz, h⟩ := ckZ_el h
  cases h
set_option maxRecDepth 20000 in
set_option maxHeartbeats 4000000 in
theorem c_X10_planLength {G : Gt} {l : Launch} {v0 : Nat} (h0 : kd v0 = 9) {v1 : Int32} {σ : St} {r : Int32} {σ' : St} (hf : pf_X10_planLength v0 v1 σ = some (.inr r, σ')) : Ct G l yX10_planLength cX10_planLength 3 (some .int) 8 [.ref (gz G + (v0)), .int (v1)] σ (some (.int r)) σ' := by
  refine met_i (by decide +kernel) (Nat.le_of_ble_eq_true rfl) rfl ?_
  intro p e s m args below meth c Q ls X hW hret hl
  have hx := X.1.1
  have hb := X.1.2.1
  have hl : lv_has ls 3 [(0, .ref (gz G + (v0))), (1, .int (v1))] := hl
  have h := hf
  clear hf
  unfold pf_X10_planLength at h
  refine lv_aload_n hx hb dX10_planLength_0 rfl (lv_at hl 0 rfl) ?_
  refine lv_iload_n hx hb dX10_planLength_1 rfl (lv_at hl 1 rfl) ?_
  obtain ⟨r_1, hcl, h⟩ := bndX0W_n h
  refine call_V1 X hW (kC_X10 h0) m_3_113 m_3_115 m_0_15 mv_X10_questAt (c_X10_questAt h0 hcl) (by decide) rfl rfl (Nat.le_of_ble_eq_true rfl) hl.1 dX10_planLength_2 ?_
  clear hW hcl; intro H locs hW
  obtain ⟨hk2, h⟩ := ckK_el h
  refine lv_astore_n (lv' := [(2, .ref (gz G + (r_1))), (0, .ref (gz G + (v0))), (1, .int (v1))]) hx hb dX10_planLength_5 rfl hl (by decide) rfl ?_
  clear hl; intro ls hl
  refine lv_aload_n hx hb dX10_planLength_6 rfl (lv_at hl 1 rfl) ?_
  refine gf_X10_ways X hW h0 m_2_68 dX10_planLength_7 ?_
  refine lv_aload_n hx hb dX10_planLength_10 rfl (lv_at hl 0 rfl) ?_
  refine lv_aload_n hx hb dX10_planLength_11 rfl (lv_at hl 1 rfl) ?_
  refine gf_X10_now X hW h0 m_2_64 dX10_planLength_12 ?_
  refine gf_X2_stock X hW (kf_X10_now h0) m_1_136 dX10_planLength_15 ?_
  obtain ⟨r_3, σ_3, hcl, h⟩ := bnd2_el h
  refine call_V1 X hW (kC_X7 (kf_X10_ways h0)) m_2_124 m_2_125 m_2_126 mv_X7_explore (c_X7_explore (kf_X10_ways h0) hk2 (kf_X2_stock (kf_X10_now h0)) hcl) (by decide) rfl rfl (Nat.le_of_ble_eq_true rfl) hl.1 dX10_planLength_18 ?_
  clear hW hcl; intro H locs hW
  refine lv_pop hx hb dX10_planLength_21 rfl ?_
  refine lv_aload_n hx hb dX10_planLength_22 rfl (lv_at hl 1 rfl) ?_
  refine gf_X10_ways X hW h0 m_2_68 dX10_planLength_23 ?_
  refine lv_aload_n hx hb dX10_planLength_26 rfl (lv_at hl 0 rfl) ?_
  obtain ⟨r_4, hcl, h⟩ := bind_el h
  refine call_V1 X hW (kC_X7 (kf_X10_ways h0)) m_2_174 m_2_175 m_2_176 mv_X7_lengthOfPlan (c_X7_lengthOfPlan (kf_X10_ways h0) hk2 hcl) (by decide) rfl rfl (Nat.le_of_ble_eq_true rfl) hl.1 dX10_planLength_27 ?_
  clear hW hcl; intro H locs hW
  replace h := xr_el h
  exact ri_end hret h dX10_planLength_30 hW
set_option maxRecDepth 20000 in
set_option maxHeartbeats 4000000 in
theorem x_X10_planLength {G : Gt} {l : Launch} {v0 : Nat} (h0 : kd v0 = 9) {v1 : Int32} {σ : St} {r : Nat} {σ' : St} (hf : pf_X10_planLength v0 v1 σ = some (.inl r, σ')) : CtT G l yX10_planLength cX10_planLength 3 (some .int) 8 [.ref (gz G + (v0)), .int (v1)] σ r σ' := by
  refine met_t (by decide +kernel) (Nat.le_of_ble_eq_true rfl) (by decide) ?_
  intro p e s m args below meth c Q ls X hW hthr hpr hl
  have hx := X.1.1
  have hb := X.1.2.1
  have hl : lv_has ls 3 [(0, .ref (gz G + (v0))), (1, .int (v1))] := hl
  have h := hf
  clear hf
  unfold pf_X10_planLength at h
  refine lv_aload_n hx hb dX10_planLength_0 rfl (lv_at hl 0 rfl) ?_
  refine lv_iload_n hx hb dX10_planLength_1 rfl (lv_at hl 1 rfl) ?_
  rcases bndX0W_t h with ⟨hcl, rfl⟩ | ⟨r_1, hcl, h⟩
  · exact tcall_V X hW (kC_X10 h0) m_3_113 m_3_115 m_0_15 mv_X10_questAt (x_X10_questAt h0 hcl) (by decide) rfl rfl (Nat.le_of_ble_eq_true rfl) hl.1 dX10_planLength_2 hpr
  refine call_V1 X hW (kC_X10 h0) m_3_113 m_3_115 m_0_15 mv_X10_questAt (c_X10_questAt h0 hcl) (by decide) rfl rfl (Nat.le_of_ble_eq_true rfl) hl.1 dX10_planLength_2 ?_
  clear hW hcl; intro H locs hW
  obtain ⟨hk2, h⟩ := ckK_el h
  refine lv_astore_n (lv' := [(2, .ref (gz G + (r_1))), (0, .ref (gz G + (v0))), (1, .int (v1))]) hx hb dX10_planLength_5 rfl hl (by decide) rfl ?_
  clear hl; intro ls hl
  refine lv_aload_n hx hb dX10_planLength_6 rfl (lv_at hl 1 rfl) ?_
  refine gf_X10_ways X hW h0 m_2_68 dX10_planLength_7 ?_
  refine lv_aload_n hx hb dX10_planLength_10 rfl (lv_at hl 0 rfl) ?_
  refine lv_aload_n hx hb dX10_planLength_11 rfl (lv_at hl 1 rfl) ?_
  refine gf_X10_now X hW h0 m_2_64 dX10_planLength_12 ?_
  refine gf_X2_stock X hW (kf_X10_now h0) m_1_136 dX10_planLength_15 ?_
  obtain ⟨r_3, σ_3, hcl, h⟩ := bnd2_el h
  refine call_V1 X hW (kC_X7 (kf_X10_ways h0)) m_2_124 m_2_125 m_2_126 mv_X7_explore (c_X7_explore (kf_X10_ways h0) hk2 (kf_X2_stock (kf_X10_now h0)) hcl) (by decide) rfl rfl (Nat.le_of_ble_eq_true rfl) hl.1 dX10_planLength_18 ?_
  clear hW hcl; intro H locs hW
  refine lv_pop hx hb dX10_planLength_21 rfl ?_
  refine lv_aload_n hx hb dX10_planLength_22 rfl (lv_at hl 1 rfl) ?_
  refine gf_X10_ways X hW h0 m_2_68 dX10_planLength_23 ?_
  refine lv_aload_n hx hb dX10_planLength_26 rfl (lv_at hl 0 rfl) ?_
  obtain ⟨r_4, hcl, h⟩ := bind_el h
  refine call_V1 X hW (kC_X7 (kf_X10_ways h0)) m_2_174 m_2_175 m_2_176 mv_X7_lengthOfPlan (c_X7_lengthOfPlan (kf_X10_ways h0) hk2 hcl) (by decide) rfl rfl (Nat.le_of_ble_eq_true rfl) hl.1 dX10_planLength_27 ?_
  clear hW hcl; intro H locs hW
  cases h
set_option maxRecDepth 20000 in
set_option maxHeartbeats 4000000 in
theorem bl_X10_planStep_b38 (X : Cx G p R s m args c cells slots cX10_planStep 4 RX10 8) {r : Int32} {σ' : St} (hret : R_I G p l e R s m args below meth c cells slots Q cX10_planStep r σ') :
    ∀ (σ : St) (_ : pf_X10_planStep_b38 σ = some (.inr r, σ')) (H : Heap) (locs : List Loc) (ls : Array Slot) (_ : GW G σ s H locs) (_ : lv_has ls 4 []), W p l e R s m args below meth c H locs cells slots Q (F0 m 38 ls []) := by
  have hx := X.1.1
  have hb := X.1.2.1
  intro σ h H locs ls hW hl
  unfold pf_X10_planStep_b38 at h
  cases h
set_option maxRecDepth 20000 in
set_option maxHeartbeats 4000000 in
theorem c_X10_planStep {G : Gt} {l : Launch} {v0 : Nat} (h0 : kd v0 = 9) {v1 : Int32} {v2 : Int32} {σ : St} {r : Int32} {σ' : St} (hf : pf_X10_planStep v0 v1 v2 σ = some (.inr r, σ')) : Ct G l yX10_planStep cX10_planStep 4 (some .int) 8 [.ref (gz G + (v0)), .int (v1), .int (v2)] σ (some (.int r)) σ' := by
  refine met_i (by decide +kernel) (Nat.le_of_ble_eq_true rfl) rfl ?_
  intro p e s m args below meth c Q ls X hW hret hl
  have hx := X.1.1
  have hb := X.1.2.1
  have hl : lv_has ls 4 [(0, .ref (gz G + (v0))), (1, .int (v1)), (2, .int (v2))] := hl
  have h := hf
  clear hf
  unfold pf_X10_planStep at h
  refine lv_aload_n hx hb dX10_planStep_0 rfl (lv_at hl 0 rfl) ?_
  refine lv_iload_n hx hb dX10_planStep_1 rfl (lv_at hl 1 rfl) ?_
  obtain ⟨r_1, hcl, h⟩ := bndX0W_n h
  refine call_V1 X hW (kC_X10 h0) m_3_113 m_3_115 m_0_15 mv_X10_questAt (c_X10_questAt h0 hcl) (by decide) rfl rfl (Nat.le_of_ble_eq_true rfl) hl.1 dX10_planStep_2 ?_
  clear hW hcl; intro H locs hW
  obtain ⟨hk2, h⟩ := ckK_el h
  refine lv_astore_n (lv' := [(3, .ref (gz G + (r_1))), (0, .ref (gz G + (v0))), (1, .int (v1)), (2, .int (v2))]) hx hb dX10_planStep_5 rfl hl (by decide) rfl ?_
  clear hl; intro ls hl
  refine lv_aload_n hx hb dX10_planStep_6 rfl (lv_at hl 1 rfl) ?_
  refine gf_X10_ways X hW h0 m_2_68 dX10_planStep_7 ?_
  refine lv_aload_n hx hb dX10_planStep_10 rfl (lv_at hl 0 rfl) ?_
  refine lv_aload_n hx hb dX10_planStep_11 rfl (lv_at hl 1 rfl) ?_
  refine gf_X10_now X hW h0 m_2_64 dX10_planStep_12 ?_
  refine gf_X2_stock X hW (kf_X10_now h0) m_1_136 dX10_planStep_15 ?_
  obtain ⟨r_3, σ_3, hcl, h⟩ := bnd2_el h
  refine call_V1 X hW (kC_X7 (kf_X10_ways h0)) m_2_124 m_2_125 m_2_126 mv_X7_explore (c_X7_explore (kf_X10_ways h0) hk2 (kf_X2_stock (kf_X10_now h0)) hcl) (by decide) rfl rfl (Nat.le_of_ble_eq_true rfl) hl.1 dX10_planStep_18 ?_
  clear hW hcl; intro H locs hW
  refine lv_pop hx hb dX10_planStep_21 rfl ?_
  refine lv_iload_n hx hb dX10_planStep_22 rfl (lv_at hl 3 rfl) ?_
  refine lv_if_lt (tgt := 38) hx hb dX10_planStep_23 (by decide) (fun hc => ?_) (fun hc => ?_)
  · replace h := if_t hc h
    exact bl_X10_planStep_b38 X hret σ_3 h _ _ _ hW (lv_sub hl [] rfl)
  · replace h := if_f hc h
    refine lv_iload_n hx hb dX10_planStep_26 rfl (lv_at hl 3 rfl) ?_
    refine lv_aload_n hx hb dX10_planStep_27 rfl (lv_at hl 1 rfl) ?_
    refine gf_X10_ways X hW h0 m_2_68 dX10_planStep_28 ?_
    refine lv_aload_n hx hb dX10_planStep_31 rfl (lv_at hl 0 rfl) ?_
    obtain ⟨r_4, hcl, h⟩ := bind_el h
    refine call_V1 X hW (kC_X7 (kf_X10_ways h0)) m_2_174 m_2_175 m_2_176 mv_X7_lengthOfPlan (c_X7_lengthOfPlan (kf_X10_ways h0) hk2 hcl) (by decide) rfl rfl (Nat.le_of_ble_eq_true rfl) hl.1 dX10_planStep_32 ?_
    clear hW hcl; intro H locs hW
    refine lv_icmp_lt (tgt := 46) hx hb dX10_planStep_35 (by decide) (fun hc => ?_) (fun hc => ?_)
    · replace h := if_t hc h
      refine lv_aload_n hx hb dX10_planStep_46 rfl (lv_at hl 1 rfl) ?_
      refine gf_X10_ways X hW h0 m_2_68 dX10_planStep_47 ?_
      refine lv_aload_n hx hb dX10_planStep_50 rfl (lv_at hl 1 rfl) ?_
      refine gf_X10_ways X hW h0 m_2_68 dX10_planStep_51 ?_
      refine lv_aload_n hx hb dX10_planStep_54 rfl (lv_at hl 0 rfl) ?_
      refine lv_iload_n hx hb dX10_planStep_55 rfl (lv_at hl 3 rfl) ?_
      obtain ⟨r_5, hcl, h⟩ := bind_el h
      refine call_V1 X hW (kC_X7 (kf_X10_ways h0)) m_5_82 m_2_212 m_2_213 mv_X7_setBehindPlan (c_X7_setBehindPlan (kf_X10_ways h0) hk2 hcl) (by decide) rfl rfl (Nat.le_of_ble_eq_true rfl) hl.1 dX10_planStep_56 ?_
      clear hW hcl; intro H locs hW
      obtain ⟨r_6, hcl, h⟩ := bind_el h
      refine call_V1 X hW (kC_X7 (kf_X10_ways h0)) m_2_178 m_2_179 m_2_180 mv_X7_nextOfPlan (c_X7_nextOfPlan (kf_X10_ways h0) hcl) (by decide) rfl rfl (Nat.le_of_ble_eq_true rfl) hl.1 dX10_planStep_59 ?_
      clear hW hcl; intro H locs hW
      replace h := xr_el h
      exact ri_end hret h dX10_planStep_62 hW
    · replace h := if_f hc h
      exact bl_X10_planStep_b38 X hret σ_3 h _ _ _ hW (lv_sub hl [] rfl)
set_option maxRecDepth 20000 in
set_option maxHeartbeats 4000000 in
theorem xl_X10_planStep_b38 (X : Cx G p R s m args c cells slots cX10_planStep 4 RX10 8) {r : Nat} {σ' : St} (hthr : R_X G p l e R s m args below meth c cells slots Q cX10_planStep 4 RX10 r σ') (hpr : R_P G p l e R s m args below meth c cells slots Q r σ') :
    ∀ (σ : St) (_ : pf_X10_planStep_b38 σ = some (.inl r, σ')) (H : Heap) (locs : List Loc) (ls : Array Slot) (_ : GW G σ s H locs) (_ : lv_has ls 4 []), W p l e R s m args below meth c H locs cells slots Q (F0 m 38 ls []) := by
  have hx := X.1.1
  have hb := X.1.2.1
  intro σ h H locs ls hW hl
  unfold pf_X10_planStep_b38 at h
  exact thr_end hthr h dX10_planStep_38 dX10_planStep_41 dX10_planStep_42 dX10_planStep_45 exw_4_195 hW (Nat.le_of_ble_eq_true rfl) hl.1
set_option maxRecDepth 20000 in
set_option maxHeartbeats 4000000 in
theorem x_X10_planStep {G : Gt} {l : Launch} {v0 : Nat} (h0 : kd v0 = 9) {v1 : Int32} {v2 : Int32} {σ : St} {r : Nat} {σ' : St} (hf : pf_X10_planStep v0 v1 v2 σ = some (.inl r, σ')) : CtT G l yX10_planStep cX10_planStep 4 (some .int) 8 [.ref (gz G + (v0)), .int (v1), .int (v2)] σ r σ' := by
  refine met_t (by decide +kernel) (Nat.le_of_ble_eq_true rfl) (by decide) ?_
  intro p e s m args below meth c Q ls X hW hthr hpr hl
  have hx := X.1.1
  have hb := X.1.2.1
  have hl : lv_has ls 4 [(0, .ref (gz G + (v0))), (1, .int (v1)), (2, .int (v2))] := hl
  have h := hf
  clear hf
  unfold pf_X10_planStep at h
  refine lv_aload_n hx hb dX10_planStep_0 rfl (lv_at hl 0 rfl) ?_
  refine lv_iload_n hx hb dX10_planStep_1 rfl (lv_at hl 1 rfl) ?_
  rcases bndX0W_t h with ⟨hcl, rfl⟩ | ⟨r_1, hcl, h⟩
  · exact tcall_V X hW (kC_X10 h0) m_3_113 m_3_115 m_0_15 mv_X10_questAt (x_X10_questAt h0 hcl) (by decide) rfl rfl (Nat.le_of_ble_eq_true rfl) hl.1 dX10_planStep_2 hpr
  refine call_V1 X hW (kC_X10 h0) m_3_113 m_3_115 m_0_15 mv_X10_questAt (c_X10_questAt h0 hcl) (by decide) rfl rfl (Nat.le_of_ble_eq_true rfl) hl.1 dX10_planStep_2 ?_
  clear hW hcl; intro H locs hW
  obtain ⟨hk2, h⟩ := ckK_el h
  refine lv_astore_n (lv' := [(3, .ref (gz G + (r_1))), (0, .ref (gz G + (v0))), (1, .int (v1)), (2, .int (v2))]) hx hb dX10_planStep_5 rfl hl (by decide) rfl ?_
  clear hl; intro ls hl
  refine lv_aload_n hx hb dX10_planStep_6 rfl (lv_at hl 1 rfl) ?_
  refine gf_X10_ways X hW h0 m_2_68 dX10_planStep_7 ?_
  refine lv_aload_n hx hb dX10_planStep_10 rfl (lv_at hl 0 rfl) ?_
  refine lv_aload_n hx hb dX10_planStep_11 rfl (lv_at hl 1 rfl) ?_
  refine gf_X10_now X hW h0 m_2_64 dX10_planStep_12 ?_
  refine gf_X2_stock X hW (kf_X10_now h0) m_1_136 dX10_planStep_15 ?_
  obtain ⟨r_3, σ_3, hcl, h⟩ := bnd2_el h
  refine call_V1 X hW (kC_X7 (kf_X10_ways h0)) m_2_124 m_2_125 m_2_126 mv_X7_explore (c_X7_explore (kf_X10_ways h0) hk2 (kf_X2_stock (kf_X10_now h0)) hcl) (by decide) rfl rfl (Nat.le_of_ble_eq_true rfl) hl.1 dX10_planStep_18 ?_
  clear hW hcl; intro H locs hW
  refine lv_pop hx hb dX10_planStep_21 rfl ?_
  refine lv_iload_n hx hb dX10_planStep_22 rfl (lv_at hl 3 rfl) ?_
  refine lv_if_lt (tgt := 38) hx hb dX10_planStep_23 (by decide) (fun hc => ?_) (fun hc => ?_)
  · replace h := if_t hc h
    exact xl_X10_planStep_b38 X hthr hpr σ_3 h _ _ _ hW (lv_sub hl [] rfl)
  · replace h := if_f hc h
    refine lv_iload_n hx hb dX10_planStep_26 rfl (lv_at hl 3 rfl) ?_
    refine lv_aload_n hx hb dX10_planStep_27 rfl (lv_at hl 1 rfl) ?_
    refine gf_X10_ways X hW h0 m_2_68 dX10_planStep_28 ?_
    refine lv_aload_n hx hb dX10_planStep_31 rfl (lv_at hl 0 rfl) ?_
    obtain ⟨r_4, hcl, h⟩ := bind_el h
    refine call_V1 X hW (kC_X7 (kf_X10_ways h0)) m_2_174 m_2_175 m_2_176 mv_X7_lengthOfPlan (c_X7_lengthOfPlan (kf_X10_ways h0) hk2 hcl) (by decide) rfl rfl (Nat.le_of_ble_eq_true rfl) hl.1 dX10_planStep_32 ?_
    clear hW hcl; intro H locs hW
    refine lv_icmp_lt (tgt := 46) hx hb dX10_planStep_35 (by decide) (fun hc => ?_) (fun hc => ?_)
    · replace h := if_t hc h
      refine lv_aload_n hx hb dX10_planStep_46 rfl (lv_at hl 1 rfl) ?_
      refine gf_X10_ways X hW h0 m_2_68 dX10_planStep_47 ?_
      refine lv_aload_n hx hb dX10_planStep_50 rfl (lv_at hl 1 rfl) ?_
      refine gf_X10_ways X hW h0 m_2_68 dX10_planStep_51 ?_
      refine lv_aload_n hx hb dX10_planStep_54 rfl (lv_at hl 0 rfl) ?_
      refine lv_iload_n hx hb dX10_planStep_55 rfl (lv_at hl 3 rfl) ?_
      obtain ⟨r_5, hcl, h⟩ := bind_el h
      refine call_V1 X hW (kC_X7 (kf_X10_ways h0)) m_5_82 m_2_212 m_2_213 mv_X7_setBehindPlan (c_X7_setBehindPlan (kf_X10_ways h0) hk2 hcl) (by decide) rfl rfl (Nat.le_of_ble_eq_true rfl) hl.1 dX10_planStep_56 ?_
      clear hW hcl; intro H locs hW
      obtain ⟨r_6, hcl, h⟩ := bind_el h
      refine call_V1 X hW (kC_X7 (kf_X10_ways h0)) m_2_178 m_2_179 m_2_180 mv_X7_nextOfPlan (c_X7_nextOfPlan (kf_X10_ways h0) hcl) (by decide) rfl rfl (Nat.le_of_ble_eq_true rfl) hl.1 dX10_planStep_59 ?_
      clear hW hcl; intro H locs hW
      cases h
    · replace h := if_f hc h
      exact xl_X10_planStep_b38 X hthr hpr σ_3 h _ _ _ hW (lv_sub hl [] rfl)
set_option maxRecDepth 20000 in
set_option maxHeartbeats 4000000 in
theorem c_X10_safest {G : Gt} {l : Launch} {v0 : Nat} (h0 : kd v0 = 9) {v1 : Int32} {σ : St} {r : Int32} {σ' : St} (hf : pf_X10_safest v0 v1 σ = some (.inr r, σ')) : Ct G l yX10_safest cX10_safest 3 (some .int) 8 [.ref (gz G + (v0)), .int (v1)] σ (some (.int r)) σ' := by
  refine met_i (by decide +kernel) (Nat.le_of_ble_eq_true rfl) rfl ?_
  intro p e s m args below meth c Q ls X hW hret hl
  have hx := X.1.1
  have hb := X.1.2.1
  have hl : lv_has ls 3 [(0, .ref (gz G + (v0))), (1, .int (v1))] := hl
  have h := hf
  clear hf
  unfold pf_X10_safest at h
  refine lv_aload_n hx hb dX10_safest_0 rfl (lv_at hl 0 rfl) ?_
  refine lv_iload_n hx hb dX10_safest_1 rfl (lv_at hl 1 rfl) ?_
  obtain ⟨r_1, hcl, h⟩ := bndX0W_n h
  refine call_V1 X hW (kC_X10 h0) m_3_113 m_3_115 m_0_15 mv_X10_questAt (c_X10_questAt h0 hcl) (by decide) rfl rfl (Nat.le_of_ble_eq_true rfl) hl.1 dX10_safest_2 ?_
  clear hW hcl; intro H locs hW
  obtain ⟨hk2, h⟩ := ckK_el h
  refine lv_astore_n (lv' := [(2, .ref (gz G + (r_1))), (0, .ref (gz G + (v0))), (1, .int (v1))]) hx hb dX10_safest_5 rfl hl (by decide) rfl ?_
  clear hl; intro ls hl
  refine lv_aload_n hx hb dX10_safest_6 rfl (lv_at hl 1 rfl) ?_
  refine gf_X10_ways X hW h0 m_2_68 dX10_safest_7 ?_
  refine lv_aload_n hx hb dX10_safest_10 rfl (lv_at hl 0 rfl) ?_
  refine lv_aload_n hx hb dX10_safest_11 rfl (lv_at hl 1 rfl) ?_
  refine gf_X10_now X hW h0 m_2_64 dX10_safest_12 ?_
  refine gf_X2_stock X hW (kf_X10_now h0) m_1_136 dX10_safest_15 ?_
  obtain ⟨r_3, σ_3, hcl, h⟩ := bnd2_el h
  refine call_V1 X hW (kC_X7 (kf_X10_ways h0)) m_2_124 m_2_125 m_2_126 mv_X7_explore (c_X7_explore (kf_X10_ways h0) hk2 (kf_X2_stock (kf_X10_now h0)) hcl) (by decide) rfl rfl (Nat.le_of_ble_eq_true rfl) hl.1 dX10_safest_18 ?_
  clear hW hcl; intro H locs hW
  refine lv_pop hx hb dX10_safest_21 rfl ?_
  refine lv_aload_n hx hb dX10_safest_22 rfl (lv_at hl 1 rfl) ?_
  refine gf_X10_ways X hW h0 m_2_68 dX10_safest_23 ?_
  refine lv_aload_n hx hb dX10_safest_26 rfl (lv_at hl 0 rfl) ?_
  obtain ⟨r_4, hcl, h⟩ := bind_el h
  refine call_V1 X hW (kC_X7 (kf_X10_ways h0)) m_5_90 m_5_91 m_5_92 mv_X7_smallestRisk (c_X7_smallestRisk (kf_X10_ways h0) hk2 hcl) (by decide) rfl rfl (Nat.le_of_ble_eq_true rfl) hl.1 dX10_safest_27 ?_
  clear hW hcl; intro H locs hW
  replace h := xr_el h
  exact ri_end hret h dX10_safest_30 hW
set_option maxRecDepth 20000 in
set_option maxHeartbeats 4000000 in
theorem x_X10_safest {G : Gt} {l : Launch} {v0 : Nat} (h0 : kd v0 = 9) {v1 : Int32} {σ : St} {r : Nat} {σ' : St} (hf : pf_X10_safest v0 v1 σ = some (.inl r, σ')) : CtT G l yX10_safest cX10_safest 3 (some .int) 8 [.ref (gz G + (v0)), .int (v1)] σ r σ' := by
  refine met_t (by decide +kernel) (Nat.le_of_ble_eq_true rfl) (by decide) ?_
  intro p e s m args below meth c Q ls X hW hthr hpr hl
  have hx := X.1.1
  have hb := X.1.2.1
  have hl : lv_has ls 3 [(0, .ref (gz G + (v0))), (1, .int (v1))] := hl
  have h := hf
  clear hf
  unfold pf_X10_safest at h
  refine lv_aload_n hx hb dX10_safest_0 rfl (lv_at hl 0 rfl) ?_
  refine lv_iload_n hx hb dX10_safest_1 rfl (lv_at hl 1 rfl) ?_
  rcases bndX0W_t h with ⟨hcl, rfl⟩ | ⟨r_1, hcl, h⟩
  · exact tcall_V X hW (kC_X10 h0) m_3_113 m_3_115 m_0_15 mv_X10_questAt (x_X10_questAt h0 hcl) (by decide) rfl rfl (Nat.le_of_ble_eq_true rfl) hl.1 dX10_safest_2 hpr
  refine call_V1 X hW (kC_X10 h0) m_3_113 m_3_115 m_0_15 mv_X10_questAt (c_X10_questAt h0 hcl) (by decide) rfl rfl (Nat.le_of_ble_eq_true rfl) hl.1 dX10_safest_2 ?_
  clear hW hcl; intro H locs hW
  obtain ⟨hk2, h⟩ := ckK_el h
  refine lv_astore_n (lv' := [(2, .ref (gz G + (r_1))), (0, .ref (gz G + (v0))), (1, .int (v1))]) hx hb dX10_safest_5 rfl hl (by decide) rfl ?_
  clear hl; intro ls hl
  refine lv_aload_n hx hb dX10_safest_6 rfl (lv_at hl 1 rfl) ?_
  refine gf_X10_ways X hW h0 m_2_68 dX10_safest_7 ?_
  refine lv_aload_n hx hb dX10_safest_10 rfl (lv_at hl 0 rfl) ?_
  refine lv_aload_n hx hb dX10_safest_11 rfl (lv_at hl 1 rfl) ?_
  refine gf_X10_now X hW h0 m_2_64 dX10_safest_12 ?_
  refine gf_X2_stock X hW (kf_X10_now h0) m_1_136 dX10_safest_15 ?_
  obtain ⟨r_3, σ_3, hcl, h⟩ := bnd2_el h
  refine call_V1 X hW (kC_X7 (kf_X10_ways h0)) m_2_124 m_2_125 m_2_126 mv_X7_explore (c_X7_explore (kf_X10_ways h0) hk2 (kf_X2_stock (kf_X10_now h0)) hcl) (by decide) rfl rfl (Nat.le_of_ble_eq_true rfl) hl.1 dX10_safest_18 ?_
  clear hW hcl; intro H locs hW
  refine lv_pop hx hb dX10_safest_21 rfl ?_
  refine lv_aload_n hx hb dX10_safest_22 rfl (lv_at hl 1 rfl) ?_
  refine gf_X10_ways X hW h0 m_2_68 dX10_safest_23 ?_
  refine lv_aload_n hx hb dX10_safest_26 rfl (lv_at hl 0 rfl) ?_
  obtain ⟨r_4, hcl, h⟩ := bind_el h
  refine call_V1 X hW (kC_X7 (kf_X10_ways h0)) m_5_90 m_5_91 m_5_92 mv_X7_smallestRisk (c_X7_smallestRisk (kf_X10_ways h0) hk2 hcl) (by decide) rfl rfl (Nat.le_of_ble_eq_true rfl) hl.1 dX10_safest_27 ?_
  clear hW hcl; intro H locs hW
  cases h
set_option maxRecDepth 20000 in
set_option maxHeartbeats 4000000 in
theorem c_X10_endings {G : Gt} {l : Launch} {v0 : Nat} (h0 : kd v0 = 9) {v1 : Int32} {σ : St} {r : Int32} {σ' : St} (hf : pf_X10_endings v0 v1 σ = some (.inr r, σ')) : Ct G l yX10_endings cX10_endings 3 (some .int) 8 [.ref (gz G + (v0)), .int (v1)] σ (some (.int r)) σ' := by
  refine met_i (by decide +kernel) (Nat.le_of_ble_eq_true rfl) rfl ?_
  intro p e s m args below meth c Q ls X hW hret hl
  have hx := X.1.1
  have hb := X.1.2.1
  have hl : lv_has ls 3 [(0, .ref (gz G + (v0))), (1, .int (v1))] := hl
  have h := hf
  clear hf
  unfold pf_X10_endings at h
  refine lv_aload_n hx hb dX10_endings_0 rfl (lv_at hl 0 rfl) ?_
  refine lv_iload_n hx hb dX10_endings_1 rfl (lv_at hl 1 rfl) ?_
  obtain ⟨r_1, hcl, h⟩ := bndX0W_n h
  refine call_V1 X hW (kC_X10 h0) m_3_113 m_3_115 m_0_15 mv_X10_questAt (c_X10_questAt h0 hcl) (by decide) rfl rfl (Nat.le_of_ble_eq_true rfl) hl.1 dX10_endings_2 ?_
  clear hW hcl; intro H locs hW
  obtain ⟨hk2, h⟩ := ckK_el h
  refine lv_astore_n (lv' := [(2, .ref (gz G + (r_1))), (0, .ref (gz G + (v0))), (1, .int (v1))]) hx hb dX10_endings_5 rfl hl (by decide) rfl ?_
  clear hl; intro ls hl
  refine lv_aload_n hx hb dX10_endings_6 rfl (lv_at hl 1 rfl) ?_
  refine gf_X10_ways X hW h0 m_2_68 dX10_endings_7 ?_
  refine lv_aload_n hx hb dX10_endings_10 rfl (lv_at hl 0 rfl) ?_
  refine lv_aload_n hx hb dX10_endings_11 rfl (lv_at hl 1 rfl) ?_
  refine gf_X10_now X hW h0 m_2_64 dX10_endings_12 ?_
  refine gf_X2_stock X hW (kf_X10_now h0) m_1_136 dX10_endings_15 ?_
  obtain ⟨r_3, σ_3, hcl, h⟩ := bnd2_el h
  refine call_V1 X hW (kC_X7 (kf_X10_ways h0)) m_2_124 m_2_125 m_2_126 mv_X7_explore (c_X7_explore (kf_X10_ways h0) hk2 (kf_X2_stock (kf_X10_now h0)) hcl) (by decide) rfl rfl (Nat.le_of_ble_eq_true rfl) hl.1 dX10_endings_18 ?_
  clear hW hcl; intro H locs hW
  refine lv_pop hx hb dX10_endings_21 rfl ?_
  refine lv_aload_n hx hb dX10_endings_22 rfl (lv_at hl 1 rfl) ?_
  refine gf_X10_ways X hW h0 m_2_68 dX10_endings_23 ?_
  refine lv_aload_n hx hb dX10_endings_26 rfl (lv_at hl 0 rfl) ?_
  obtain ⟨r_4, hcl, h⟩ := bind_el h
  refine call_V1 X hW (kC_X7 (kf_X10_ways h0)) m_5_101 m_5_102 m_5_103 mv_X7_countEndings (c_X7_countEndings (kf_X10_ways h0) hk2 hcl) (by decide) rfl rfl (Nat.le_of_ble_eq_true rfl) hl.1 dX10_endings_27 ?_
  clear hW hcl; intro H locs hW
  replace h := xr_el h
  exact ri_end hret h dX10_endings_30 hW
set_option maxRecDepth 20000 in
set_option maxHeartbeats 4000000 in
theorem x_X10_endings {G : Gt} {l : Launch} {v0 : Nat} (h0 : kd v0 = 9) {v1 : Int32} {σ : St} {r : Nat} {σ' : St} (hf : pf_X10_endings v0 v1 σ = some (.inl r, σ')) : CtT G l yX10_endings cX10_endings 3 (some .int) 8 [.ref (gz G + (v0)), .int (v1)] σ r σ' := by
  refine met_t (by decide +kernel) (Nat.le_of_ble_eq_true rfl) (by decide) ?_
  intro p e s m args below meth c Q ls X hW hthr hpr hl
  have hx := X.1.1
  have hb := X.1.2.1
  have hl : lv_has ls 3 [(0, .ref (gz G + (v0))), (1, .int (v1))] := hl
  have h := hf
  clear hf
  unfold pf_X10_endings at h
  refine lv_aload_n hx hb dX10_endings_0 rfl (lv_at hl 0 rfl) ?_
  refine lv_iload_n hx hb dX10_endings_1 rfl (lv_at hl 1 rfl) ?_
  rcases bndX0W_t h with ⟨hcl, rfl⟩ | ⟨r_1, hcl, h⟩
  · exact tcall_V X hW (kC_X10 h0) m_3_113 m_3_115 m_0_15 mv_X10_questAt (x_X10_questAt h0 hcl) (by decide) rfl rfl (Nat.le_of_ble_eq_true rfl) hl.1 dX10_endings_2 hpr
  refine call_V1 X hW (kC_X10 h0) m_3_113 m_3_115 m_0_15 mv_X10_questAt (c_X10_questAt h0 hcl) (by decide) rfl rfl (Nat.le_of_ble_eq_true rfl) hl.1 dX10_endings_2 ?_
  clear hW hcl; intro H locs hW
  obtain ⟨hk2, h⟩ := ckK_el h
  refine lv_astore_n (lv' := [(2, .ref (gz G + (r_1))), (0, .ref (gz G + (v0))), (1, .int (v1))]) hx hb dX10_endings_5 rfl hl (by decide) rfl ?_
  clear hl; intro ls hl
  refine lv_aload_n hx hb dX10_endings_6 rfl (lv_at hl 1 rfl) ?_
  refine gf_X10_ways X hW h0 m_2_68 dX10_endings_7 ?_
  refine lv_aload_n hx hb dX10_endings_10 rfl (lv_at hl 0 rfl) ?_
  refine lv_aload_n hx hb dX10_endings_11 rfl (lv_at hl 1 rfl) ?_
  refine gf_X10_now X hW h0 m_2_64 dX10_endings_12 ?_
  refine gf_X2_stock X hW (kf_X10_now h0) m_1_136 dX10_endings_15 ?_
  obtain ⟨r_3, σ_3, hcl, h⟩ := bnd2_el h
  refine call_V1 X hW (kC_X7 (kf_X10_ways h0)) m_2_124 m_2_125 m_2_126 mv_X7_explore (c_X7_explore (kf_X10_ways h0) hk2 (kf_X2_stock (kf_X10_now h0)) hcl) (by decide) rfl rfl (Nat.le_of_ble_eq_true rfl) hl.1 dX10_endings_18 ?_
  clear hW hcl; intro H locs hW
  refine lv_pop hx hb dX10_endings_21 rfl ?_
  refine lv_aload_n hx hb dX10_endings_22 rfl (lv_at hl 1 rfl) ?_
  refine gf_X10_ways X hW h0 m_2_68 dX10_endings_23 ?_
  refine lv_aload_n hx hb dX10_endings_26 rfl (lv_at hl 0 rfl) ?_
  obtain ⟨r_4, hcl, h⟩ := bind_el h
  refine call_V1 X hW (kC_X7 (kf_X10_ways h0)) m_5_101 m_5_102 m_5_103 mv_X7_countEndings (c_X7_countEndings (kf_X10_ways h0) hk2 hcl) (by decide) rfl rfl (Nat.le_of_ble_eq_true rfl) hl.1 dX10_endings_27 ?_
  clear hW hcl; intro H locs hW
  cases h
set_option maxRecDepth 20000 in
set_option maxHeartbeats 4000000 in
theorem bl_X10_hasWayWithMore_b42 (X : Cx G p R s m args c cells slots cX10_hasWayWithMore 5 RX10 7) {r : Int32} {σ' : St} (hret : R_Z G p l e R s m args below meth c cells slots Q cX10_hasWayWithMore r σ') {k3 : Nat → Nat → Int32 → Int32 → Int32 → St → (Option (Int32 × St))}
    (hk3 : ∀ (v0 : Nat) (h0 : kd v0 = 9) (v1 : Nat) (h1 : kd v1 = 3) (v2 : Int32) (v3 : Int32) (v4 : Int32) (σ : St) (_ : k3 v0 v1 v2 v3 v4 σ = some (r, σ')) (H : Heap) (locs : List Loc) (ls : Array Slot) (_ : GW G σ s H locs) (_ : lv_has ls 5 [(0, .ref (gz G + (v0))), (1, .ref (gz G + (v1))), (2, .int (v2)), (3, .int (v3)), (4, .int (v4))]), W p l e R s m args below meth c H locs cells slots Q (F0 m 3 ls [])) :
    ∀ (v0 : Nat) (h0 : kd v0 = 9) (v1 : Nat) (h1 : kd v1 = 3) (v2 : Int32) (v3 : Int32) (v4 : Int32) (s0 : Nat) (hs0 : kd s0 = 11) (s1 : Int32) (s2 : Int32) (s3 : Int32) (σ : St) (_ : pf_X10_hasWayWithMore_b42 k3 v0 v1 v2 v3 v4 s0 s1 s2 s3 σ = some (r, σ')) (H : Heap) (locs : List Loc) (ls : Array Slot) (_ : GW G σ s H locs) (_ : lv_has ls 5 [(0, .ref (gz G + (v0))), (1, .ref (gz G + (v1))), (2, .int (v2)), (3, .int (v3)), (4, .int (v4))]), W p l e R s m args below meth c H locs cells slots Q (F0 m 42 ls [.int (s3), .int (s2), .int (s1), .ref (gz G + (s0))]) := by
  have hx := X.1.1
  have hb := X.1.2.1
  intro v0 h0 v1 h1 v2 v3 v4 s0 hs0 s1 s2 s3 σ h H locs ls hW hl
  unfold pf_X10_hasWayWithMore_b42 at h
  refine lv_iadd hx hb dX10_hasWayWithMore_42 ?_
  obtain ⟨σ_1, hcl, h⟩ := bind_el h
  refine call_S0 X hW m_2_97 m_2_98 mv_X10_put (c_X10_put hs0 hcl) (by decide) rfl rfl (Nat.le_of_ble_eq_true rfl) hl.1 dX10_hasWayWithMore_43 ?_
  clear hW hcl; intro H locs hW
  refine w_iinc (v := 1) (lv' := fun y => [(4, .int (y)), (0, .ref (gz G + (v0))), (1, .ref (gz G + (v1))), (2, .int (v2)), (3, .int (v3))]) hx hb dX10_hasWayWithMore_46 hl (k := 4) rfl (by decide) (by decide) (fun _ => rfl) h ?_
  clear h hl; intro v4_2 h ls hl
  refine lv_goto (tgt := 3) hx hb dX10_hasWayWithMore_49 (by decide) ?_
  exact hk3 v0 h0 v1 h1 v2 v3 v4_2 σ_1 h _ _ _ hW (lv_sub hl [1, 2, 3, 4, 0] rfl)
set_option maxRecDepth 20000 in
set_option maxHeartbeats 4000000 in
theorem bl_X10_hasWayWithMore_b52 (X : Cx G p R s m args c cells slots cX10_hasWayWithMore 5 RX10 7) {r : Int32} {σ' : St} (hret : R_Z G p l e R s m args below meth c cells slots Q cX10_hasWayWithMore r σ') :
    ∀ (v0 : Nat) (h0 : kd v0 = 9) (v1 : Nat) (h1 : kd v1 = 3) (σ : St) (_ : pf_X10_hasWayWithMore_b52 v0 v1 σ = some (r, σ')) (H : Heap) (locs : List Loc) (ls : Array Slot) (_ : GW G σ s H locs) (_ : lv_has ls 5 [(0, .ref (gz G + (v0))), (1, .ref (gz G + (v1)))]), W p l e R s m args below meth c H locs cells slots Q (F0 m 52 ls []) := by
  have hx := X.1.1
  have hb := X.1.2.1
  intro v0 h0 v1 h1 σ h H locs ls hW hl
  unfold pf_X10_hasWayWithMore_b52 at h
  refine lv_aload_n hx hb dX10_hasWayWithMore_52 rfl (lv_at hl 0 rfl) ?_
  refine gf_X10_ways X hW h0 m_2_68 dX10_hasWayWithMore_53 ?_
  refine lv_aload_n hx hb dX10_hasWayWithMore_56 rfl (lv_at hl 1 rfl) ?_
  refine lv_aload_n hx hb dX10_hasWayWithMore_57 rfl (lv_at hl 0 rfl) ?_
  refine gf_X10_draft X hW h0 m_2_65 dX10_hasWayWithMore_58 ?_
  refine gf_X2_stock X hW (kf_X10_draft h0) m_1_136 dX10_hasWayWithMore_61 ?_
  obtain ⟨r_1, σ_1, hcl, h⟩ := bnd2_el h
  refine call_V1 X hW (kC_X7 (kf_X10_ways h0)) m_2_124 m_2_125 m_2_126 mv_X7_explore (c_X7_explore (kf_X10_ways h0) h1 (kf_X2_stock (kf_X10_draft h0)) hcl) (by decide) rfl rfl (Nat.le_of_ble_eq_true rfl) hl.1 dX10_hasWayWithMore_64 ?_
  clear hW hcl; intro H locs hW
  obtain ⟨hz, h⟩ := ckZ_el h
  exact rz_end hret h hz dX10_hasWayWithMore_67 hW
set_option maxRecDepth 20000 in
set_option maxHeartbeats 4000000 in
theorem bl_X10_hasWayWithMore_L3 (X : Cx G p R s m args c cells slots cX10_hasWayWithMore 5 RX10 7) {r : Int32} {σ' : St} (hret : R_Z G p l e R s m args below meth c cells slots Q cX10_hasWayWithMore r σ') {k52 : Nat → Nat → St → (Option (Int32 × St))}
    (hk52 : ∀ (v0 : Nat) (h0 : kd v0 = 9) (v1 : Nat) (h1 : kd v1 = 3) (σ : St) (_ : k52 v0 v1 σ = some (r, σ')) (H : Heap) (locs : List Loc) (ls : Array Slot) (_ : GW G σ s H locs) (_ : lv_has ls 5 [(0, .ref (gz G + (v0))), (1, .ref (gz G + (v1)))]), W p l e R s m args below meth c H locs cells slots Q (F0 m 52 ls [])) :
    ∀ (n : Nat), ∀ (v0 : Nat) (h0 : kd v0 = 9) (v1 : Nat) (h1 : kd v1 = 3) (v2 : Int32) (v3 : Int32) (v4 : Int32) (σ : St) (_ : pf_X10_hasWayWithMore_L3 k52 n v0 v1 v2 v3 v4 σ = some (r, σ')) (H : Heap) (locs : List Loc) (ls : Array Slot) (_ : GW G σ s H locs) (_ : lv_has ls 5 [(0, .ref (gz G + (v0))), (1, .ref (gz G + (v1))), (2, .int (v2)), (3, .int (v3)), (4, .int (v4))]), W p l e R s m args below meth c H locs cells slots Q (F0 m 3 ls []) := by
  have hx := X.1.1
  have hb := X.1.2.1
  intro n
  induction n with
  | zero => intro v0 h0 v1 h1 v2 v3 v4 σ h H locs ls hW hl; cases h
  | succ n ih =>
    intro v0 h0 v1 h1 v2 v3 v4 σ h H locs ls hW hl
    rw [pf_X10_hasWayWithMore_L3.eq_2] at h
    refine lv_iload hx hb dX10_hasWayWithMore_3 (lv_at hl 4 rfl) ?_
    refine lv_bipush (v := 8) hx hb dX10_hasWayWithMore_5 (by decide) ?_
    refine lv_icmp_ge (tgt := 52) hx hb dX10_hasWayWithMore_7 (by decide) (fun hc => ?_) (fun hc => ?_)
    · replace h := if_t hc h
      exact hk52 v0 h0 v1 h1 σ h _ _ _ hW (lv_sub hl [0, 1] rfl)
    · replace h := if_f hc h
      refine lv_aload_n hx hb dX10_hasWayWithMore_10 rfl (lv_at hl 0 rfl) ?_
      refine gf_X10_draft X hW h0 m_2_65 dX10_hasWayWithMore_11 ?_
      refine gf_X2_stock X hW (kf_X10_draft h0) m_1_136 dX10_hasWayWithMore_14 ?_
      refine lv_iload hx hb dX10_hasWayWithMore_17 (lv_at hl 4 rfl) ?_
      refine lv_aload_n hx hb dX10_hasWayWithMore_19 rfl (lv_at hl 0 rfl) ?_
      refine gf_X10_now X hW h0 m_2_64 dX10_hasWayWithMore_20 ?_
      refine gf_X2_stock X hW (kf_X10_now h0) m_1_136 dX10_hasWayWithMore_23 ?_
      refine lv_iload hx hb dX10_hasWayWithMore_26 (lv_at hl 4 rfl) ?_
      obtain ⟨r_1, hcl, h⟩ := bind_el h
      refine call_S1 X hW m_3_104 m_2_132 mv_X10_at (c_X10_at (kf_X2_stock (kf_X10_now h0)) hcl) (by decide) rfl rfl (Nat.le_of_ble_eq_true rfl) hl.1 dX10_hasWayWithMore_28 ?_
      clear hW hcl; intro H locs hW
      refine lv_iload hx hb dX10_hasWayWithMore_31 (lv_at hl 4 rfl) ?_
      refine lv_iload_n hx hb dX10_hasWayWithMore_33 rfl (lv_at hl 2 rfl) ?_
      refine lv_icmp_ne (tgt := 41) hx hb dX10_hasWayWithMore_34 (by decide) (fun hc => ?_) (fun hc => ?_)
      · replace h := if_f hc h
        refine lv_iconst (v := 0) hx hb dX10_hasWayWithMore_41 (by decide) ?_
        exact bl_X10_hasWayWithMore_b42 X hret ih v0 h0 v1 h1 v2 v3 v4 (v0 + 61 + 1) (kf_X2_stock (kf_X10_draft h0)) v4 r_1 0 σ h _ _ _ hW (lv_sub hl [0, 1, 2, 3, 4] rfl)
      · replace h := if_t hc h
        refine lv_iload_n hx hb dX10_hasWayWithMore_37 rfl (lv_at hl 3 rfl) ?_
        refine lv_goto (tgt := 42) hx hb dX10_hasWayWithMore_38 (by decide) ?_
        exact bl_X10_hasWayWithMore_b42 X hret ih v0 h0 v1 h1 v2 v3 v4 (v0 + 61 + 1) (kf_X2_stock (kf_X10_draft h0)) v4 r_1 v3 σ h _ _ _ hW (lv_sub hl [0, 1, 2, 3, 4] rfl)
set_option maxRecDepth 20000 in
set_option maxHeartbeats 4000000 in
theorem c_X10_hasWayWithMore {G : Gt} {l : Launch} {v0 : Nat} (h0 : kd v0 = 9) {v1 : Nat} (h1 : kd v1 = 3) {v2 : Int32} {v3 : Int32} {σ : St} {r : Int32} {σ' : St} (hf : pf_X10_hasWayWithMore v0 v1 v2 v3 σ = some (r, σ')) : Ct G l yX10_hasWayWithMore cX10_hasWayWithMore 5 (some .boolean) 7 [.ref (gz G + (v0)), .ref (gz G + (v1)), .int (v2), .int (v3)] σ (some (.int r)) σ' := by
  refine met_z (by decide +kernel) (Nat.le_of_ble_eq_true rfl) rfl ?_
  intro p e s m args below meth c Q ls X hW hret hl
  have hx := X.1.1
  have hb := X.1.2.1
  have hl : lv_has ls 5 [(0, .ref (gz G + (v0))), (1, .ref (gz G + (v1))), (2, .int (v2)), (3, .int (v3))] := hl
  have h := hf
  clear hf
  unfold pf_X10_hasWayWithMore at h
  refine lv_iconst (v := 0) hx hb dX10_hasWayWithMore_0 (by decide) ?_
  refine lv_istore (lv' := [(4, .int (0)), (0, .ref (gz G + (v0))), (1, .ref (gz G + (v1))), (2, .int (v2)), (3, .int (v3))]) hx hb dX10_hasWayWithMore_1 hl (by decide) rfl ?_
  clear hl; intro ls hl
  exact bl_X10_hasWayWithMore_L3 X hret (bl_X10_hasWayWithMore_b52 X hret) FU v0 h0 v1 h1 v2 v3 0 σ h _ _ _ hW (lv_sub hl [1, 2, 3, 4, 0] rfl)
set_option maxRecDepth 20000 in
set_option maxHeartbeats 4000000 in
theorem bl_X10_lacking_b80 (X : Cx G p R s m args c cells slots cX10_lacking 8 RX10 8) {r : Int32} {σ' : St} (hret : R_I G p l e R s m args below meth c cells slots Q cX10_lacking r σ') {k33 : Nat → Int32 → Nat → Int32 → Int32 → Int32 → St → (Option ((Nat ⊕ (Int32)) × St))}
    (hk33 : ∀ (v0 : Nat) (h0 : kd v0 = 9) (v2 : Int32) (v3 : Nat) (h3 : kd v3 = 3) (v4 : Int32) (v5 : Int32) (v6 : Int32) (σ : St) (_ : k33 v0 v2 v3 v4 v5 v6 σ = some (.inr r, σ')) (H : Heap) (locs : List Loc) (ls : Array Slot) (_ : GW G σ s H locs) (_ : lv_has ls 8 [(0, .ref (gz G + (v0))), (2, .int (v2)), (3, .ref (gz G + (v3))), (4, .int (v4)), (5, .int (v5)), (6, .int (v6))]), W p l e R s m args below meth c H locs cells slots Q (F0 m 33 ls [])) :
    ∀ (v0 : Nat) (h0 : kd v0 = 9) (v2 : Int32) (v3 : Nat) (h3 : kd v3 = 3) (v4 : Int32) (v5 : Int32) (v6 : Int32) (σ : St) (_ : pf_X10_lacking_b80 k33 v0 v2 v3 v4 v5 v6 σ = some (.inr r, σ')) (H : Heap) (locs : List Loc) (ls : Array Slot) (_ : GW G σ s H locs) (_ : lv_has ls 8 [(0, .ref (gz G + (v0))), (2, .int (v2)), (3, .ref (gz G + (v3))), (4, .int (v4)), (5, .int (v5)), (6, .int (v6))]), W p l e R s m args below meth c H locs cells slots Q (F0 m 80 ls []) := by
  have hx := X.1.1
  have hb := X.1.2.1
  intro v0 h0 v2 v3 h3 v4 v5 v6 σ h H locs ls hW hl
  unfold pf_X10_lacking_b80 at h
  refine w_iinc (v := 1) (lv' := fun y => [(6, .int (y)), (0, .ref (gz G + (v0))), (2, .int (v2)), (3, .ref (gz G + (v3))), (4, .int (v4)), (5, .int (v5))]) hx hb dX10_lacking_80 hl (k := 5) rfl (by decide) (by decide) (fun _ => rfl) h ?_
  clear h hl; intro v6_1 h ls hl
  refine lv_goto (tgt := 33) hx hb dX10_lacking_83 (by decide) ?_
  exact hk33 v0 h0 v2 v3 h3 v4 v5 v6_1 σ h _ _ _ hW (lv_sub hl [1, 2, 3, 4, 5, 0] rfl)
set_option maxRecDepth 20000 in
set_option maxHeartbeats 4000000 in
theorem bl_X10_lacking_L33 (X : Cx G p R s m args c cells slots cX10_lacking 8 RX10 8) {r : Int32} {σ' : St} (hret : R_I G p l e R s m args below meth c cells slots Q cX10_lacking r σ') :
    ∀ (n : Nat), ∀ (v0 : Nat) (h0 : kd v0 = 9) (v2 : Int32) (v3 : Nat) (h3 : kd v3 = 3) (v4 : Int32) (v5 : Int32) (v6 : Int32) (σ : St) (_ : pf_X10_lacking_L33 n v0 v2 v3 v4 v5 v6 σ = some (.inr r, σ')) (H : Heap) (locs : List Loc) (ls : Array Slot) (_ : GW G σ s H locs) (_ : lv_has ls 8 [(0, .ref (gz G + (v0))), (2, .int (v2)), (3, .ref (gz G + (v3))), (4, .int (v4)), (5, .int (v5)), (6, .int (v6))]), W p l e R s m args below meth c H locs cells slots Q (F0 m 33 ls []) := by
  have hx := X.1.1
  have hb := X.1.2.1
  intro n
  induction n with
  | zero => intro v0 h0 v2 v3 h3 v4 v5 v6 σ h H locs ls hW hl; cases h
  | succ n ih =>
    intro v0 h0 v2 v3 h3 v4 v5 v6 σ h H locs ls hW hl
    rw [pf_X10_lacking_L33.eq_2] at h
    refine lv_iload hx hb dX10_lacking_33 (lv_at hl 5 rfl) ?_
    refine lv_bipush (v := 99) hx hb dX10_lacking_35 (by decide) ?_
    refine lv_icmp_ge (tgt := 86) hx hb dX10_lacking_37 (by decide) (fun hc => ?_) (fun hc => ?_)
    · replace h := if_t hc h
      refine lv_iload hx hb dX10_lacking_86 (lv_at hl 4 rfl) ?_
      replace h := xr_el h
      exact ri_end hret h dX10_lacking_88 hW
    · replace h := if_f hc h
      refine lv_iload hx hb dX10_lacking_40 (lv_at hl 3 rfl) ?_
      refine lv_iload hx hb dX10_lacking_42 (lv_at hl 4 rfl) ?_
      refine lv_icmp_ge (tgt := 86) hx hb dX10_lacking_44 (by decide) (fun hc => ?_) (fun hc => ?_)
      · replace h := if_t hc h
        refine lv_iload hx hb dX10_lacking_86 (lv_at hl 4 rfl) ?_
        replace h := xr_el h
        exact ri_end hret h dX10_lacking_88 hW
      · replace h := if_f hc h
        refine lv_iload hx hb dX10_lacking_47 (lv_at hl 3 rfl) ?_
        refine lv_iload hx hb dX10_lacking_49 (lv_at hl 4 rfl) ?_
        refine lv_iadd hx hb dX10_lacking_51 ?_
        refine lv_iconst (v := 2) hx hb dX10_lacking_52 (by decide) ?_
        refine lv_idiv hx hb dX10_lacking_53 (by decide) ?_
        refine nm_i h ?_
        clear h; intro v7_1 h
        refine lv_istore (lv' := [(7, .int (v7_1)), (0, .ref (gz G + (v0))), (2, .int (v2)), (3, .ref (gz G + (v3))), (4, .int (v4)), (5, .int (v5)), (6, .int (v6))]) hx hb dX10_lacking_54 hl (by decide) rfl ?_
        clear hl; intro ls hl
        refine lv_aload_n hx hb dX10_lacking_56 rfl (lv_at hl 1 rfl) ?_
        refine lv_aload_n hx hb dX10_lacking_57 rfl (lv_at hl 3 rfl) ?_
        refine lv_iload_n hx hb dX10_lacking_58 rfl (lv_at hl 2 rfl) ?_
        refine lv_iload hx hb dX10_lacking_59 (lv_at hl 0 rfl) ?_
        obtain ⟨r_2, σ_2, hcl, h⟩ := bnd2_el h
        refine call_V1 X hW (kC_X10 h0) m_5_118 m_5_120 m_0_36 mv_X10_hasWayWithMore (c_X10_hasWayWithMore h0 h3 hcl) (by decide) rfl rfl (Nat.le_of_ble_eq_true rfl) hl.1 dX10_lacking_61 ?_
        clear hW hcl; intro H locs hW
        refine lv_if_eq (tgt := 74) hx hb dX10_lacking_64 (by decide) (fun hc => ?_) (fun hc => ?_)
        · replace h := if_t hc h
          refine lv_iload hx hb dX10_lacking_74 (lv_at hl 0 rfl) ?_
          refine lv_iconst (v := 1) hx hb dX10_lacking_76 (by decide) ?_
          refine lv_iadd hx hb dX10_lacking_77 ?_
          refine nm_i h ?_
          clear h; intro v4_3 h
          refine lv_istore (lv' := [(4, .int (v4_3)), (7, .int (v7_1)), (0, .ref (gz G + (v0))), (2, .int (v2)), (3, .ref (gz G + (v3))), (5, .int (v5)), (6, .int (v6))]) hx hb dX10_lacking_78 hl (by decide) rfl ?_
          clear hl; intro ls hl
          exact bl_X10_lacking_b80 X hret ih v0 h0 v2 v3 h3 v4_3 v5 v6 σ_2 h _ _ _ hW (lv_sub hl [2, 3, 4, 0, 5, 6] rfl)
        · replace h := if_f hc h
          refine lv_iload hx hb dX10_lacking_67 (lv_at hl 0 rfl) ?_
          refine lv_istore (lv' := [(5, .int (v7_1)), (7, .int (v7_1)), (0, .ref (gz G + (v0))), (2, .int (v2)), (3, .ref (gz G + (v3))), (4, .int (v4)), (6, .int (v6))]) hx hb dX10_lacking_69 hl (by decide) rfl ?_
          clear hl; intro ls hl
          refine lv_goto (tgt := 80) hx hb dX10_lacking_71 (by decide) ?_
          exact bl_X10_lacking_b80 X hret ih v0 h0 v2 v3 h3 v4 v7_1 v6 σ_2 h _ _ _ hW (lv_sub hl [2, 3, 4, 5, 0, 6] rfl)
set_option maxRecDepth 20000 in
set_option maxHeartbeats 4000000 in
theorem c_X10_lacking {G : Gt} {l : Launch} {v0 : Nat} (h0 : kd v0 = 9) {v1 : Int32} {v2 : Int32} {σ : St} {r : Int32} {σ' : St} (hf : pf_X10_lacking v0 v1 v2 σ = some (.inr r, σ')) : Ct G l yX10_lacking cX10_lacking 8 (some .int) 8 [.ref (gz G + (v0)), .int (v1), .int (v2)] σ (some (.int r)) σ' := by
  refine met_i (by decide +kernel) (Nat.le_of_ble_eq_true rfl) rfl ?_
  intro p e s m args below meth c Q ls X hW hret hl
  have hx := X.1.1
  have hb := X.1.2.1
  have hl : lv_has ls 8 [(0, .ref (gz G + (v0))), (1, .int (v1)), (2, .int (v2))] := hl
  have h := hf
  clear hf
  unfold pf_X10_lacking at h
  refine lv_aload_n hx hb dX10_lacking_0 rfl (lv_at hl 0 rfl) ?_
  refine lv_iload_n hx hb dX10_lacking_1 rfl (lv_at hl 1 rfl) ?_
  obtain ⟨r_1, hcl, h⟩ := bndX0W_n h
  refine call_V1 X hW (kC_X10 h0) m_3_113 m_3_115 m_0_15 mv_X10_questAt (c_X10_questAt h0 hcl) (by decide) rfl rfl (Nat.le_of_ble_eq_true rfl) hl.1 dX10_lacking_2 ?_
  clear hW hcl; intro H locs hW
  obtain ⟨hk2, h⟩ := ckK_el h
  refine lv_astore_n (lv' := [(3, .ref (gz G + (r_1))), (0, .ref (gz G + (v0))), (1, .int (v1)), (2, .int (v2))]) hx hb dX10_lacking_5 rfl hl (by decide) rfl ?_
  clear hl; intro ls hl
  refine lv_iload_n hx hb dX10_lacking_6 rfl (lv_at hl 3 rfl) ?_
  obtain ⟨r_3, hcl, h⟩ := bndX0W_n h
  refine call_S0 X hW m_5_11 m_5_12 mv_X10_checkItem (c_X10_checkItem hcl) (by decide) rfl rfl (Nat.le_of_ble_eq_true rfl) hl.1 dX10_lacking_7 ?_
  clear hW hcl; intro H locs hW
  refine lv_aload_n hx hb dX10_lacking_10 rfl (lv_at hl 1 rfl) ?_
  refine lv_aload_n hx hb dX10_lacking_11 rfl (lv_at hl 0 rfl) ?_
  refine lv_iload_n hx hb dX10_lacking_12 rfl (lv_at hl 3 rfl) ?_
  refine lv_bipush (v := 99) hx hb dX10_lacking_13 (by decide) ?_
  obtain ⟨r_4, σ_4, hcl, h⟩ := bnd2_el h
  refine call_V1 X hW (kC_X10 h0) m_5_118 m_5_120 m_0_36 mv_X10_hasWayWithMore (c_X10_hasWayWithMore h0 hk2 hcl) (by decide) rfl rfl (Nat.le_of_ble_eq_true rfl) hl.1 dX10_lacking_15 ?_
  clear hW hcl; intro H locs hW
  refine lv_if_ne (tgt := 23) hx hb dX10_lacking_18 (by decide) (fun hc => ?_) (fun hc => ?_)
  · replace h := if_f hc h
    refine lv_iconst (v := 0) hx hb dX10_lacking_23 (by decide) ?_
    refine lv_istore (lv' := [(4, .int (0)), (3, .ref (gz G + (r_1))), (0, .ref (gz G + (v0))), (1, .int (v1)), (2, .int (v2))]) hx hb dX10_lacking_24 hl (by decide) rfl ?_
    clear hl; intro ls hl
    refine lv_bipush (v := 99) hx hb dX10_lacking_26 (by decide) ?_
    refine lv_istore (lv' := [(5, .int (99)), (4, .int (0)), (3, .ref (gz G + (r_1))), (0, .ref (gz G + (v0))), (1, .int (v1)), (2, .int (v2))]) hx hb dX10_lacking_28 hl (by decide) rfl ?_
    clear hl; intro ls hl
    refine lv_iconst (v := 0) hx hb dX10_lacking_30 (by decide) ?_
    refine lv_istore (lv' := [(6, .int (0)), (5, .int (99)), (4, .int (0)), (3, .ref (gz G + (r_1))), (0, .ref (gz G + (v0))), (1, .int (v1)), (2, .int (v2))]) hx hb dX10_lacking_31 hl (by decide) rfl ?_
    clear hl; intro ls hl
    exact bl_X10_lacking_L33 X hret FU v0 h0 v2 r_1 hk2 0 99 0 σ_4 h _ _ _ hW (lv_sub hl [4, 6, 3, 2, 1, 0] rfl)
  · replace h := if_t hc h
    refine lv_iconst (v := (-1)) hx hb dX10_lacking_21 (by decide) ?_
    replace h := xr_el h
    exact ri_end hret h dX10_lacking_22 hW
set_option maxRecDepth 20000 in
set_option maxHeartbeats 4000000 in
theorem xl_X10_lacking_b80 (X : Cx G p R s m args c cells slots cX10_lacking 8 RX10 8) {r : Nat} {σ' : St} (hthr : R_X G p l e R s m args below meth c cells slots Q cX10_lacking 8 RX10 r σ') (hpr : R_P G p l e R s m args below meth c cells slots Q r σ') {k33 : Nat → Int32 → Nat → Int32 → Int32 → Int32 → St → (Option ((Nat ⊕ (Int32)) × St))}
    (hk33 : ∀ (v0 : Nat) (h0 : kd v0 = 9) (v2 : Int32) (v3 : Nat) (h3 : kd v3 = 3) (v4 : Int32) (v5 : Int32) (v6 : Int32) (σ : St) (_ : k33 v0 v2 v3 v4 v5 v6 σ = some (.inl r, σ')) (H : Heap) (locs : List Loc) (ls : Array Slot) (_ : GW G σ s H locs) (_ : lv_has ls 8 [(0, .ref (gz G + (v0))), (2, .int (v2)), (3, .ref (gz G + (v3))), (4, .int (v4)), (5, .int (v5)), (6, .int (v6))]), W p l e R s m args below meth c H locs cells slots Q (F0 m 33 ls [])) :
    ∀ (v0 : Nat) (h0 : kd v0 = 9) (v2 : Int32) (v3 : Nat) (h3 : kd v3 = 3) (v4 : Int32) (v5 : Int32) (v6 : Int32) (σ : St) (_ : pf_X10_lacking_b80 k33 v0 v2 v3 v4 v5 v6 σ = some (.inl r, σ')) (H : Heap) (locs : List Loc) (ls : Array Slot) (_ : GW G σ s H locs) (_ : lv_has ls 8 [(0, .ref (gz G + (v0))), (2, .int (v2)), (3, .ref (gz G + (v3))), (4, .int (v4)), (5, .int (v5)), (6, .int (v6))]), W p l e R s m args below meth c H locs cells slots Q (F0 m 80 ls []) := by
  have hx := X.1.1
  have hb := X.1.2.1
  intro v0 h0 v2 v3 h3 v4 v5 v6 σ h H locs ls hW hl
  unfold pf_X10_lacking_b80 at h
  refine w_iinc (v := 1) (lv' := fun y => [(6, .int (y)), (0, .ref (gz G + (v0))), (2, .int (v2)), (3, .ref (gz G + (v3))), (4, .int (v4)), (5, .int (v5))]) hx hb dX10_lacking_80 hl (k := 5) rfl (by decide) (by decide) (fun _ => rfl) h ?_
  clear h hl; intro v6_1 h ls hl
  refine lv_goto (tgt := 33) hx hb dX10_lacking_83 (by decide) ?_
  exact hk33 v0 h0 v2 v3 h3 v4 v5 v6_1 σ h _ _ _ hW (lv_sub hl [1, 2, 3, 4, 5, 0] rfl)
set_option maxRecDepth 20000 in
set_option maxHeartbeats 4000000 in
theorem xl_X10_lacking_L33 (X : Cx G p R s m args c cells slots cX10_lacking 8 RX10 8) {r : Nat} {σ' : St} (hthr : R_X G p l e R s m args below meth c cells slots Q cX10_lacking 8 RX10 r σ') (hpr : R_P G p l e R s m args below meth c cells slots Q r σ') :
    ∀ (n : Nat), ∀ (v0 : Nat) (h0 : kd v0 = 9) (v2 : Int32) (v3 : Nat) (h3 : kd v3 = 3) (v4 : Int32) (v5 : Int32) (v6 : Int32) (σ : St) (_ : pf_X10_lacking_L33 n v0 v2 v3 v4 v5 v6 σ = some (.inl r, σ')) (H : Heap) (locs : List Loc) (ls : Array Slot) (_ : GW G σ s H locs) (_ : lv_has ls 8 [(0, .ref (gz G + (v0))), (2, .int (v2)), (3, .ref (gz G + (v3))), (4, .int (v4)), (5, .int (v5)), (6, .int (v6))]), W p l e R s m args below meth c H locs cells slots Q (F0 m 33 ls []) := by
  have hx := X.1.1
  have hb := X.1.2.1
  intro n
  induction n with
  | zero => intro v0 h0 v2 v3 h3 v4 v5 v6 σ h H locs ls hW hl; cases h
  | succ n ih =>
    intro v0 h0 v2 v3 h3 v4 v5 v6 σ h H locs ls hW hl
    rw [pf_X10_lacking_L33.eq_2] at h
    refine lv_iload hx hb dX10_lacking_33 (lv_at hl 5 rfl) ?_
    refine lv_bipush (v := 99) hx hb dX10_lacking_35 (by decide) ?_
    refine lv_icmp_ge (tgt := 86) hx hb dX10_lacking_37 (by decide) (fun hc => ?_) (fun hc => ?_)
    · replace h := if_t hc h
      refine lv_iload hx hb dX10_lacking_86 (lv_at hl 4 rfl) ?_
      cases h
    · replace h := if_f hc h
      refine lv_iload hx hb dX10_lacking_40 (lv_at hl 3 rfl) ?_
      refine lv_iload hx hb dX10_lacking_42 (lv_at hl 4 rfl) ?_
      refine lv_icmp_ge (tgt := 86) hx hb dX10_lacking_44 (by decide) (fun hc => ?_) (fun hc => ?_)
      · replace h := if_t hc h
        refine lv_iload hx hb dX10_lacking_86 (lv_at hl 4 rfl) ?_
        cases h
      · replace h := if_f hc h
        refine lv_iload hx hb dX10_lacking_47 (lv_at hl 3 rfl) ?_
        refine lv_iload hx hb dX10_lacking_49 (lv_at hl 4 rfl) ?_
        refine lv_iadd hx hb dX10_lacking_51 ?_
        refine lv_iconst (v := 2) hx hb dX10_lacking_52 (by decide) ?_
        refine lv_idiv hx hb dX10_lacking_53 (by decide) ?_
        refine nm_i h ?_
        clear h; intro v7_1 h
        refine lv_istore (lv' := [(7, .int (v7_1)), (0, .ref (gz G + (v0))), (2, .int (v2)), (3, .ref (gz G + (v3))), (4, .int (v4)), (5, .int (v5)), (6, .int (v6))]) hx hb dX10_lacking_54 hl (by decide) rfl ?_
        clear hl; intro ls hl
        refine lv_aload_n hx hb dX10_lacking_56 rfl (lv_at hl 1 rfl) ?_
        refine lv_aload_n hx hb dX10_lacking_57 rfl (lv_at hl 3 rfl) ?_
        refine lv_iload_n hx hb dX10_lacking_58 rfl (lv_at hl 2 rfl) ?_
        refine lv_iload hx hb dX10_lacking_59 (lv_at hl 0 rfl) ?_
        obtain ⟨r_2, σ_2, hcl, h⟩ := bnd2_el h
        refine call_V1 X hW (kC_X10 h0) m_5_118 m_5_120 m_0_36 mv_X10_hasWayWithMore (c_X10_hasWayWithMore h0 h3 hcl) (by decide) rfl rfl (Nat.le_of_ble_eq_true rfl) hl.1 dX10_lacking_61 ?_
        clear hW hcl; intro H locs hW
        refine lv_if_eq (tgt := 74) hx hb dX10_lacking_64 (by decide) (fun hc => ?_) (fun hc => ?_)
        · replace h := if_t hc h
          refine lv_iload hx hb dX10_lacking_74 (lv_at hl 0 rfl) ?_
          refine lv_iconst (v := 1) hx hb dX10_lacking_76 (by decide) ?_
          refine lv_iadd hx hb dX10_lacking_77 ?_
          refine nm_i h ?_
          clear h; intro v4_3 h
          refine lv_istore (lv' := [(4, .int (v4_3)), (7, .int (v7_1)), (0, .ref (gz G + (v0))), (2, .int (v2)), (3, .ref (gz G + (v3))), (5, .int (v5)), (6, .int (v6))]) hx hb dX10_lacking_78 hl (by decide) rfl ?_
          clear hl; intro ls hl
          exact xl_X10_lacking_b80 X hthr hpr ih v0 h0 v2 v3 h3 v4_3 v5 v6 σ_2 h _ _ _ hW (lv_sub hl [2, 3, 4, 0, 5, 6] rfl)
        · replace h := if_f hc h
          refine lv_iload hx hb dX10_lacking_67 (lv_at hl 0 rfl) ?_
          refine lv_istore (lv' := [(5, .int (v7_1)), (7, .int (v7_1)), (0, .ref (gz G + (v0))), (2, .int (v2)), (3, .ref (gz G + (v3))), (4, .int (v4)), (6, .int (v6))]) hx hb dX10_lacking_69 hl (by decide) rfl ?_
          clear hl; intro ls hl
          refine lv_goto (tgt := 80) hx hb dX10_lacking_71 (by decide) ?_
          exact xl_X10_lacking_b80 X hthr hpr ih v0 h0 v2 v3 h3 v4 v7_1 v6 σ_2 h _ _ _ hW (lv_sub hl [2, 3, 4, 5, 0, 6] rfl)
set_option maxRecDepth 20000 in
set_option maxHeartbeats 4000000 in
theorem x_X10_lacking {G : Gt} {l : Launch} {v0 : Nat} (h0 : kd v0 = 9) {v1 : Int32} {v2 : Int32} {σ : St} {r : Nat} {σ' : St} (hf : pf_X10_lacking v0 v1 v2 σ = some (.inl r, σ')) : CtT G l yX10_lacking cX10_lacking 8 (some .int) 8 [.ref (gz G + (v0)), .int (v1), .int (v2)] σ r σ' := by
  refine met_t (by decide +kernel) (Nat.le_of_ble_eq_true rfl) (by decide) ?_
  intro p e s m args below meth c Q ls X hW hthr hpr hl
  have hx := X.1.1
  have hb := X.1.2.1
  have hl : lv_has ls 8 [(0, .ref (gz G + (v0))), (1, .int (v1)), (2, .int (v2))] := hl
  have h := hf
  clear hf
  unfold pf_X10_lacking at h
  refine lv_aload_n hx hb dX10_lacking_0 rfl (lv_at hl 0 rfl) ?_
  refine lv_iload_n hx hb dX10_lacking_1 rfl (lv_at hl 1 rfl) ?_
  rcases bndX0W_t h with ⟨hcl, rfl⟩ | ⟨r_1, hcl, h⟩
  · exact tcall_V X hW (kC_X10 h0) m_3_113 m_3_115 m_0_15 mv_X10_questAt (x_X10_questAt h0 hcl) (by decide) rfl rfl (Nat.le_of_ble_eq_true rfl) hl.1 dX10_lacking_2 hpr
  refine call_V1 X hW (kC_X10 h0) m_3_113 m_3_115 m_0_15 mv_X10_questAt (c_X10_questAt h0 hcl) (by decide) rfl rfl (Nat.le_of_ble_eq_true rfl) hl.1 dX10_lacking_2 ?_
  clear hW hcl; intro H locs hW
  obtain ⟨hk2, h⟩ := ckK_el h
  refine lv_astore_n (lv' := [(3, .ref (gz G + (r_1))), (0, .ref (gz G + (v0))), (1, .int (v1)), (2, .int (v2))]) hx hb dX10_lacking_5 rfl hl (by decide) rfl ?_
  clear hl; intro ls hl
  refine lv_iload_n hx hb dX10_lacking_6 rfl (lv_at hl 3 rfl) ?_
  rcases bndX0W_t h with ⟨hcl, rfl⟩ | ⟨r_3, hcl, h⟩
  · exact tcall_S X hW m_5_11 m_5_12 mv_X10_checkItem (x_X10_checkItem hcl) (by decide) rfl rfl (Nat.le_of_ble_eq_true rfl) hl.1 dX10_lacking_7 hpr
  refine call_S0 X hW m_5_11 m_5_12 mv_X10_checkItem (c_X10_checkItem hcl) (by decide) rfl rfl (Nat.le_of_ble_eq_true rfl) hl.1 dX10_lacking_7 ?_
  clear hW hcl; intro H locs hW
  refine lv_aload_n hx hb dX10_lacking_10 rfl (lv_at hl 1 rfl) ?_
  refine lv_aload_n hx hb dX10_lacking_11 rfl (lv_at hl 0 rfl) ?_
  refine lv_iload_n hx hb dX10_lacking_12 rfl (lv_at hl 3 rfl) ?_
  refine lv_bipush (v := 99) hx hb dX10_lacking_13 (by decide) ?_
  obtain ⟨r_4, σ_4, hcl, h⟩ := bnd2_el h
  refine call_V1 X hW (kC_X10 h0) m_5_118 m_5_120 m_0_36 mv_X10_hasWayWithMore (c_X10_hasWayWithMore h0 hk2 hcl) (by decide) rfl rfl (Nat.le_of_ble_eq_true rfl) hl.1 dX10_lacking_15 ?_
  clear hW hcl; intro H locs hW
  refine lv_if_ne (tgt := 23) hx hb dX10_lacking_18 (by decide) (fun hc => ?_) (fun hc => ?_)
  · replace h := if_f hc h
    refine lv_iconst (v := 0) hx hb dX10_lacking_23 (by decide) ?_
    refine lv_istore (lv' := [(4, .int (0)), (3, .ref (gz G + (r_1))), (0, .ref (gz G + (v0))), (1, .int (v1)), (2, .int (v2))]) hx hb dX10_lacking_24 hl (by decide) rfl ?_
    clear hl; intro ls hl
    refine lv_bipush (v := 99) hx hb dX10_lacking_26 (by decide) ?_
    refine lv_istore (lv' := [(5, .int (99)), (4, .int (0)), (3, .ref (gz G + (r_1))), (0, .ref (gz G + (v0))), (1, .int (v1)), (2, .int (v2))]) hx hb dX10_lacking_28 hl (by decide) rfl ?_
    clear hl; intro ls hl
    refine lv_iconst (v := 0) hx hb dX10_lacking_30 (by decide) ?_
    refine lv_istore (lv' := [(6, .int (0)), (5, .int (99)), (4, .int (0)), (3, .ref (gz G + (r_1))), (0, .ref (gz G + (v0))), (1, .int (v1)), (2, .int (v2))]) hx hb dX10_lacking_31 hl (by decide) rfl ?_
    clear hl; intro ls hl
    exact xl_X10_lacking_L33 X hthr hpr FU v0 h0 v2 r_1 hk2 0 99 0 σ_4 h _ _ _ hW (lv_sub hl [4, 6, 3, 2, 1, 0] rfl)
  · replace h := if_t hc h
    refine lv_iconst (v := (-1)) hx hb dX10_lacking_21 (by decide) ?_
    cases h
set_option maxRecDepth 20000 in
set_option maxHeartbeats 4000000 in
theorem bl_X10_finishFirstPossible_L51 (X : Cx G p R s m args c cells slots cX10_finishFirstPossible 6 RX10 7) {r : Int32} {σ' : St} (hret : R_Z G p l e R s m args below meth c cells slots Q cX10_finishFirstPossible r σ') :
    ∀ (n : Nat), ∀ (v0 : Nat) (h0 : kd v0 = 9) (v1 : Nat) (h1 : kd v1 = 2) (v3 : Nat) (h3 : kd v3 = 3) (v4 : Int32) (v5 : Int32) (σ : St) (_ : pf_X10_finishFirstPossible_L51 n v0 v1 v3 v4 v5 σ = some (r, σ')) (H : Heap) (locs : List Loc) (ls : Array Slot) (_ : GW G σ s H locs) (_ : lv_has ls 6 [(0, .ref (gz G + (v0))), (1, .ref (gz G + (v1))), (3, .ref (gz G + (v3))), (4, .int (v4)), (5, .int (v5))]), W p l e R s m args below meth c H locs cells slots Q (F0 m 51 ls []) := by
  have hx := X.1.1
  have hb := X.1.2.1
  intro n
  induction n with
  | zero => intro v0 h0 v1 h1 v3 h3 v4 v5 σ h H locs ls hW hl; cases h
  | succ n ih =>
    intro v0 h0 v1 h1 v3 h3 v4 v5 σ h H locs ls hW hl
    rw [pf_X10_finishFirstPossible_L51.eq_2] at h
    refine lv_iload hx hb dX10_finishFirstPossible_51 (lv_at hl 4 rfl) ?_
    refine lv_iload hx hb dX10_finishFirstPossible_53 (lv_at hl 3 rfl) ?_
    refine lv_icmp_ge (tgt := 80) hx hb dX10_finishFirstPossible_55 (by decide) (fun hc => ?_) (fun hc => ?_)
    · replace h := if_t hc h
      refine lv_iconst (v := 1) hx hb dX10_finishFirstPossible_80 (by decide) ?_
      exact rz_end hret h (by decide) dX10_finishFirstPossible_81 hW
    · replace h := if_f hc h
      refine lv_aload_n hx hb dX10_finishFirstPossible_58 rfl (lv_at hl 1 rfl) ?_
      refine lv_aload_n hx hb dX10_finishFirstPossible_59 rfl (lv_at hl 2 rfl) ?_
      refine lv_aload_n hx hb dX10_finishFirstPossible_60 rfl (lv_at hl 0 rfl) ?_
      refine gf_X10_ways X hW h0 m_2_68 dX10_finishFirstPossible_61 ?_
      refine lv_aload_n hx hb dX10_finishFirstPossible_64 rfl (lv_at hl 2 rfl) ?_
      refine gf_X3_done X hW h3 m_1_61 dX10_finishFirstPossible_65 ?_
      obtain ⟨r_1, hcl, h⟩ := bind_el h
      refine call_V1 X hW (kC_X7 (kf_X10_ways h0)) m_2_178 m_2_179 m_2_180 mv_X7_nextOfPlan (c_X7_nextOfPlan (kf_X10_ways h0) hcl) (by decide) rfl rfl (Nat.le_of_ble_eq_true rfl) hl.1 dX10_finishFirstPossible_68 ?_
      clear hW hcl; intro H locs hW
      obtain ⟨σ_2, hcl, h⟩ := bind_el h
      refine call_V0 X hW (kC_X2 h1) m_2_182 m_2_183 m_2_184 mv_X2_succeed (c_X2_succeed h1 h3 hcl) (by decide) rfl rfl (Nat.le_of_ble_eq_true rfl) hl.1 dX10_finishFirstPossible_71 ?_
      clear hW hcl; intro H locs hW
      refine w_iinc (v := 1) (lv' := fun y => [(5, .int (y)), (0, .ref (gz G + (v0))), (1, .ref (gz G + (v1))), (3, .ref (gz G + (v3))), (4, .int (v4))]) hx hb dX10_finishFirstPossible_74 hl (k := 4) rfl (by decide) (by decide) (fun _ => rfl) h ?_
      clear h hl; intro v5_3 h ls hl
      refine lv_goto (tgt := 51) hx hb dX10_finishFirstPossible_77 (by decide) ?_
      exact ih v0 h0 v1 h1 v3 h3 v4 v5_3 σ_2 h _ _ _ hW (lv_sub hl [1, 2, 3, 4, 0] rfl)
set_option maxRecDepth 20000 in
set_option maxHeartbeats 4000000 in
theorem bl_X10_finishFirstPossible_b38 (X : Cx G p R s m args c cells slots cX10_finishFirstPossible 6 RX10 7) {r : Int32} {σ' : St} (hret : R_Z G p l e R s m args below meth c cells slots Q cX10_finishFirstPossible r σ') :
    ∀ (v0 : Nat) (h0 : kd v0 = 9) (v1 : Nat) (h1 : kd v1 = 2) (v3 : Nat) (h3 : kd v3 = 3) (σ : St) (_ : pf_X10_finishFirstPossible_b38 v0 v1 v3 σ = some (r, σ')) (H : Heap) (locs : List Loc) (ls : Array Slot) (_ : GW G σ s H locs) (_ : lv_has ls 6 [(0, .ref (gz G + (v0))), (1, .ref (gz G + (v1))), (3, .ref (gz G + (v3)))]), W p l e R s m args below meth c H locs cells slots Q (F0 m 38 ls []) := by
  have hx := X.1.1
  have hb := X.1.2.1
  intro v0 h0 v1 h1 v3 h3 σ h H locs ls hW hl
  unfold pf_X10_finishFirstPossible_b38 at h
  refine lv_aload_n hx hb dX10_finishFirstPossible_38 rfl (lv_at hl 0 rfl) ?_
  refine gf_X10_ways X hW h0 m_2_68 dX10_finishFirstPossible_39 ?_
  refine lv_aload_n hx hb dX10_finishFirstPossible_42 rfl (lv_at hl 2 rfl) ?_
  obtain ⟨r_1, hcl, h⟩ := bind_el h
  refine call_V1 X hW (kC_X7 (kf_X10_ways h0)) m_2_174 m_2_175 m_2_176 mv_X7_lengthOfPlan (c_X7_lengthOfPlan (kf_X10_ways h0) h3 hcl) (by decide) rfl rfl (Nat.le_of_ble_eq_true rfl) hl.1 dX10_finishFirstPossible_43 ?_
  clear hW hcl; intro H locs hW
  refine lv_istore (lv' := [(4, .int (r_1)), (0, .ref (gz G + (v0))), (1, .ref (gz G + (v1))), (3, .ref (gz G + (v3)))]) hx hb dX10_finishFirstPossible_46 hl (by decide) rfl ?_
  clear hl; intro ls hl
  refine lv_iconst (v := 0) hx hb dX10_finishFirstPossible_48 (by decide) ?_
  refine lv_istore (lv' := [(5, .int (0)), (4, .int (r_1)), (0, .ref (gz G + (v0))), (1, .ref (gz G + (v1))), (3, .ref (gz G + (v3)))]) hx hb dX10_finishFirstPossible_49 hl (by decide) rfl ?_
  clear hl; intro ls hl
  exact bl_X10_finishFirstPossible_L51 X hret FU v0 h0 v1 h1 v3 h3 r_1 0 σ h _ _ _ hW (lv_sub hl [2, 3, 4, 1, 0] rfl)
set_option maxRecDepth 20000 in
set_option maxHeartbeats 4000000 in
theorem bl_X10_finishFirstPossible_L2 (X : Cx G p R s m args c cells slots cX10_finishFirstPossible 6 RX10 7) {r : Int32} {σ' : St} (hret : R_Z G p l e R s m args below meth c cells slots Q cX10_finishFirstPossible r σ') {k38 : Nat → Nat → Nat → St → (Option (Int32 × St))}
    (hk38 : ∀ (v0 : Nat) (h0 : kd v0 = 9) (v1 : Nat) (h1 : kd v1 = 2) (v3 : Nat) (h3 : kd v3 = 3) (σ : St) (_ : k38 v0 v1 v3 σ = some (r, σ')) (H : Heap) (locs : List Loc) (ls : Array Slot) (_ : GW G σ s H locs) (_ : lv_has ls 6 [(0, .ref (gz G + (v0))), (1, .ref (gz G + (v1))), (3, .ref (gz G + (v3)))]), W p l e R s m args below meth c H locs cells slots Q (F0 m 38 ls [])) :
    ∀ (n : Nat), ∀ (v0 : Nat) (h0 : kd v0 = 9) (v1 : Nat) (h1 : kd v1 = 2) (v2 : Int32) (σ : St) (_ : pf_X10_finishFirstPossible_L2 k38 n v0 v1 v2 σ = some (r, σ')) (H : Heap) (locs : List Loc) (ls : Array Slot) (_ : GW G σ s H locs) (_ : lv_has ls 6 [(0, .ref (gz G + (v0))), (1, .ref (gz G + (v1))), (2, .int (v2))]), W p l e R s m args below meth c H locs cells slots Q (F0 m 2 ls []) := by
  have hx := X.1.1
  have hb := X.1.2.1
  intro n
  induction n with
  | zero => intro v0 h0 v1 h1 v2 σ h H locs ls hW hl; cases h
  | succ n ih =>
    intro v0 h0 v1 h1 v2 σ h H locs ls hW hl
    rw [pf_X10_finishFirstPossible_L2.eq_2] at h
    refine lv_iload_n hx hb dX10_finishFirstPossible_2 rfl (lv_at hl 2 rfl) ?_
    refine lv_aload_n hx hb dX10_finishFirstPossible_3 rfl (lv_at hl 1 rfl) ?_
    refine gf_X2_questCount X hW h1 m_1_147 dX10_finishFirstPossible_4 ?_
    refine lv_icmp_ge (tgt := 88) hx hb dX10_finishFirstPossible_7 (by decide) (fun hc => ?_) (fun hc => ?_)
    · replace h := if_t hc h
      refine lv_iconst (v := 0) hx hb dX10_finishFirstPossible_88 (by decide) ?_
      exact rz_end hret h (by decide) dX10_finishFirstPossible_89 hW
    · replace h := if_f hc h
      refine lv_iload_n hx hb dX10_finishFirstPossible_10 rfl (lv_at hl 2 rfl) ?_
      refine lv_bipush (v := 6) hx hb dX10_finishFirstPossible_11 (by decide) ?_
      refine lv_icmp_ge (tgt := 88) hx hb dX10_finishFirstPossible_13 (by decide) (fun hc => ?_) (fun hc => ?_)
      · replace h := if_t hc h
        refine lv_iconst (v := 0) hx hb dX10_finishFirstPossible_88 (by decide) ?_
        exact rz_end hret h (by decide) dX10_finishFirstPossible_89 hW
      · replace h := if_f hc h
        refine lv_aload_n hx hb dX10_finishFirstPossible_16 rfl (lv_at hl 1 rfl) ?_
        refine gf_X2_quests X hW h1 m_1_144 dX10_finishFirstPossible_17 ?_
        refine lv_iload_n hx hb dX10_finishFirstPossible_20 rfl (lv_at hl 2 rfl) ?_
        obtain ⟨hi1, h⟩ := ckI_el h
        refine r_qald X hW (kf_X2_quests h1) hi1 dX10_finishFirstPossible_21 ?_
        refine lv_astore_n (lv' := [(3, .ref (gz G + (v1 + 3 + 2 + 9 * (v2).toNatClampNeg))), (0, .ref (gz G + (v0))), (1, .ref (gz G + (v1))), (2, .int (v2))]) hx hb dX10_finishFirstPossible_22 rfl hl (by decide) rfl ?_
        clear hl; intro ls hl
        refine lv_aload_n hx hb dX10_finishFirstPossible_23 rfl (lv_at hl 1 rfl) ?_
        refine gf_X10_ways X hW h0 m_2_68 dX10_finishFirstPossible_24 ?_
        refine lv_aload_n hx hb dX10_finishFirstPossible_27 rfl (lv_at hl 0 rfl) ?_
        refine lv_aload_n hx hb dX10_finishFirstPossible_28 rfl (lv_at hl 2 rfl) ?_
        refine gf_X2_stock X hW h1 m_1_136 dX10_finishFirstPossible_29 ?_
        obtain ⟨r_2, σ_2, hcl, h⟩ := bnd2_el h
        refine call_V1 X hW (kC_X7 (kf_X10_ways h0)) m_2_124 m_2_125 m_2_126 mv_X7_explore (c_X7_explore (kf_X10_ways h0) (kq_16 (kf_X2_quests h1) (vp_lt hi1)) (kf_X2_stock h1) hcl) (by decide) rfl rfl (Nat.le_of_ble_eq_true rfl) hl.1 dX10_finishFirstPossible_32 ?_
        clear hW hcl; intro H locs hW
        refine lv_if_eq (tgt := 82) hx hb dX10_finishFirstPossible_35 (by decide) (fun hc => ?_) (fun hc => ?_)
        · replace h := if_t hc h
          refine w_iinc (v := 1) (lv' := fun y => [(2, .int (y)), (3, .ref (gz G + (v1 + 3 + 2 + 9 * (v2).toNatClampNeg))), (0, .ref (gz G + (v0))), (1, .ref (gz G + (v1)))]) hx hb dX10_finishFirstPossible_82 hl (k := 3) rfl (by decide) (by decide) (fun _ => rfl) h ?_
          clear h hl; intro v2_3 h ls hl
          refine lv_goto (tgt := 2) hx hb dX10_finishFirstPossible_85 (by decide) ?_
          exact ih v0 h0 v1 h1 v2_3 σ_2 h _ _ _ hW (lv_sub hl [2, 3, 0] rfl)
        · replace h := if_f hc h
          exact hk38 v0 h0 v1 h1 (v1 + 3 + 2 + 9 * (v2).toNatClampNeg) (kq_16 (kf_X2_quests h1) (vp_lt hi1)) σ_2 h _ _ _ hW (lv_sub hl [1, 2, 0] rfl)
set_option maxRecDepth 20000 in
set_option maxHeartbeats 4000000 in
theorem c_X10_finishFirstPossible {G : Gt} {l : Launch} {v0 : Nat} (h0 : kd v0 = 9) {v1 : Nat} (h1 : kd v1 = 2) {σ : St} {r : Int32} {σ' : St} (hf : pf_X10_finishFirstPossible v0 v1 σ = some (r, σ')) : Ct G l yX10_finishFirstPossible cX10_finishFirstPossible 6 (some .boolean) 7 [.ref (gz G + (v0)), .ref (gz G + (v1))] σ (some (.int r)) σ' := by
  refine met_z (by decide +kernel) (Nat.le_of_ble_eq_true rfl) rfl ?_
  intro p e s m args below meth c Q ls X hW hret hl
  have hx := X.1.1
  have hb := X.1.2.1
  have hl : lv_has ls 6 [(0, .ref (gz G + (v0))), (1, .ref (gz G + (v1)))] := hl
  have h := hf
  clear hf
  unfold pf_X10_finishFirstPossible at h
  refine lv_iconst (v := 0) hx hb dX10_finishFirstPossible_0 (by decide) ?_
  refine lv_istore_n (lv' := [(2, .int (0)), (0, .ref (gz G + (v0))), (1, .ref (gz G + (v1)))]) hx hb dX10_finishFirstPossible_1 rfl hl (by decide) rfl ?_
  clear hl; intro ls hl
  exact bl_X10_finishFirstPossible_L2 X hret (bl_X10_finishFirstPossible_b38 X hret) FU v0 h0 v1 h1 0 σ h _ _ _ hW (lv_sub hl [1, 2, 0] rfl)
set_option maxRecDepth 20000 in
set_option maxHeartbeats 4000000 in
theorem bl_X10_campaign_L15 (X : Cx G p R s m args c cells slots cX10_campaign 3 RX10 8) {r : Int32} {σ' : St} (hret : R_I G p l e R s m args below meth c cells slots Q cX10_campaign r σ') :
    ∀ (n : Nat), ∀ (v0 : Nat) (h0 : kd v0 = 9) (v1 : Int32) (v2 : Int32) (σ : St) (_ : pf_X10_campaign_L15 n v0 v1 v2 σ = some (r, σ')) (H : Heap) (locs : List Loc) (ls : Array Slot) (_ : GW G σ s H locs) (_ : lv_has ls 3 [(0, .ref (gz G + (v0))), (1, .int (v1)), (2, .int (v2))]), W p l e R s m args below meth c H locs cells slots Q (F0 m 15 ls []) := by
  have hx := X.1.1
  have hb := X.1.2.1
  intro n
  induction n with
  | zero => intro v0 h0 v1 v2 σ h H locs ls hW hl; cases h
  | succ n ih =>
    intro v0 h0 v1 v2 σ h H locs ls hW hl
    rw [pf_X10_campaign_L15.eq_2] at h
    refine lv_iload_n hx hb dX10_campaign_15 rfl (lv_at hl 2 rfl) ?_
    refine lv_bipush (v := 6) hx hb dX10_campaign_16 (by decide) ?_
    refine lv_icmp_ge (tgt := 43) hx hb dX10_campaign_18 (by decide) (fun hc => ?_) (fun hc => ?_)
    · replace h := if_t hc h
      refine lv_iload_n hx hb dX10_campaign_43 rfl (lv_at hl 1 rfl) ?_
      exact ri_end hret h dX10_campaign_44 hW
    · replace h := if_f hc h
      refine lv_aload_n hx hb dX10_campaign_21 rfl (lv_at hl 0 rfl) ?_
      refine lv_aload_n hx hb dX10_campaign_22 rfl (lv_at hl 0 rfl) ?_
      refine gf_X10_draft X hW h0 m_2_65 dX10_campaign_23 ?_
      obtain ⟨r_1, σ_1, hcl, h⟩ := bnd2_el h
      refine call_V1 X hW (kC_X10 h0) m_2_120 m_2_122 m_0_1 mv_X10_finishFirstPossible (c_X10_finishFirstPossible h0 (kf_X10_draft h0) hcl) (by decide) rfl rfl (Nat.le_of_ble_eq_true rfl) hl.1 dX10_campaign_26 ?_
      clear hW hcl; intro H locs hW
      refine lv_if_ne (tgt := 34) hx hb dX10_campaign_29 (by decide) (fun hc => ?_) (fun hc => ?_)
      · replace h := if_f hc h
        refine w_iinc (v := 1) (lv' := fun y => [(1, .int (y)), (0, .ref (gz G + (v0))), (2, .int (v2))]) hx hb dX10_campaign_34 hl (k := 1) rfl (by decide) (by decide) (fun _ => rfl) h ?_
        clear h hl; intro v1_2 h ls hl
        refine w_iinc (v := 1) (lv' := fun y => [(2, .int (y)), (1, .int (v1_2)), (0, .ref (gz G + (v0)))]) hx hb dX10_campaign_37 hl (k := 2) rfl (by decide) (by decide) (fun _ => rfl) h ?_
        clear h hl; intro v2_3 h ls hl
        refine lv_goto (tgt := 15) hx hb dX10_campaign_40 (by decide) ?_
        exact ih v0 h0 v1_2 v2_3 σ_1 h _ _ _ hW (lv_sub hl [2, 1, 0] rfl)
      · replace h := if_t hc h
        refine lv_iload_n hx hb dX10_campaign_32 rfl (lv_at hl 1 rfl) ?_
        exact ri_end hret h dX10_campaign_33 hW
set_option maxRecDepth 20000 in
set_option maxHeartbeats 4000000 in
theorem c_X10_campaign {G : Gt} {l : Launch} {v0 : Nat} (h0 : kd v0 = 9) {σ : St} {r : Int32} {σ' : St} (hf : pf_X10_campaign v0 σ = some (r, σ')) : Ct G l yX10_campaign cX10_campaign 3 (some .int) 8 [.ref (gz G + (v0))] σ (some (.int r)) σ' := by
  refine met_i (by decide +kernel) (Nat.le_of_ble_eq_true rfl) rfl ?_
  intro p e s m args below meth c Q ls X hW hret hl
  have hx := X.1.1
  have hb := X.1.2.1
  have hl : lv_has ls 3 [(0, .ref (gz G + (v0)))] := hl
  have h := hf
  clear hf
  unfold pf_X10_campaign at h
  refine lv_aload_n hx hb dX10_campaign_0 rfl (lv_at hl 0 rfl) ?_
  refine gf_X10_draft X hW h0 m_2_65 dX10_campaign_1 ?_
  refine lv_aload_n hx hb dX10_campaign_4 rfl (lv_at hl 0 rfl) ?_
  refine gf_X10_now X hW h0 m_2_64 dX10_campaign_5 ?_
  obtain ⟨σ_1, hcl, h⟩ := bind_el h
  refine call_V0 X hW (kC_X2 (kf_X10_draft h0)) m_2_108 m_2_109 m_2_110 mv_X2_copyFrom (c_X2_copyFrom (kf_X10_draft h0) (kf_X10_now h0) hcl) (by decide) rfl rfl (Nat.le_of_ble_eq_true rfl) hl.1 dX10_campaign_8 ?_
  clear hW hcl; intro H locs hW
  refine lv_iconst (v := 0) hx hb dX10_campaign_11 (by decide) ?_
  refine lv_istore_n (lv' := [(1, .int (0)), (0, .ref (gz G + (v0)))]) hx hb dX10_campaign_12 rfl hl (by decide) rfl ?_
  clear hl; intro ls hl
  refine lv_iconst (v := 0) hx hb dX10_campaign_13 (by decide) ?_
  refine lv_istore_n (lv' := [(2, .int (0)), (1, .int (0)), (0, .ref (gz G + (v0)))]) hx hb dX10_campaign_14 rfl hl (by decide) rfl ?_
  clear hl; intro ls hl
  exact bl_X10_campaign_L15 X hret FU v0 h0 0 0 σ_1 h _ _ _ hW (lv_sub hl [2, 1, 0] rfl)
set_option maxRecDepth 20000 in
set_option maxHeartbeats 4000000 in
theorem c_X10_worthOf {G : Gt} {l : Launch} {v0 : Nat} (h0 : kd v0 = 9) {v1 : Nat} (h1 : kd v1 = 3) {v2 : Int32} {σ : St} {r : Int32} {σ' : St} (hf : pf_X10_worthOf v0 v1 v2 σ = some (r, σ')) : Ct G l yX10_worthOf cX10_worthOf 3 (some .int) 7 [.ref (gz G + (v0)), .ref (gz G + (v1)), .int (v2)] σ (some (.int r)) σ' := by
  refine met_i (by decide +kernel) (Nat.le_of_ble_eq_true rfl) rfl ?_
  intro p e s m args below meth c Q ls X hW hret hl
  have hx := X.1.1
  have hb := X.1.2.1
  have hl : lv_has ls 3 [(0, .ref (gz G + (v0))), (1, .ref (gz G + (v1))), (2, .int (v2))] := hl
  have h := hf
  clear hf
  unfold pf_X10_worthOf at h
  refine lv_aload_n hx hb dX10_worthOf_0 rfl (lv_at hl 0 rfl) ?_
  refine gf_X10_ways X hW h0 m_2_68 dX10_worthOf_1 ?_
  refine lv_aload_n hx hb dX10_worthOf_4 rfl (lv_at hl 1 rfl) ?_
  refine lv_aload_n hx hb dX10_worthOf_5 rfl (lv_at hl 0 rfl) ?_
  refine gf_X10_now X hW h0 m_2_64 dX10_worthOf_6 ?_
  refine gf_X2_stock X hW (kf_X10_now h0) m_1_136 dX10_worthOf_9 ?_
  obtain ⟨r_1, σ_1, hcl, h⟩ := bnd2_el h
  refine call_V1 X hW (kC_X7 (kf_X10_ways h0)) m_2_124 m_2_125 m_2_126 mv_X7_explore (c_X7_explore (kf_X10_ways h0) h1 (kf_X2_stock (kf_X10_now h0)) hcl) (by decide) rfl rfl (Nat.le_of_ble_eq_true rfl) hl.1 dX10_worthOf_12 ?_
  clear hW hcl; intro H locs hW
  refine lv_pop hx hb dX10_worthOf_15 rfl ?_
  refine lv_aload_n hx hb dX10_worthOf_16 rfl (lv_at hl 0 rfl) ?_
  refine gf_X10_worthMeter X hW h0 m_2_69 dX10_worthOf_17 ?_
  refine lv_iconst (v := (-1)) hx hb dX10_worthOf_20 (by decide) ?_
  refine lv_aload_n hx hb dX10_worthOf_21 rfl (lv_at hl 0 rfl) ?_
  refine gf_X10_ways X hW h0 m_2_68 dX10_worthOf_22 ?_
  refine lv_aload_n hx hb dX10_worthOf_25 rfl (lv_at hl 1 rfl) ?_
  obtain ⟨r_2, hcl, h⟩ := bind_el h
  refine call_V1 X hW (kC_X7 (kf_X10_ways h0)) m_2_174 m_2_175 m_2_176 mv_X7_lengthOfPlan (c_X7_lengthOfPlan (kf_X10_ways h0) h1 hcl) (by decide) rfl rfl (Nat.le_of_ble_eq_true rfl) hl.1 dX10_worthOf_26 ?_
  clear hW hcl; intro H locs hW
  obtain ⟨σ_3, hcl, h⟩ := bind_el h
  refine call_V0 X hW (kC_X8 (kf_X10_worthMeter h0)) m_2_201 m_2_202 m_2_203 mv_X8_see (c_X8_see (kf_X10_worthMeter h0) hcl) (by decide) rfl rfl (Nat.le_of_ble_eq_true rfl) hl.1 dX10_worthOf_29 ?_
  clear hW hcl; intro H locs hW
  refine lv_aload_n hx hb dX10_worthOf_32 rfl (lv_at hl 0 rfl) ?_
  refine gf_X10_worthMeter X hW h0 m_2_69 dX10_worthOf_33 ?_
  refine lv_bipush (v := (-2)) hx hb dX10_worthOf_36 (by decide) ?_
  refine lv_aload_n hx hb dX10_worthOf_38 rfl (lv_at hl 0 rfl) ?_
  refine gf_X10_ways X hW h0 m_2_68 dX10_worthOf_39 ?_
  refine lv_aload_n hx hb dX10_worthOf_42 rfl (lv_at hl 1 rfl) ?_
  obtain ⟨r_4, hcl, h⟩ := bind_el h
  refine call_V1 X hW (kC_X7 (kf_X10_ways h0)) m_2_206 m_2_207 m_2_208 mv_X7_riskOfPlan (c_X7_riskOfPlan (kf_X10_ways h0) h1 hcl) (by decide) rfl rfl (Nat.le_of_ble_eq_true rfl) hl.1 dX10_worthOf_43 ?_
  clear hW hcl; intro H locs hW
  obtain ⟨σ_5, hcl, h⟩ := bind_el h
  refine call_V0 X hW (kC_X8 (kf_X10_worthMeter h0)) m_2_201 m_2_202 m_2_203 mv_X8_see (c_X8_see (kf_X10_worthMeter h0) hcl) (by decide) rfl rfl (Nat.le_of_ble_eq_true rfl) hl.1 dX10_worthOf_46 ?_
  clear hW hcl; intro H locs hW
  refine lv_aload_n hx hb dX10_worthOf_49 rfl (lv_at hl 0 rfl) ?_
  refine gf_X10_worthMeter X hW h0 m_2_69 dX10_worthOf_50 ?_
  refine lv_bipush (v := (-3)) hx hb dX10_worthOf_53 (by decide) ?_
  refine lv_aload_n hx hb dX10_worthOf_55 rfl (lv_at hl 1 rfl) ?_
  refine gf_X3_done X hW h1 m_1_61 dX10_worthOf_56 ?_
  obtain ⟨r_6, hcl, h⟩ := bind_el h
  refine call_S1 X hW m_2_220 m_2_221 mv_J6_bitCount_0f7a4 (c_J6_bitCount_0f7a4 hcl) (by decide) rfl rfl (Nat.le_of_ble_eq_true rfl) hl.1 dX10_worthOf_59 ?_
  clear hW hcl; intro H locs hW
  obtain ⟨σ_7, hcl, h⟩ := bind_el h
  refine call_V0 X hW (kC_X8 (kf_X10_worthMeter h0)) m_2_201 m_2_202 m_2_203 mv_X8_see (c_X8_see (kf_X10_worthMeter h0) hcl) (by decide) rfl rfl (Nat.le_of_ble_eq_true rfl) hl.1 dX10_worthOf_62 ?_
  clear hW hcl; intro H locs hW
  refine lv_aload_n hx hb dX10_worthOf_65 rfl (lv_at hl 0 rfl) ?_
  refine gf_X10_worthMeter X hW h0 m_2_69 dX10_worthOf_66 ?_
  refine lv_bipush (v := (-4)) hx hb dX10_worthOf_69 (by decide) ?_
  refine lv_aload_n hx hb dX10_worthOf_71 rfl (lv_at hl 1 rfl) ?_
  obtain ⟨r_8, hcl, h⟩ := bind_el h
  refine call_V1 X hW (kC_X3 h1) m_2_226 m_2_227 m_2_228 mv_X3_sumOfFails (c_X3_sumOfFails h1 hcl) (by decide) rfl rfl (Nat.le_of_ble_eq_true rfl) hl.1 dX10_worthOf_72 ?_
  clear hW hcl; intro H locs hW
  obtain ⟨σ_9, hcl, h⟩ := bind_el h
  refine call_V0 X hW (kC_X8 (kf_X10_worthMeter h0)) m_2_201 m_2_202 m_2_203 mv_X8_see (c_X8_see (kf_X10_worthMeter h0) hcl) (by decide) rfl rfl (Nat.le_of_ble_eq_true rfl) hl.1 dX10_worthOf_75 ?_
  clear hW hcl; intro H locs hW
  refine lv_aload_n hx hb dX10_worthOf_78 rfl (lv_at hl 0 rfl) ?_
  refine gf_X10_worthMeter X hW h0 m_2_69 dX10_worthOf_79 ?_
  refine lv_bipush (v := (-5)) hx hb dX10_worthOf_82 (by decide) ?_
  refine lv_aload_n hx hb dX10_worthOf_84 rfl (lv_at hl 1 rfl) ?_
  refine gf_X3_rewardAmount X hW h1 m_1_70 dX10_worthOf_85 ?_
  obtain ⟨σ_10, hcl, h⟩ := bind_el h
  refine call_V0 X hW (kC_X8 (kf_X10_worthMeter h0)) m_2_201 m_2_202 m_2_203 mv_X8_see (c_X8_see (kf_X10_worthMeter h0) hcl) (by decide) rfl rfl (Nat.le_of_ble_eq_true rfl) hl.1 dX10_worthOf_88 ?_
  clear hW hcl; intro H locs hW
  refine lv_aload_n hx hb dX10_worthOf_91 rfl (lv_at hl 0 rfl) ?_
  refine gf_X10_worthMeter X hW h0 m_2_69 dX10_worthOf_92 ?_
  refine lv_bipush (v := (-6)) hx hb dX10_worthOf_95 (by decide) ?_
  refine lv_iload_n hx hb dX10_worthOf_97 rfl (lv_at hl 2 rfl) ?_
  obtain ⟨σ_11, hcl, h⟩ := bind_el h
  refine call_V0 X hW (kC_X8 (kf_X10_worthMeter h0)) m_2_201 m_2_202 m_2_203 mv_X8_see (c_X8_see (kf_X10_worthMeter h0) hcl) (by decide) rfl rfl (Nat.le_of_ble_eq_true rfl) hl.1 dX10_worthOf_98 ?_
  clear hW hcl; intro H locs hW
  refine lv_aload_n hx hb dX10_worthOf_101 rfl (lv_at hl 0 rfl) ?_
  refine gf_X10_worthMeter X hW h0 m_2_69 dX10_worthOf_102 ?_
  refine lv_aload_n hx hb dX10_worthOf_105 rfl (lv_at hl 0 rfl) ?_
  refine gf_X10_now X hW h0 m_2_64 dX10_worthOf_106 ?_
  refine gf_X2_worthCode X hW (kf_X10_now h0) m_1_150 dX10_worthOf_109 ?_
  refine lv_aload_n hx hb dX10_worthOf_112 rfl (lv_at hl 0 rfl) ?_
  refine gf_X10_now X hW h0 m_2_64 dX10_worthOf_113 ?_
  refine gf_X2_worthLength X hW (kf_X10_now h0) m_1_153 dX10_worthOf_116 ?_
  obtain ⟨r_12, σ_12, hcl, h⟩ := bnd2_el h
  refine call_V1 X hW (kC_X8 (kf_X10_worthMeter h0)) m_2_230 m_2_231 m_2_232 mv_X8_measure (c_X8_measure (kf_X10_worthMeter h0) (kf_X2_worthCode (kf_X10_now h0)) hcl) (by decide) rfl rfl (Nat.le_of_ble_eq_true rfl) hl.1 dX10_worthOf_119 ?_
  clear hW hcl; intro H locs hW
  exact ri_end hret h dX10_worthOf_122 hW
end
