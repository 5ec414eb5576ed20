section
variable {G : Gt} {p : Program} {l : Launch} {e : Env} {R : Room} {s : State} {m : MethodId} {args : Array Value} {below : List Frame} {meth : Method} {c : Code} {cells slots : Nat} {Q : State → Prop}
set_option maxRecDepth 20000 in
set_option maxHeartbeats 4000000 in
theorem bl_X3_brokenSteps_b26 {σ : St} (X : Cx G p R s m args c cells slots cX3_brokenSteps 3 RX3 4) {r : Int32} (hret : R_I G p l e R s m args below meth c cells slots Q cX3_brokenSteps r σ) {k4 : Nat → Int32 → Int32 → (Option (Int32))}
    (hk4 : ∀ (v0 : Nat) (h0 : kd v0 = 3) (v1 : Int32) (v2 : Int32) (_ : k4 v0 v1 v2 = some r) (H : Heap) (locs : List Loc) (ls : Array Slot) (_ : GW G σ s H locs) (_ : lv_has ls 3 [(0, .ref (gz G + (v0))), (1, .int (v1)), (2, .int (v2))]), W p l e R s m args below meth c H locs cells slots Q (F0 m 4 ls [])) :
    ∀ (v0 : Nat) (h0 : kd v0 = 3) (v1 : Int32) (v2 : Int32) (_ : pf_X3_brokenSteps_b26 σ k4 v0 v1 v2 = some r) (H : Heap) (locs : List Loc) (ls : Array Slot) (_ : GW G σ s H locs) (_ : lv_has ls 3 [(0, .ref (gz G + (v0))), (1, .int (v1)), (2, .int (v2))]), W p l e R s m args below meth c H locs cells slots Q (F0 m 26 ls []) := by
  have hx := X.1.1
  have hb := X.1.2.1
  intro v0 h0 v1 v2 h H locs ls hW hl
  unfold pf_X3_brokenSteps_b26 at h
  refine w_iinc (v := 1) (lv' := fun y => [(2, .int (y)), (0, .ref (gz G + (v0))), (1, .int (v1))]) hx hb dX3_brokenSteps_26 hl (k := 2) rfl (by decide) (by decide) (fun _ => rfl) h ?_
  clear h hl; intro v2_1 h ls hl
  refine lv_goto (tgt := 4) hx hb dX3_brokenSteps_29 (by decide) ?_
  exact hk4 v0 h0 v1 v2_1 h _ _ _ hW (lv_sub hl [1, 2, 0] rfl)
set_option maxRecDepth 20000 in
set_option maxHeartbeats 4000000 in
theorem bl_X3_brokenSteps_L4 {σ : St} (X : Cx G p R s m args c cells slots cX3_brokenSteps 3 RX3 4) {r : Int32} (hret : R_I G p l e R s m args below meth c cells slots Q cX3_brokenSteps r σ) :
    ∀ (n : Nat), ∀ (v0 : Nat) (h0 : kd v0 = 3) (v1 : Int32) (v2 : Int32) (_ : pf_X3_brokenSteps_L4 σ n v0 v1 v2 = some r) (H : Heap) (locs : List Loc) (ls : Array Slot) (_ : GW G σ s H locs) (_ : lv_has ls 3 [(0, .ref (gz G + (v0))), (1, .int (v1)), (2, .int (v2))]), W p l e R s m args below meth c H locs cells slots Q (F0 m 4 ls []) := by
  have hx := X.1.1
  have hb := X.1.2.1
  intro n
  induction n with
  | zero => intro v0 h0 v1 v2 h H locs ls hW hl; cases h
  | succ n ih =>
    intro v0 h0 v1 v2 h H locs ls hW hl
    rw [pf_X3_brokenSteps_L4.eq_2] at h
    refine lv_iload_n hx hb dX3_brokenSteps_4 rfl (lv_at hl 2 rfl) ?_
    refine lv_aload_n hx hb dX3_brokenSteps_5 rfl (lv_at hl 0 rfl) ?_
    refine gf_X3_stepCount X hW h0 m_1_60 dX3_brokenSteps_6 ?_
    refine lv_icmp_ge (tgt := 32) hx hb dX3_brokenSteps_9 (by decide) (fun hc => ?_) (fun hc => ?_)
    · replace h := if_t hc h
      refine lv_iload_n hx hb dX3_brokenSteps_32 rfl (lv_at hl 1 rfl) ?_
      exact ri_end0 hret h dX3_brokenSteps_33 hW
    · replace h := if_f hc h
      refine lv_aload_n hx hb dX3_brokenSteps_12 rfl (lv_at hl 0 rfl) ?_
      refine lv_iload_n hx hb dX3_brokenSteps_13 rfl (lv_at hl 2 rfl) ?_
      obtain ⟨r_1, hcl, h⟩ := bind_el h
      refine call_V1 X hW (kC_X3 h0) m_2_207 m_2_209 m_0_4 mv_X3_isBroken (c_X3_isBroken h0 hcl) (by decide) rfl rfl (Nat.le_of_ble_eq_true rfl) hl.1 dX3_brokenSteps_14 ?_
      clear hW hcl; intro H locs hW
      refine lv_if_eq (tgt := 26) hx hb dX3_brokenSteps_17 (by decide) (fun hc => ?_) (fun hc => ?_)
      · replace h := if_t hc h
        exact bl_X3_brokenSteps_b26 X hret ih v0 h0 v1 v2 h _ _ _ hW (lv_sub hl [0, 1, 2] rfl)
      · replace h := if_f hc h
        refine lv_iload_n hx hb dX3_brokenSteps_20 rfl (lv_at hl 1 rfl) ?_
        refine lv_iconst (v := 1) hx hb dX3_brokenSteps_21 (by decide) ?_
        refine lv_iload_n hx hb dX3_brokenSteps_22 rfl (lv_at hl 2 rfl) ?_
        refine w_ishl hx hb dX3_brokenSteps_23 ?_
        refine lv_ior hx hb dX3_brokenSteps_24 ?_
        refine nm_i h ?_
        clear h; intro v1_2 h
        refine lv_istore_n (lv' := [(1, .int (v1_2)), (0, .ref (gz G + (v0))), (2, .int (v2))]) hx hb dX3_brokenSteps_25 rfl hl (by decide) rfl ?_
        clear hl; intro ls hl
        exact bl_X3_brokenSteps_b26 X hret ih v0 h0 v1_2 v2 h _ _ _ hW (lv_sub hl [1, 0, 2] rfl)
set_option maxRecDepth 20000 in
set_option maxHeartbeats 4000000 in
theorem c_X3_brokenSteps {G : Gt} {l : Launch} {v0 : Nat} (h0 : kd v0 = 3) {σ : St} {r : Int32} (hf : pf_X3_brokenSteps v0 σ = some r) : Ct G l yX3_brokenSteps cX3_brokenSteps 3 (some .int) 4 [.ref (gz G + (v0))] σ (some (.int r)) σ := by
  refine met_i (by decide +kernel) (Nat.le_of_ble_eq_true rfl) rfl ?_
  intro p e s m args below meth c Q ls X hW hret hl
  have hx := X.1.1
  have hb := X.1.2.1
  have hl : lv_has ls 3 [(0, .ref (gz G + (v0)))] := hl
  have h := hf
  clear hf
  unfold pf_X3_brokenSteps at h
  refine lv_iconst (v := 0) hx hb dX3_brokenSteps_0 (by decide) ?_
  refine lv_istore_n (lv' := [(1, .int (0)), (0, .ref (gz G + (v0)))]) hx hb dX3_brokenSteps_1 rfl hl (by decide) rfl ?_
  clear hl; intro ls hl
  refine lv_iconst (v := 0) hx hb dX3_brokenSteps_2 (by decide) ?_
  refine lv_istore_n (lv' := [(2, .int (0)), (1, .int (0)), (0, .ref (gz G + (v0)))]) hx hb dX3_brokenSteps_3 rfl hl (by decide) rfl ?_
  clear hl; intro ls hl
  exact bl_X3_brokenSteps_L4 X hret FU v0 h0 0 0 h _ _ _ hW (lv_sub hl [2, 1, 0] rfl)
set_option maxRecDepth 20000 in
set_option maxHeartbeats 4000000 in
theorem bl_X3_sumOfFails_L4 {σ : St} (X : Cx G p R s m args c cells slots cX3_sumOfFails 3 RX3 3) {r : Int32} (hret : R_I G p l e R s m args below meth c cells slots Q cX3_sumOfFails r σ) :
    ∀ (n : Nat), ∀ (v0 : Nat) (h0 : kd v0 = 3) (v1 : Int32) (v2 : Int32) (_ : pf_X3_sumOfFails_L4 σ n v0 v1 v2 = some r) (H : Heap) (locs : List Loc) (ls : Array Slot) (_ : GW G σ s H locs) (_ : lv_has ls 3 [(0, .ref (gz G + (v0))), (1, .int (v1)), (2, .int (v2))]), W p l e R s m args below meth c H locs cells slots Q (F0 m 4 ls []) := by
  have hx := X.1.1
  have hb := X.1.2.1
  intro n
  induction n with
  | zero => intro v0 h0 v1 v2 h H locs ls hW hl; cases h
  | succ n ih =>
    intro v0 h0 v1 v2 h H locs ls hW hl
    rw [pf_X3_sumOfFails_L4.eq_2] at h
    refine lv_iload_n hx hb dX3_sumOfFails_4 rfl (lv_at hl 2 rfl) ?_
    refine lv_aload_n hx hb dX3_sumOfFails_5 rfl (lv_at hl 0 rfl) ?_
    refine gf_X3_stepCount X hW h0 m_1_60 dX3_sumOfFails_6 ?_
    refine lv_icmp_ge (tgt := 29) hx hb dX3_sumOfFails_9 (by decide) (fun hc => ?_) (fun hc => ?_)
    · replace h := if_t hc h
      refine lv_iload_n hx hb dX3_sumOfFails_29 rfl (lv_at hl 1 rfl) ?_
      exact ri_end0 hret h dX3_sumOfFails_30 hW
    · replace h := if_f hc h
      refine lv_iload_n hx hb dX3_sumOfFails_12 rfl (lv_at hl 1 rfl) ?_
      refine lv_aload_n hx hb dX3_sumOfFails_13 rfl (lv_at hl 0 rfl) ?_
      refine gf_X3_fails X hW h0 m_1_90 dX3_sumOfFails_14 ?_
      refine lv_iload_n hx hb dX3_sumOfFails_17 rfl (lv_at hl 2 rfl) ?_
      obtain ⟨r_1, hcl, h⟩ := bind_el h
      refine call_SN1 X hW m_2_177 m_2_178 mv_X10_at (c_X10_at (kf_X3_fails h0) hcl) (by decide) rfl rfl (Nat.le_of_ble_eq_true rfl) hl.1 dX3_sumOfFails_18 ?_
      clear hW hcl; intro H locs hW
      refine lv_iadd hx hb dX3_sumOfFails_21 ?_
      refine nm_i h ?_
      clear h; intro v1_2 h
      refine lv_istore_n (lv' := [(1, .int (v1_2)), (0, .ref (gz G + (v0))), (2, .int (v2))]) hx hb dX3_sumOfFails_22 rfl hl (by decide) rfl ?_
      clear hl; intro ls hl
      refine w_iinc (v := 1) (lv' := fun y => [(2, .int (y)), (1, .int (v1_2)), (0, .ref (gz G + (v0)))]) hx hb dX3_sumOfFails_23 hl (k := 2) rfl (by decide) (by decide) (fun _ => rfl) h ?_
      clear h hl; intro v2_3 h ls hl
      refine lv_goto (tgt := 4) hx hb dX3_sumOfFails_26 (by decide) ?_
      exact ih v0 h0 v1_2 v2_3 h _ _ _ hW (lv_sub hl [2, 1, 0] rfl)
set_option maxRecDepth 20000 in
set_option maxHeartbeats 4000000 in
theorem c_X3_sumOfFails {G : Gt} {l : Launch} {v0 : Nat} (h0 : kd v0 = 3) {σ : St} {r : Int32} (hf : pf_X3_sumOfFails v0 σ = some r) : Ct G l yX3_sumOfFails cX3_sumOfFails 3 (some .int) 3 [.ref (gz G + (v0))] σ (some (.int r)) σ := by
  refine met_i (by decide +kernel) (Nat.le_of_ble_eq_true rfl) rfl ?_
  intro p e s m args below meth c Q ls X hW hret hl
  have hx := X.1.1
  have hb := X.1.2.1
  have hl : lv_has ls 3 [(0, .ref (gz G + (v0)))] := hl
  have h := hf
  clear hf
  unfold pf_X3_sumOfFails at h
  refine lv_iconst (v := 0) hx hb dX3_sumOfFails_0 (by decide) ?_
  refine lv_istore_n (lv' := [(1, .int (0)), (0, .ref (gz G + (v0)))]) hx hb dX3_sumOfFails_1 rfl hl (by decide) rfl ?_
  clear hl; intro ls hl
  refine lv_iconst (v := 0) hx hb dX3_sumOfFails_2 (by decide) ?_
  refine lv_istore_n (lv' := [(2, .int (0)), (1, .int (0)), (0, .ref (gz G + (v0)))]) hx hb dX3_sumOfFails_3 rfl hl (by decide) rfl ?_
  clear hl; intro ls hl
  exact bl_X3_sumOfFails_L4 X hret FU v0 h0 0 0 h _ _ _ hW (lv_sub hl [2, 1, 0] rfl)
set_option maxRecDepth 20000 in
set_option maxHeartbeats 4000000 in
theorem bl_X3_riskOf_b31 {σ : St} (X : Cx G p R s m args c cells slots cX3_riskOf 4 RX3 3) {r : Int32} (hret : R_I G p l e R s m args below meth c cells slots Q cX3_riskOf r σ) {k4 : Nat → Int32 → Int32 → Int32 → (Option (Int32))}
    (hk4 : ∀ (v0 : Nat) (h0 : kd v0 = 3) (v1 : Int32) (v2 : Int32) (v3 : Int32) (_ : k4 v0 v1 v2 v3 = some r) (H : Heap) (locs : List Loc) (ls : Array Slot) (_ : GW G σ s H locs) (_ : lv_has ls 4 [(0, .ref (gz G + (v0))), (1, .int (v1)), (2, .int (v2)), (3, .int (v3))]), W p l e R s m args below meth c H locs cells slots Q (F0 m 4 ls [])) :
    ∀ (v0 : Nat) (h0 : kd v0 = 3) (v1 : Int32) (v2 : Int32) (v3 : Int32) (_ : pf_X3_riskOf_b31 σ k4 v0 v1 v2 v3 = some r) (H : Heap) (locs : List Loc) (ls : Array Slot) (_ : GW G σ s H locs) (_ : lv_has ls 4 [(0, .ref (gz G + (v0))), (1, .int (v1)), (2, .int (v2)), (3, .int (v3))]), W p l e R s m args below meth c H locs cells slots Q (F0 m 31 ls []) := by
  have hx := X.1.1
  have hb := X.1.2.1
  intro v0 h0 v1 v2 v3 h H locs ls hW hl
  unfold pf_X3_riskOf_b31 at h
  refine w_iinc (v := 1) (lv' := fun y => [(3, .int (y)), (0, .ref (gz G + (v0))), (1, .int (v1)), (2, .int (v2))]) hx hb dX3_riskOf_31 hl (k := 3) rfl (by decide) (by decide) (fun _ => rfl) h ?_
  clear h hl; intro v3_1 h ls hl
  refine lv_goto (tgt := 4) hx hb dX3_riskOf_34 (by decide) ?_
  exact hk4 v0 h0 v1 v2 v3_1 h _ _ _ hW (lv_sub hl [1, 2, 3, 0] rfl)
set_option maxRecDepth 20000 in
set_option maxHeartbeats 4000000 in
theorem bl_X3_riskOf_L4 {σ : St} (X : Cx G p R s m args c cells slots cX3_riskOf 4 RX3 3) {r : Int32} (hret : R_I G p l e R s m args below meth c cells slots Q cX3_riskOf r σ) :
    ∀ (n : Nat), ∀ (v0 : Nat) (h0 : kd v0 = 3) (v1 : Int32) (v2 : Int32) (v3 : Int32) (_ : pf_X3_riskOf_L4 σ n v0 v1 v2 v3 = some r) (H : Heap) (locs : List Loc) (ls : Array Slot) (_ : GW G σ s H locs) (_ : lv_has ls 4 [(0, .ref (gz G + (v0))), (1, .int (v1)), (2, .int (v2)), (3, .int (v3))]), W p l e R s m args below meth c H locs cells slots Q (F0 m 4 ls []) := by
  have hx := X.1.1
  have hb := X.1.2.1
  intro n
  induction n with
  | zero => intro v0 h0 v1 v2 v3 h H locs ls hW hl; cases h
  | succ n ih =>
    intro v0 h0 v1 v2 v3 h H locs ls hW hl
    rw [pf_X3_riskOf_L4.eq_2] at h
    refine lv_iload_n hx hb dX3_riskOf_4 rfl (lv_at hl 3 rfl) ?_
    refine lv_aload_n hx hb dX3_riskOf_5 rfl (lv_at hl 0 rfl) ?_
    refine gf_X3_stepCount X hW h0 m_1_60 dX3_riskOf_6 ?_
    refine lv_icmp_ge (tgt := 37) hx hb dX3_riskOf_9 (by decide) (fun hc => ?_) (fun hc => ?_)
    · replace h := if_t hc h
      refine lv_iload_n hx hb dX3_riskOf_37 rfl (lv_at hl 2 rfl) ?_
      exact ri_end0 hret h dX3_riskOf_38 hW
    · replace h := if_f hc h
      refine lv_iload_n hx hb dX3_riskOf_12 rfl (lv_at hl 1 rfl) ?_
      refine lv_iload_n hx hb dX3_riskOf_13 rfl (lv_at hl 3 rfl) ?_
      refine w_iushr hx hb dX3_riskOf_14 ?_
      refine lv_iconst (v := 1) hx hb dX3_riskOf_15 (by decide) ?_
      refine lv_iand hx hb dX3_riskOf_16 ?_
      refine lv_if_eq (tgt := 31) hx hb dX3_riskOf_17 (by decide) (fun hc => ?_) (fun hc => ?_)
      · replace h := if_t hc h
        exact bl_X3_riskOf_b31 X hret ih v0 h0 v1 v2 v3 h _ _ _ hW (lv_sub hl [0, 1, 2, 3] rfl)
      · replace h := if_f hc h
        refine lv_iload_n hx hb dX3_riskOf_20 rfl (lv_at hl 2 rfl) ?_
        refine lv_aload_n hx hb dX3_riskOf_21 rfl (lv_at hl 0 rfl) ?_
        refine gf_X3_risk X hW h0 m_1_83 dX3_riskOf_22 ?_
        refine lv_iload_n hx hb dX3_riskOf_25 rfl (lv_at hl 3 rfl) ?_
        obtain ⟨r_1, hcl, h⟩ := bind_el h
        refine call_SN1 X hW m_2_177 m_2_178 mv_X10_at (c_X10_at (kf_X3_risk h0) hcl) (by decide) rfl rfl (Nat.le_of_ble_eq_true rfl) hl.1 dX3_riskOf_26 ?_
        clear hW hcl; intro H locs hW
        refine lv_iadd hx hb dX3_riskOf_29 ?_
        refine nm_i h ?_
        clear h; intro v2_2 h
        refine lv_istore_n (lv' := [(2, .int (v2_2)), (0, .ref (gz G + (v0))), (1, .int (v1)), (3, .int (v3))]) hx hb dX3_riskOf_30 rfl hl (by decide) rfl ?_
        clear hl; intro ls hl
        exact bl_X3_riskOf_b31 X hret ih v0 h0 v1 v2_2 v3 h _ _ _ hW (lv_sub hl [1, 2, 0, 3] rfl)
set_option maxRecDepth 20000 in
set_option maxHeartbeats 4000000 in
theorem c_X3_riskOf {G : Gt} {l : Launch} {v0 : Nat} (h0 : kd v0 = 3) {v1 : Int32} {σ : St} {r : Int32} (hf : pf_X3_riskOf v0 v1 σ = some r) : Ct G l yX3_riskOf cX3_riskOf 4 (some .int) 3 [.ref (gz G + (v0)), .int (v1)] σ (some (.int r)) σ := by
  refine met_i (by decide +kernel) (Nat.le_of_ble_eq_true rfl) rfl ?_
  intro p e s m args below meth c Q ls X hW hret hl
  have hx := X.1.1
  have hb := X.1.2.1
  have hl : lv_has ls 4 [(0, .ref (gz G + (v0))), (1, .int (v1))] := hl
  have h := hf
  clear hf
  unfold pf_X3_riskOf at h
  refine lv_iconst (v := 0) hx hb dX3_riskOf_0 (by decide) ?_
  refine lv_istore_n (lv' := [(2, .int (0)), (0, .ref (gz G + (v0))), (1, .int (v1))]) hx hb dX3_riskOf_1 rfl hl (by decide) rfl ?_
  clear hl; intro ls hl
  refine lv_iconst (v := 0) hx hb dX3_riskOf_2 (by decide) ?_
  refine lv_istore_n (lv' := [(3, .int (0)), (2, .int (0)), (0, .ref (gz G + (v0))), (1, .int (v1))]) hx hb dX3_riskOf_3 rfl hl (by decide) rfl ?_
  clear hl; intro ls hl
  exact bl_X3_riskOf_L4 X hret FU v0 h0 v1 0 0 h _ _ _ hW (lv_sub hl [2, 3, 1, 0] rfl)
set_option maxRecDepth 20000 in
set_option maxHeartbeats 4000000 in
theorem c_J9_max_7cf53 {G : Gt} {l : Launch} {v0 : Int32} {v1 : Int32} {σ : St} {r : Int32} (hf : pf_J9_max_7cf53 v0 v1 σ = some r) : Ct G l yJ9_max_7cf53 cJ9_max_7cf53 2 (some .int) 2 [.int (v0), .int (v1)] σ (some (.int r)) σ := by
  refine met_i (by decide +kernel) (Nat.le_of_ble_eq_true rfl) rfl ?_
  intro p e s m args below meth c Q ls X hW hret hl
  have hx := X.1.1
  have hb := X.1.2.1
  have hl : lv_has ls 2 [(0, .int (v0)), (1, .int (v1))] := hl
  have h := hf
  clear hf
  unfold pf_J9_max_7cf53 at h
  refine lv_iload_n hx hb dJ9_max_7cf53_0 rfl (lv_at hl 0 rfl) ?_
  refine lv_iload_n hx hb dJ9_max_7cf53_1 rfl (lv_at hl 1 rfl) ?_
  refine lv_icmp_lt (tgt := 9) hx hb dJ9_max_7cf53_2 (by decide) (fun hc => ?_) (fun hc => ?_)
  · replace h := if_t hc h
    refine lv_iload_n hx hb dJ9_max_7cf53_9 rfl (lv_at hl 1 rfl) ?_
    exact ri_end0 hret h dJ9_max_7cf53_10 hW
  · replace h := if_f hc h
    refine lv_iload_n hx hb dJ9_max_7cf53_5 rfl (lv_at hl 0 rfl) ?_
    refine lv_goto (tgt := 10) hx hb dJ9_max_7cf53_6 (by decide) ?_
    exact ri_end0 hret h dJ9_max_7cf53_10 hW
set_option maxRecDepth 20000 in
set_option maxHeartbeats 4000000 in
theorem bl_X3_hindranceBehind_L40 {σ : St} (X : Cx G p R s m args c cells slots cX3_hindranceBehind 7 RX3 4) {r : Int32} (hret : R_I G p l e R s m args below meth c cells slots Q cX3_hindranceBehind r σ) :
    ∀ (n : Nat), ∀ (v0 : Nat) (h0 : kd v0 = 3) (v2 : Int32) (v3 : Nat) (h3 : kd v3 = 11) (v4 : Int32) (v5 : Int32) (_ : pf_X3_hindranceBehind_L40 σ n v0 v2 v3 v4 v5 = some r) (H : Heap) (locs : List Loc) (ls : Array Slot) (_ : GW G σ s H locs) (_ : lv_has ls 7 [(0, .ref (gz G + (v0))), (2, .int (v2)), (3, .ref (gz G + (v3))), (4, .int (v4)), (5, .int (v5))]), W p l e R s m args below meth c H locs cells slots Q (F0 m 40 ls []) := by
  have hx := X.1.1
  have hb := X.1.2.1
  intro n
  induction n with
  | zero => intro v0 h0 v2 v3 h3 v4 v5 h H locs ls hW hl; cases h
  | succ n ih =>
    intro v0 h0 v2 v3 h3 v4 v5 h H locs ls hW hl
    rw [pf_X3_hindranceBehind_L40.eq_2] at h
    refine lv_iload hx hb dX3_hindranceBehind_40 (lv_at hl 4 rfl) ?_
    refine lv_bipush (v := 8) hx hb dX3_hindranceBehind_42 (by decide) ?_
    refine lv_icmp_ge (tgt := 97) hx hb dX3_hindranceBehind_44 (by decide) (fun hc => ?_) (fun hc => ?_)
    · replace h := if_t hc h
      refine lv_iconst (v := 0) hx hb dX3_hindranceBehind_97 (by decide) ?_
      exact ri_end0 hret h dX3_hindranceBehind_98 hW
    · replace h := if_f hc h
      refine lv_iload_n hx hb dX3_hindranceBehind_47 rfl (lv_at hl 1 rfl) ?_
      refine lv_bipush (v := 8) hx hb dX3_hindranceBehind_48 (by decide) ?_
      refine lv_imul hx hb dX3_hindranceBehind_50 ?_
      refine lv_iload hx hb dX3_hindranceBehind_51 (lv_at hl 4 rfl) ?_
      refine lv_iadd hx hb dX3_hindranceBehind_53 ?_
      refine nm_i h ?_
      clear h; intro v6_1 h
      refine lv_istore (lv' := [(6, .int (v6_1)), (0, .ref (gz G + (v0))), (2, .int (v2)), (3, .ref (gz G + (v3))), (4, .int (v4)), (5, .int (v5))]) hx hb dX3_hindranceBehind_54 hl (by decide) rfl ?_
      clear hl; intro ls hl
      refine lv_aload_n hx hb dX3_hindranceBehind_56 rfl (lv_at hl 3 rfl) ?_
      refine lv_iload hx hb dX3_hindranceBehind_57 (lv_at hl 4 rfl) ?_
      refine lv_iload hx hb dX3_hindranceBehind_59 (lv_at hl 5 rfl) ?_
      refine lv_iadd hx hb dX3_hindranceBehind_61 ?_
      obtain ⟨r_2, hcl, h⟩ := bind_el h
      refine call_SN1 X hW m_2_177 m_2_178 mv_X10_at (c_X10_at h3 hcl) (by decide) rfl rfl (Nat.le_of_ble_eq_true rfl) hl.1 dX3_hindranceBehind_62 ?_
      clear hW hcl; intro H locs hW
      refine lv_aload_n hx hb dX3_hindranceBehind_65 rfl (lv_at hl 1 rfl) ?_
      refine gf_X3_uses X hW h0 m_1_100 dX3_hindranceBehind_66 ?_
      refine lv_iload hx hb dX3_hindranceBehind_69 (lv_at hl 0 rfl) ?_
      obtain ⟨r_3, hcl, h⟩ := bind_el h
      refine call_SN1 X hW m_2_177 m_2_178 mv_X10_at (c_X10_at (kf_X3_uses h0) hcl) (by decide) rfl rfl (Nat.le_of_ble_eq_true rfl) hl.1 dX3_hindranceBehind_71 ?_
      clear hW hcl; intro H locs hW
      refine lv_aload_n hx hb dX3_hindranceBehind_74 rfl (lv_at hl 1 rfl) ?_
      refine gf_X3_needs X hW h0 m_1_104 dX3_hindranceBehind_75 ?_
      refine lv_iload hx hb dX3_hindranceBehind_78 (lv_at hl 0 rfl) ?_
      obtain ⟨r_4, hcl, h⟩ := bind_el h
      refine call_SN1 X hW m_2_177 m_2_178 mv_X10_at (c_X10_at (kf_X3_needs h0) hcl) (by decide) rfl rfl (Nat.le_of_ble_eq_true rfl) hl.1 dX3_hindranceBehind_80 ?_
      clear hW hcl; intro H locs hW
      obtain ⟨r_5, hcl, h⟩ := bind_el h
      refine call_S1 X hW m_2_211 m_2_212 mv_J9_max_7cf53 (c_J9_max_7cf53 hcl) (by decide) rfl rfl (Nat.le_of_ble_eq_true rfl) hl.1 dX3_hindranceBehind_83 ?_
      clear hW hcl; intro H locs hW
      refine lv_icmp_ge (tgt := 91) hx hb dX3_hindranceBehind_86 (by decide) (fun hc => ?_) (fun hc => ?_)
      · replace h := if_t hc h
        refine w_iinc (v := 1) (lv' := fun y => [(5, .int (y)), (6, .int (v6_1)), (0, .ref (gz G + (v0))), (2, .int (v2)), (3, .ref (gz G + (v3))), (4, .int (v4))]) hx hb dX3_hindranceBehind_91 hl (k := 5) rfl (by decide) (by decide) (fun _ => rfl) h ?_
        clear h hl; intro v5_6 h ls hl
        refine lv_goto (tgt := 40) hx hb dX3_hindranceBehind_94 (by decide) ?_
        exact ih v0 h0 v2 v3 h3 v4 v5_6 h _ _ _ hW (lv_sub hl [2, 3, 4, 5, 0] rfl)
      · replace h := if_f hc h
        refine lv_iconst (v := 5) hx hb dX3_hindranceBehind_89 (by decide) ?_
        exact ri_end0 hret h dX3_hindranceBehind_90 hW
set_option maxRecDepth 20000 in
set_option maxHeartbeats 4000000 in
theorem c_X3_hindranceBehind {G : Gt} {l : Launch} {v0 : Nat} (h0 : kd v0 = 3) {v1 : Int32} {v2 : Int32} {v3 : Nat} (h3 : kd v3 = 11) {v4 : Int32} {σ : St} {r : Int32} (hf : pf_X3_hindranceBehind v0 v1 v2 v3 v4 σ = some r) : Ct G l yX3_hindranceBehind cX3_hindranceBehind 7 (some .int) 4 [.ref (gz G + (v0)), .int (v1), .int (v2), .ref (gz G + (v3)), .int (v4)] σ (some (.int r)) σ := by
  refine met_i (by decide +kernel) (Nat.le_of_ble_eq_true rfl) rfl ?_
  intro p e s m args below meth c Q ls X hW hret hl
  have hx := X.1.1
  have hb := X.1.2.1
  have hl : lv_has ls 7 [(0, .ref (gz G + (v0))), (1, .int (v1)), (2, .int (v2)), (3, .ref (gz G + (v3))), (4, .int (v4))] := hl
  have h := hf
  clear hf
  unfold pf_X3_hindranceBehind at h
  refine lv_iload_n hx hb dX3_hindranceBehind_0 rfl (lv_at hl 1 rfl) ?_
  refine lv_iload_n hx hb dX3_hindranceBehind_1 rfl (lv_at hl 2 rfl) ?_
  refine w_iushr hx hb dX3_hindranceBehind_2 ?_
  refine lv_iconst (v := 1) hx hb dX3_hindranceBehind_3 (by decide) ?_
  refine lv_iand hx hb dX3_hindranceBehind_4 ?_
  refine lv_if_eq (tgt := 10) hx hb dX3_hindranceBehind_5 (by decide) (fun hc => ?_) (fun hc => ?_)
  · replace h := if_t hc h
    refine lv_aload_n hx hb dX3_hindranceBehind_10 rfl (lv_at hl 0 rfl) ?_
    refine lv_iload_n hx hb dX3_hindranceBehind_11 rfl (lv_at hl 2 rfl) ?_
    obtain ⟨r_1, hcl, h⟩ := bind_el h
    refine call_V1 X hW (kC_X3 h0) m_2_207 m_2_209 m_0_4 mv_X3_isBroken (c_X3_isBroken h0 hcl) (by decide) rfl rfl (Nat.le_of_ble_eq_true rfl) hl.1 dX3_hindranceBehind_12 ?_
    clear hW hcl; intro H locs hW
    refine lv_if_eq (tgt := 20) hx hb dX3_hindranceBehind_15 (by decide) (fun hc => ?_) (fun hc => ?_)
    · replace h := if_t hc h
      refine lv_aload_n hx hb dX3_hindranceBehind_20 rfl (lv_at hl 0 rfl) ?_
      refine gf_X3_ahead X hW h0 m_1_93 dX3_hindranceBehind_21 ?_
      refine lv_iload_n hx hb dX3_hindranceBehind_24 rfl (lv_at hl 2 rfl) ?_
      obtain ⟨r_2, hcl, h⟩ := bind_el h
      refine call_SN1 X hW m_2_177 m_2_178 mv_X10_at (c_X10_at (kf_X3_ahead h0) hcl) (by decide) rfl rfl (Nat.le_of_ble_eq_true rfl) hl.1 dX3_hindranceBehind_25 ?_
      clear hW hcl; intro H locs hW
      refine lv_iload_n hx hb dX3_hindranceBehind_28 rfl (lv_at hl 1 rfl) ?_
      refine lv_iconst (v := (-1)) hx hb dX3_hindranceBehind_29 (by decide) ?_
      refine lv_ixor hx hb dX3_hindranceBehind_30 ?_
      refine lv_iand hx hb dX3_hindranceBehind_31 ?_
      refine lv_if_eq (tgt := 37) hx hb dX3_hindranceBehind_32 (by decide) (fun hc => ?_) (fun hc => ?_)
      · replace h := if_t hc h
        refine lv_iconst (v := 0) hx hb dX3_hindranceBehind_37 (by decide) ?_
        refine lv_istore (lv' := [(5, .int (0)), (0, .ref (gz G + (v0))), (1, .int (v1)), (2, .int (v2)), (3, .ref (gz G + (v3))), (4, .int (v4))]) hx hb dX3_hindranceBehind_38 hl (by decide) rfl ?_
        clear hl; intro ls hl
        exact bl_X3_hindranceBehind_L40 X hret FU v0 h0 v2 v3 h3 v4 0 h _ _ _ hW (lv_sub hl [1, 3, 4, 5, 0] rfl)
      · replace h := if_f hc h
        refine lv_iconst (v := 4) hx hb dX3_hindranceBehind_35 (by decide) ?_
        exact ri_end0 hret h dX3_hindranceBehind_36 hW
    · replace h := if_f hc h
      refine lv_iconst (v := 3) hx hb dX3_hindranceBehind_18 (by decide) ?_
      exact ri_end0 hret h dX3_hindranceBehind_19 hW
  · replace h := if_f hc h
    refine lv_iconst (v := 2) hx hb dX3_hindranceBehind_8 (by decide) ?_
    exact ri_end0 hret h dX3_hindranceBehind_9 hW
set_option maxRecDepth 20000 in
set_option maxHeartbeats 4000000 in
theorem c_X3_hindrance {G : Gt} {l : Launch} {v0 : Nat} (h0 : kd v0 = 3) {v1 : Int32} {v2 : Nat} (h2 : kd v2 = 11) {σ : St} {r : Int32} (hf : pf_X3_hindrance v0 v1 v2 σ = some r) : Ct G l yX3_hindrance cX3_hindrance 3 (some .int) 5 [.ref (gz G + (v0)), .int (v1), .ref (gz G + (v2))] σ (some (.int r)) σ := by
  refine met_i (by decide +kernel) (Nat.le_of_ble_eq_true rfl) rfl ?_
  intro p e s m args below meth c Q ls X hW hret hl
  have hx := X.1.1
  have hb := X.1.2.1
  have hl : lv_has ls 3 [(0, .ref (gz G + (v0))), (1, .int (v1)), (2, .ref (gz G + (v2)))] := hl
  have h := hf
  clear hf
  unfold pf_X3_hindrance at h
  refine lv_aload_n hx hb dX3_hindrance_0 rfl (lv_at hl 0 rfl) ?_
  refine gf_X3_status X hW h0 m_1_64 dX3_hindrance_1 ?_
  refine lv_if_ne (tgt := 21) hx hb dX3_hindrance_4 (by decide) (fun hc => ?_) (fun hc => ?_)
  · replace h := if_f hc h
    refine lv_iconst (v := 1) hx hb dX3_hindrance_21 (by decide) ?_
    exact ri_end0 hret h dX3_hindrance_22 hW
  · replace h := if_t hc h
    refine lv_aload_n hx hb dX3_hindrance_7 rfl (lv_at hl 0 rfl) ?_
    refine lv_aload_n hx hb dX3_hindrance_8 rfl (lv_at hl 0 rfl) ?_
    refine gf_X3_done X hW h0 m_1_68 dX3_hindrance_9 ?_
    refine lv_iload_n hx hb dX3_hindrance_12 rfl (lv_at hl 1 rfl) ?_
    refine lv_aload_n hx hb dX3_hindrance_13 rfl (lv_at hl 2 rfl) ?_
    refine lv_iconst (v := 0) hx hb dX3_hindrance_14 (by decide) ?_
    obtain ⟨r_1, hcl, h⟩ := bind_el h
    refine call_V1 X hW (kC_X3 h0) m_5_84 m_2_204 m_2_205 mv_X3_hindranceBehind (c_X3_hindranceBehind h0 h2 hcl) (by decide) rfl rfl (Nat.le_of_ble_eq_true rfl) hl.1 dX3_hindrance_15 ?_
    clear hW hcl; intro H locs hW
    refine lv_goto (tgt := 22) hx hb dX3_hindrance_18 (by decide) ?_
    exact ri_end0 hret h dX3_hindrance_22 hW
set_option maxRecDepth 20000 in
set_option maxHeartbeats 4000000 in
theorem bl_X3_stepsToTry_b27 {σ : St} (X : Cx G p R s m args c cells slots cX3_stepsToTry 4 RX3 6) {r : Int32} (hret : R_I G p l e R s m args below meth c cells slots Q cX3_stepsToTry r σ) {k4 : Nat → Nat → Int32 → Int32 → (Option (Int32))}
    (hk4 : ∀ (v0 : Nat) (h0 : kd v0 = 3) (v1 : Nat) (h1 : kd v1 = 11) (v2 : Int32) (v3 : Int32) (_ : k4 v0 v1 v2 v3 = some r) (H : Heap) (locs : List Loc) (ls : Array Slot) (_ : GW G σ s H locs) (_ : lv_has ls 4 [(0, .ref (gz G + (v0))), (1, .ref (gz G + (v1))), (2, .int (v2)), (3, .int (v3))]), W p l e R s m args below meth c H locs cells slots Q (F0 m 4 ls [])) :
    ∀ (v0 : Nat) (h0 : kd v0 = 3) (v1 : Nat) (h1 : kd v1 = 11) (v2 : Int32) (v3 : Int32) (_ : pf_X3_stepsToTry_b27 σ k4 v0 v1 v2 v3 = some r) (H : Heap) (locs : List Loc) (ls : Array Slot) (_ : GW G σ s H locs) (_ : lv_has ls 4 [(0, .ref (gz G + (v0))), (1, .ref (gz G + (v1))), (2, .int (v2)), (3, .int (v3))]), W p l e R s m args below meth c H locs cells slots Q (F0 m 27 ls []) := by
  have hx := X.1.1
  have hb := X.1.2.1
  intro v0 h0 v1 h1 v2 v3 h H locs ls hW hl
  unfold pf_X3_stepsToTry_b27 at h
  refine w_iinc (v := 1) (lv' := fun y => [(3, .int (y)), (0, .ref (gz G + (v0))), (1, .ref (gz G + (v1))), (2, .int (v2))]) hx hb dX3_stepsToTry_27 hl (k := 3) rfl (by decide) (by decide) (fun _ => rfl) h ?_
  clear h hl; intro v3_1 h ls hl
  refine lv_goto (tgt := 4) hx hb dX3_stepsToTry_30 (by decide) ?_
  exact hk4 v0 h0 v1 h1 v2 v3_1 h _ _ _ hW (lv_sub hl [1, 2, 3, 0] rfl)
set_option maxRecDepth 20000 in
set_option maxHeartbeats 4000000 in
theorem bl_X3_stepsToTry_L4 {σ : St} (X : Cx G p R s m args c cells slots cX3_stepsToTry 4 RX3 6) {r : Int32} (hret : R_I G p l e R s m args below meth c cells slots Q cX3_stepsToTry r σ) :
    ∀ (n : Nat), ∀ (v0 : Nat) (h0 : kd v0 = 3) (v1 : Nat) (h1 : kd v1 = 11) (v2 : Int32) (v3 : Int32) (_ : pf_X3_stepsToTry_L4 σ n v0 v1 v2 v3 = some r) (H : Heap) (locs : List Loc) (ls : Array Slot) (_ : GW G σ s H locs) (_ : lv_has ls 4 [(0, .ref (gz G + (v0))), (1, .ref (gz G + (v1))), (2, .int (v2)), (3, .int (v3))]), W p l e R s m args below meth c H locs cells slots Q (F0 m 4 ls []) := by
  have hx := X.1.1
  have hb := X.1.2.1
  intro n
  induction n with
  | zero => intro v0 h0 v1 h1 v2 v3 h H locs ls hW hl; cases h
  | succ n ih =>
    intro v0 h0 v1 h1 v2 v3 h H locs ls hW hl
    rw [pf_X3_stepsToTry_L4.eq_2] at h
    refine lv_iload_n hx hb dX3_stepsToTry_4 rfl (lv_at hl 3 rfl) ?_
    refine lv_aload_n hx hb dX3_stepsToTry_5 rfl (lv_at hl 0 rfl) ?_
    refine gf_X3_stepCount X hW h0 m_1_60 dX3_stepsToTry_6 ?_
    refine lv_icmp_ge (tgt := 33) hx hb dX3_stepsToTry_9 (by decide) (fun hc => ?_) (fun hc => ?_)
    · replace h := if_t hc h
      refine lv_iload_n hx hb dX3_stepsToTry_33 rfl (lv_at hl 2 rfl) ?_
      exact ri_end0 hret h dX3_stepsToTry_34 hW
    · replace h := if_f hc h
      refine lv_aload_n hx hb dX3_stepsToTry_12 rfl (lv_at hl 0 rfl) ?_
      refine lv_iload_n hx hb dX3_stepsToTry_13 rfl (lv_at hl 3 rfl) ?_
      refine lv_aload_n hx hb dX3_stepsToTry_14 rfl (lv_at hl 1 rfl) ?_
      obtain ⟨r_1, hcl, h⟩ := bind_el h
      refine call_V1 X hW (kC_X3 h0) m_5_97 m_5_81 m_5_82 mv_X3_hindrance (c_X3_hindrance h0 h1 hcl) (by decide) rfl rfl (Nat.le_of_ble_eq_true rfl) hl.1 dX3_stepsToTry_15 ?_
      clear hW hcl; intro H locs hW
      refine lv_if_ne (tgt := 27) hx hb dX3_stepsToTry_18 (by decide) (fun hc => ?_) (fun hc => ?_)
      · replace h := if_f hc h
        exact bl_X3_stepsToTry_b27 X hret ih v0 h0 v1 h1 v2 v3 h _ _ _ hW (lv_sub hl [0, 1, 2, 3] rfl)
      · replace h := if_t hc h
        refine lv_iload_n hx hb dX3_stepsToTry_21 rfl (lv_at hl 2 rfl) ?_
        refine lv_iconst (v := 1) hx hb dX3_stepsToTry_22 (by decide) ?_
        refine lv_iload_n hx hb dX3_stepsToTry_23 rfl (lv_at hl 3 rfl) ?_
        refine w_ishl hx hb dX3_stepsToTry_24 ?_
        refine lv_ior hx hb dX3_stepsToTry_25 ?_
        refine nm_i h ?_
        clear h; intro v2_2 h
        refine lv_istore_n (lv' := [(2, .int (v2_2)), (0, .ref (gz G + (v0))), (1, .ref (gz G + (v1))), (3, .int (v3))]) hx hb dX3_stepsToTry_26 rfl hl (by decide) rfl ?_
        clear hl; intro ls hl
        exact bl_X3_stepsToTry_b27 X hret ih v0 h0 v1 h1 v2_2 v3 h _ _ _ hW (lv_sub hl [1, 2, 0, 3] rfl)
set_option maxRecDepth 20000 in
set_option maxHeartbeats 4000000 in
theorem c_X3_stepsToTry {G : Gt} {l : Launch} {v0 : Nat} (h0 : kd v0 = 3) {v1 : Nat} (h1 : kd v1 = 11) {σ : St} {r : Int32} (hf : pf_X3_stepsToTry v0 v1 σ = some r) : Ct G l yX3_stepsToTry cX3_stepsToTry 4 (some .int) 6 [.ref (gz G + (v0)), .ref (gz G + (v1))] σ (some (.int r)) σ := by
  refine met_i (by decide +kernel) (Nat.le_of_ble_eq_true rfl) rfl ?_
  intro p e s m args below meth c Q ls X hW hret hl
  have hx := X.1.1
  have hb := X.1.2.1
  have hl : lv_has ls 4 [(0, .ref (gz G + (v0))), (1, .ref (gz G + (v1)))] := hl
  have h := hf
  clear hf
  unfold pf_X3_stepsToTry at h
  refine lv_iconst (v := 0) hx hb dX3_stepsToTry_0 (by decide) ?_
  refine lv_istore_n (lv' := [(2, .int (0)), (0, .ref (gz G + (v0))), (1, .ref (gz G + (v1)))]) hx hb dX3_stepsToTry_1 rfl hl (by decide) rfl ?_
  clear hl; intro ls hl
  refine lv_iconst (v := 0) hx hb dX3_stepsToTry_2 (by decide) ?_
  refine lv_istore_n (lv' := [(3, .int (0)), (2, .int (0)), (0, .ref (gz G + (v0))), (1, .ref (gz G + (v1)))]) hx hb dX3_stepsToTry_3 rfl hl (by decide) rfl ?_
  clear hl; intro ls hl
  exact bl_X3_stepsToTry_L4 X hret FU v0 h0 v1 h1 0 0 h _ _ _ hW (lv_sub hl [2, 3, 1, 0] rfl)
set_option maxRecDepth 20000 in
set_option maxHeartbeats 4000000 in
theorem c_X4_offsetOfError {G : Gt} {l : Launch} {v0 : Nat} (h0 : kd v0 = 4) {σ : St} {r : Int32} (hf : pf_X4_offsetOfError v0 σ = some r) : Ct G l yX4_offsetOfError cX4_offsetOfError 1 (some .int) 2 [.ref (gz G + (v0))] σ (some (.int r)) σ := by
  refine met_i (by decide +kernel) (Nat.le_of_ble_eq_true rfl) rfl ?_
  intro p e s m args below meth c Q ls X hW hret hl
  have hx := X.1.1
  have hb := X.1.2.1
  have hl : lv_has ls 1 [(0, .ref (gz G + (v0)))] := hl
  have h := hf
  clear hf
  unfold pf_X4_offsetOfError at h
  refine lv_aload_n hx hb dX4_offsetOfError_0 rfl (lv_at hl 0 rfl) ?_
  refine gf_X4_tokens X hW h0 m_2_12 dX4_offsetOfError_1 ?_
  refine gfN_X6_errorOffset X hW (kf_X4_tokens h0) m_1_218 dX4_offsetOfError_4 ?_
  exact ri_end0 hret h dX4_offsetOfError_7 hW
set_option maxRecDepth 20000 in
set_option maxHeartbeats 4000000 in
theorem c_X4_begin {G : Gt} {l : Launch} {v0 : Nat} (h0 : kd v0 = 4) {v1 : Nat} (h1 : kd v1 = 2) {σ : St} {σ' : St} (hf : pf_X4_begin v0 v1 σ = some σ') : Ct G l yX4_begin cX4_begin 2 none 4 [.ref (gz G + (v0)), .ref (gz G + (v1))] σ none σ' := by
  refine met_v (by decide +kernel) (Nat.le_of_ble_eq_true rfl) rfl ?_
  intro p e s m args below meth c Q ls X hW hret hl
  have hx := X.1.1
  have hb := X.1.2.1
  have hl : lv_has ls 2 [(0, .ref (gz G + (v0))), (1, .ref (gz G + (v1)))] := hl
  have h := hf
  clear hf
  unfold pf_X4_begin at h
  refine lv_aload_n hx hb dX4_begin_0 rfl (lv_at hl 1 rfl) ?_
  obtain ⟨σ_1, hcl, h⟩ := bind_el h
  refine call_V0 X hW (kC_X2 h1) m_5_231 m_5_232 m_5_233 mv_X2_clear (c_X2_clear h1 hcl) (by decide) rfl rfl (Nat.le_of_ble_eq_true rfl) hl.1 dX4_begin_1 ?_
  clear hW hcl; intro H locs hW
  refine lv_aload_n hx hb dX4_begin_4 rfl (lv_at hl 1 rfl) ?_
  refine lv_bipush (v := (-5)) hx hb dX4_begin_5 (by decide) ?_
  obtain ⟨σ_2, hcl, h⟩ := bind_el h
  refine call_V0 X hW (kC_X2 h1) m_5_236 m_5_237 m_5_238 mv_X2_appendCode (c_X2_appendCode h1 hcl) (by decide) rfl rfl (Nat.le_of_ble_eq_true rfl) hl.1 dX4_begin_7 ?_
  clear hW hcl; intro H locs hW
  refine lv_aload_n hx hb dX4_begin_10 rfl (lv_at hl 0 rfl) ?_
  refine lv_iconst (v := 0) hx hb dX4_begin_11 (by decide) ?_
  refine sf_X4_stockTold X hW h0 m_2_15 dX4_begin_12 ?_
  clear hW; intro H locs hW
  refine nm_s hW h ?_
  clear hW h; intro σ_3 hW h
  refine lv_aload_n hx hb dX4_begin_15 rfl (lv_at hl 0 rfl) ?_
  refine lv_iconst (v := 0) hx hb dX4_begin_16 (by decide) ?_
  refine sf_X4_seedTold X hW (by decide) h0 m_2_16 dX4_begin_17 ?_
  clear hW; intro H locs hW
  refine nm_s hW h ?_
  clear hW h; intro σ_4 hW h
  refine lv_aload_n hx hb dX4_begin_20 rfl (lv_at hl 0 rfl) ?_
  refine lv_iconst (v := 0) hx hb dX4_begin_21 (by decide) ?_
  refine sf_X4_worthTold X hW (by decide) h0 m_2_17 dX4_begin_22 ?_
  clear hW; intro H locs hW
  refine nm_s hW h ?_
  clear hW h; intro σ_5 hW h
  exact rv_end hret h dX4_begin_25 hW
set_option maxRecDepth 20000 in
set_option maxHeartbeats 4000000 in
theorem bl_X4_readAhead_b72 (X : Cx G p R s m args c cells slots cX4_readAhead 6 RX4 4) {σ' : St} (hret : R_V G p l e R s m args below meth c cells slots Q cX4_readAhead σ') {k2 : Nat → Nat → Int32 → Int32 → St → (Option St)}
    (hk2 : ∀ (v0 : Nat) (h0 : kd v0 = 4) (v1 : Nat) (h1 : kd v1 = 11) (v2 : Int32) (v3 : Int32) (σ : St) (_ : k2 v0 v1 v2 v3 σ = some σ') (H : Heap) (locs : List Loc) (ls : Array Slot) (_ : GW G σ s H locs) (_ : lv_has ls 6 [(0, .ref (gz G + (v0))), (1, .ref (gz G + (v1))), (2, .int (v2)), (3, .int (v3))]), W p l e R s m args below meth c H locs cells slots Q (F0 m 2 ls [])) :
    ∀ (v0 : Nat) (h0 : kd v0 = 4) (v1 : Nat) (h1 : kd v1 = 11) (v2 : Int32) (v3 : Int32) (v5 : Int32) (σ : St) (_ : pf_X4_readAhead_b72 k2 v0 v1 v2 v3 v5 σ = some σ') (H : Heap) (locs : List Loc) (ls : Array Slot) (_ : GW G σ s H locs) (_ : lv_has ls 6 [(0, .ref (gz G + (v0))), (1, .ref (gz G + (v1))), (2, .int (v2)), (3, .int (v3)), (5, .int (v5))]), W p l e R s m args below meth c H locs cells slots Q (F0 m 72 ls []) := by
  have hx := X.1.1
  have hb := X.1.2.1
  intro v0 h0 v1 h1 v2 v3 v5 σ h H locs ls hW hl
  unfold pf_X4_readAhead_b72 at h
  refine lv_aload_n hx hb dX4_readAhead_72 rfl (lv_at hl 1 rfl) ?_
  refine lv_iload_n hx hb dX4_readAhead_73 rfl (lv_at hl 2 rfl) ?_
  refine lv_aload_n hx hb dX4_readAhead_74 rfl (lv_at hl 1 rfl) ?_
  refine lv_iload_n hx hb dX4_readAhead_75 rfl (lv_at hl 2 rfl) ?_
  obtain ⟨r_1, hcl, h⟩ := bind_el h
  refine call_SN1 X hW m_6_144 m_2_178 mv_X10_at (c_X10_at h1 hcl) (by decide) rfl rfl (Nat.le_of_ble_eq_true rfl) hl.1 dX4_readAhead_76 ?_
  clear hW hcl; intro H locs hW
  refine lv_iconst (v := 1) hx hb dX4_readAhead_79 (by decide) ?_
  refine lv_iload hx hb dX4_readAhead_80 (lv_at hl 4 rfl) ?_
  refine w_ishl hx hb dX4_readAhead_82 ?_
  refine lv_ior hx hb dX4_readAhead_83 ?_
  obtain ⟨σ_2, hcl, h⟩ := bind_el h
  refine call_SN0 X hW m_6_44 m_2_189 mv_X10_put (c_X10_put h1 hcl) (by decide) rfl rfl (Nat.le_of_ble_eq_true rfl) hl.1 dX4_readAhead_84 ?_
  clear hW hcl; intro H locs hW
  refine w_iinc (v := 1) (lv' := fun y => [(3, .int (y)), (0, .ref (gz G + (v0))), (1, .ref (gz G + (v1))), (2, .int (v2)), (5, .int (v5))]) hx hb dX4_readAhead_87 hl (k := 3) rfl (by decide) (by decide) (fun _ => rfl) h ?_
  clear h hl; intro v3_3 h ls hl
  refine lv_goto (tgt := 2) hx hb dX4_readAhead_90 (by decide) ?_
  exact hk2 v0 h0 v1 h1 v2 v3_3 σ_2 h _ _ _ hW (lv_sub hl [1, 2, 3, 0] rfl)
set_option maxRecDepth 20000 in
set_option maxHeartbeats 4000000 in
theorem bl_X4_readAhead_b26 (X : Cx G p R s m args c cells slots cX4_readAhead 6 RX4 4) {σ' : St} (hret : R_V G p l e R s m args below meth c cells slots Q cX4_readAhead σ') {k2 : Nat → Nat → Int32 → Int32 → St → (Option St)}
    (hk2 : ∀ (v0 : Nat) (h0 : kd v0 = 4) (v1 : Nat) (h1 : kd v1 = 11) (v2 : Int32) (v3 : Int32) (σ : St) (_ : k2 v0 v1 v2 v3 σ = some σ') (H : Heap) (locs : List Loc) (ls : Array Slot) (_ : GW G σ s H locs) (_ : lv_has ls 6 [(0, .ref (gz G + (v0))), (1, .ref (gz G + (v1))), (2, .int (v2)), (3, .int (v3))]), W p l e R s m args below meth c H locs cells slots Q (F0 m 2 ls [])) :
    ∀ (v0 : Nat) (h0 : kd v0 = 4) (v1 : Nat) (h1 : kd v1 = 11) (v2 : Int32) (v3 : Int32) (σ : St) (_ : pf_X4_readAhead_b26 k2 v0 v1 v2 v3 σ = some σ') (H : Heap) (locs : List Loc) (ls : Array Slot) (_ : GW G σ s H locs) (_ : lv_has ls 6 [(0, .ref (gz G + (v0))), (1, .ref (gz G + (v1))), (2, .int (v2)), (3, .int (v3))]), W p l e R s m args below meth c H locs cells slots Q (F0 m 26 ls []) := by
  have hx := X.1.1
  have hb := X.1.2.1
  intro v0 h0 v1 h1 v2 v3 σ h H locs ls hW hl
  unfold pf_X4_readAhead_b26 at h
  refine lv_aload_n hx hb dX4_readAhead_26 rfl (lv_at hl 0 rfl) ?_
  refine gf_X4_tokens X hW h0 m_2_12 dX4_readAhead_27 ?_
  obtain ⟨r_1, hcl, h⟩ := bind_el h
  refine call_V1 X hW (kC_X6 (kf_X4_tokens h0)) m_6_38 m_6_13 m_6_14 mv_X6_start (c_X6_start (kf_X4_tokens h0) hcl) (by decide) rfl rfl (Nat.le_of_ble_eq_true rfl) hl.1 dX4_readAhead_30 ?_
  clear hW hcl; intro H locs hW
  refine lv_istore (lv' := [(4, .int (r_1)), (0, .ref (gz G + (v0))), (1, .ref (gz G + (v1))), (2, .int (v2)), (3, .int (v3))]) hx hb dX4_readAhead_33 hl (by decide) rfl ?_
  clear hl; intro ls hl
  refine lv_aload_n hx hb dX4_readAhead_35 rfl (lv_at hl 1 rfl) ?_
  refine gf_X4_tokens X hW h0 m_2_12 dX4_readAhead_36 ?_
  refine lv_iconst (v := 0) hx hb dX4_readAhead_39 (by decide) ?_
  refine lv_iload_n hx hb dX4_readAhead_40 rfl (lv_at hl 3 rfl) ?_
  refine lv_iconst (v := 1) hx hb dX4_readAhead_41 (by decide) ?_
  refine lv_isub hx hb dX4_readAhead_42 ?_
  obtain ⟨r_2, σ_2, hcl, h⟩ := bnd2_el h
  refine call_V1 X hW (kC_X6 (kf_X4_tokens h0)) m_6_39 m_6_40 m_6_41 mv_X6_number (c_X6_number (kf_X4_tokens h0) hcl) (by decide) rfl rfl (Nat.le_of_ble_eq_true rfl) hl.1 dX4_readAhead_43 ?_
  clear hW hcl; intro H locs hW
  refine lv_istore (lv' := [(5, .int (r_2)), (4, .int (r_1)), (0, .ref (gz G + (v0))), (1, .ref (gz G + (v1))), (2, .int (v2)), (3, .int (v3))]) hx hb dX4_readAhead_46 hl (by decide) rfl ?_
  clear hl; intro ls hl
  refine lv_aload_n hx hb dX4_readAhead_48 rfl (lv_at hl 3 rfl) ?_
  refine lv_iload_n hx hb dX4_readAhead_49 rfl (lv_at hl 4 rfl) ?_
  obtain ⟨r_3, hcl, h⟩ := bind_el h
  refine call_SN1 X hW m_6_144 m_2_178 mv_X10_at (c_X10_at h1 hcl) (by decide) rfl rfl (Nat.le_of_ble_eq_true rfl) hl.1 dX4_readAhead_50 ?_
  clear hW hcl; intro H locs hW
  refine lv_iload hx hb dX4_readAhead_53 (lv_at hl 0 rfl) ?_
  refine w_iushr hx hb dX4_readAhead_55 ?_
  refine lv_iconst (v := 1) hx hb dX4_readAhead_56 (by decide) ?_
  refine lv_iand hx hb dX4_readAhead_57 ?_
  refine lv_if_eq (tgt := 72) hx hb dX4_readAhead_58 (by decide) (fun hc => ?_) (fun hc => ?_)
  · replace h := if_t hc h
    exact bl_X4_readAhead_b72 X hret hk2 v0 h0 v1 h1 v2 v3 r_2 σ_2 h _ _ _ hW (lv_sub hl [2, 3, 4, 5, 0] rfl)
  · replace h := if_f hc h
    refine lv_aload_n hx hb dX4_readAhead_61 rfl (lv_at hl 2 rfl) ?_
    refine gf_X4_tokens X hW h0 m_2_12 dX4_readAhead_62 ?_
    refine lv_bipush (v := (-4)) hx hb dX4_readAhead_65 (by decide) ?_
    refine lv_iload hx hb dX4_readAhead_67 (lv_at hl 1 rfl) ?_
    obtain ⟨σ_4, hcl, h⟩ := bind_el h
    refine call_V0 X hW (kC_X6 (kf_X4_tokens h0)) m_6_43 m_6_17 m_6_18 mv_X6_fail (c_X6_fail (kf_X4_tokens h0) hcl) (by decide) rfl rfl (Nat.le_of_ble_eq_true rfl) hl.1 dX4_readAhead_69 ?_
    clear hW hcl; intro H locs hW
    exact bl_X4_readAhead_b72 X hret hk2 v0 h0 v1 h1 v2 v3 r_2 σ_4 h _ _ _ hW (lv_sub hl [2, 3, 4, 5, 0] rfl)
set_option maxRecDepth 20000 in
set_option maxHeartbeats 4000000 in
theorem bl_X4_readAhead_L2 (X : Cx G p R s m args c cells slots cX4_readAhead 6 RX4 4) {σ' : St} (hret : R_V G p l e R s m args below meth c cells slots Q cX4_readAhead σ') :
    ∀ (n : Nat), ∀ (v0 : Nat) (h0 : kd v0 = 4) (v1 : Nat) (h1 : kd v1 = 11) (v2 : Int32) (v3 : Int32) (σ : St) (_ : pf_X4_readAhead_L2 n v0 v1 v2 v3 σ = some σ') (H : Heap) (locs : List Loc) (ls : Array Slot) (_ : GW G σ s H locs) (_ : lv_has ls 6 [(0, .ref (gz G + (v0))), (1, .ref (gz G + (v1))), (2, .int (v2)), (3, .int (v3))]), W p l e R s m args below meth c H locs cells slots Q (F0 m 2 ls []) := by
  have hx := X.1.1
  have hb := X.1.2.1
  intro n
  induction n with
  | zero => intro v0 h0 v1 h1 v2 v3 σ h H locs ls hW hl; cases h
  | succ n ih =>
    intro v0 h0 v1 h1 v2 v3 σ h H locs ls hW hl
    rw [pf_X4_readAhead_L2.eq_2] at h
    refine lv_iload_n hx hb dX4_readAhead_2 rfl (lv_at hl 3 rfl) ?_
    refine lv_sipush (v := 800) hx hb dX4_readAhead_3 (by decide) ?_
    refine lv_icmp_ge (tgt := 93) hx hb dX4_readAhead_6 (by decide) (fun hc => ?_) (fun hc => ?_)
    · replace h := if_t hc h
      exact rv_end hret h dX4_readAhead_93 hW
    · replace h := if_f hc h
      refine lv_iload_n hx hb dX4_readAhead_9 rfl (lv_at hl 3 rfl) ?_
      refine lv_if_eq (tgt := 26) hx hb dX4_readAhead_10 (by decide) (fun hc => ?_) (fun hc => ?_)
      · replace h := if_t hc h
        exact bl_X4_readAhead_b26 X hret ih v0 h0 v1 h1 v2 v3 σ h _ _ _ hW (lv_sub hl [0, 1, 2, 3] rfl)
      · replace h := if_f hc h
        refine lv_aload_n hx hb dX4_readAhead_13 rfl (lv_at hl 0 rfl) ?_
        refine gf_X4_tokens X hW h0 m_2_12 dX4_readAhead_14 ?_
        obtain ⟨r_1, hcl, h⟩ := bind_el h
        refine call_V1 X hW (kC_X6 (kf_X4_tokens h0)) m_6_26 m_6_7 m_6_8 mv_X6_ahead (c_X6_ahead (kf_X4_tokens h0) hcl) (by decide) rfl rfl (Nat.le_of_ble_eq_true rfl) hl.1 dX4_readAhead_17 ?_
        clear hW hcl; intro H locs hW
        refine r_gtok (k := 0) X hW (by decide) m_6_37 dX4_readAhead_20 ?_
        refine r_acmp_ne (a := r_1) (b := some 0) (tgt := 93) X hx hb dX4_readAhead_23 (by decide) (fun hc => ?_) (fun hc => ?_)
        · replace h := if_f hc h
          exact rv_end hret h dX4_readAhead_93 hW
        · replace h := if_t hc h
          exact bl_X4_readAhead_b26 X hret ih v0 h0 v1 h1 v2 v3 σ h _ _ _ hW (lv_sub hl [0, 1, 2, 3] rfl)
set_option maxRecDepth 20000 in
set_option maxHeartbeats 4000000 in
theorem c_X4_readAhead {G : Gt} {l : Launch} {v0 : Nat} (h0 : kd v0 = 4) {v1 : Nat} (h1 : kd v1 = 11) {v2 : Int32} {σ : St} {σ' : St} (hf : pf_X4_readAhead v0 v1 v2 σ = some σ') : Ct G l yX4_readAhead cX4_readAhead 6 none 4 [.ref (gz G + (v0)), .ref (gz G + (v1)), .int (v2)] σ none σ' := by
  refine met_v (by decide +kernel) (Nat.le_of_ble_eq_true rfl) rfl ?_
  intro p e s m args below meth c Q ls X hW hret hl
  have hx := X.1.1
  have hb := X.1.2.1
  have hl : lv_has ls 6 [(0, .ref (gz G + (v0))), (1, .ref (gz G + (v1))), (2, .int (v2))] := hl
  have h := hf
  clear hf
  unfold pf_X4_readAhead at h
  refine lv_iconst (v := 0) hx hb dX4_readAhead_0 (by decide) ?_
  refine lv_istore_n (lv' := [(3, .int (0)), (0, .ref (gz G + (v0))), (1, .ref (gz G + (v1))), (2, .int (v2))]) hx hb dX4_readAhead_1 rfl hl (by decide) rfl ?_
  clear hl; intro ls hl
  exact bl_X4_readAhead_L2 X hret FU v0 h0 v1 h1 v2 0 σ h _ _ _ hW (lv_sub hl [1, 2, 3, 0] rfl)
set_option maxRecDepth 20000 in
set_option maxHeartbeats 4000000 in
theorem bl_X4_readAmounts_b72 (X : Cx G p R s m args c cells slots cX4_readAmounts 6 RX4 4) {σ' : St} (hret : R_V G p l e R s m args below meth c cells slots Q cX4_readAmounts σ') {k2 : Nat → Nat → Int32 → Int32 → St → (Option St)}
    (hk2 : ∀ (v0 : Nat) (h0 : kd v0 = 4) (v1 : Nat) (h1 : kd v1 = 11) (v2 : Int32) (v3 : Int32) (σ : St) (_ : k2 v0 v1 v2 v3 σ = some σ') (H : Heap) (locs : List Loc) (ls : Array Slot) (_ : GW G σ s H locs) (_ : lv_has ls 6 [(0, .ref (gz G + (v0))), (1, .ref (gz G + (v1))), (2, .int (v2)), (3, .int (v3))]), W p l e R s m args below meth c H locs cells slots Q (F0 m 2 ls [])) :
    ∀ (v0 : Nat) (h0 : kd v0 = 4) (v1 : Nat) (h1 : kd v1 = 11) (v2 : Int32) (v3 : Int32) (v5 : Int32) (σ : St) (_ : pf_X4_readAmounts_b72 k2 v0 v1 v2 v3 v5 σ = some σ') (H : Heap) (locs : List Loc) (ls : Array Slot) (_ : GW G σ s H locs) (_ : lv_has ls 6 [(0, .ref (gz G + (v0))), (1, .ref (gz G + (v1))), (2, .int (v2)), (3, .int (v3)), (5, .int (v5))]), W p l e R s m args below meth c H locs cells slots Q (F0 m 72 ls []) := by
  have hx := X.1.1
  have hb := X.1.2.1
  intro v0 h0 v1 h1 v2 v3 v5 σ h H locs ls hW hl
  unfold pf_X4_readAmounts_b72 at h
  refine lv_aload_n hx hb dX4_readAmounts_72 rfl (lv_at hl 1 rfl) ?_
  refine lv_iload hx hb dX4_readAmounts_73 (lv_at hl 4 rfl) ?_
  refine lv_aload_n hx hb dX4_readAmounts_75 rfl (lv_at hl 0 rfl) ?_
  refine gf_X4_tokens X hW h0 m_2_12 dX4_readAmounts_76 ?_
  refine lv_iconst (v := 1) hx hb dX4_readAmounts_79 (by decide) ?_
  refine lv_bipush (v := 99) hx hb dX4_readAmounts_80 (by decide) ?_
  obtain ⟨r_1, σ_1, hcl, h⟩ := bnd2_el h
  refine call_V1 X hW (kC_X6 (kf_X4_tokens h0)) m_6_39 m_6_40 m_6_41 mv_X6_number (c_X6_number (kf_X4_tokens h0) hcl) (by decide) rfl rfl (Nat.le_of_ble_eq_true rfl) hl.1 dX4_readAmounts_82 ?_
  clear hW hcl; intro H locs hW
  obtain ⟨σ_2, hcl, h⟩ := bind_el h
  refine call_SN0 X hW m_6_44 m_2_189 mv_X10_put (c_X10_put h1 hcl) (by decide) rfl rfl (Nat.le_of_ble_eq_true rfl) hl.1 dX4_readAmounts_85 ?_
  clear hW hcl; intro H locs hW
  refine w_iinc (v := 1) (lv' := fun y => [(3, .int (y)), (0, .ref (gz G + (v0))), (1, .ref (gz G + (v1))), (2, .int (v2)), (5, .int (v5))]) hx hb dX4_readAmounts_88 hl (k := 3) rfl (by decide) (by decide) (fun _ => rfl) h ?_
  clear h hl; intro v3_3 h ls hl
  refine lv_goto (tgt := 2) hx hb dX4_readAmounts_91 (by decide) ?_
  exact hk2 v0 h0 v1 h1 v2 v3_3 σ_2 h _ _ _ hW (lv_sub hl [1, 2, 3, 0] rfl)
set_option maxRecDepth 20000 in
set_option maxHeartbeats 4000000 in
theorem bl_X4_readAmounts_b26 (X : Cx G p R s m args c cells slots cX4_readAmounts 6 RX4 4) {σ' : St} (hret : R_V G p l e R s m args below meth c cells slots Q cX4_readAmounts σ') {k2 : Nat → Nat → Int32 → Int32 → St → (Option St)}
    (hk2 : ∀ (v0 : Nat) (h0 : kd v0 = 4) (v1 : Nat) (h1 : kd v1 = 11) (v2 : Int32) (v3 : Int32) (σ : St) (_ : k2 v0 v1 v2 v3 σ = some σ') (H : Heap) (locs : List Loc) (ls : Array Slot) (_ : GW G σ s H locs) (_ : lv_has ls 6 [(0, .ref (gz G + (v0))), (1, .ref (gz G + (v1))), (2, .int (v2)), (3, .int (v3))]), W p l e R s m args below meth c H locs cells slots Q (F0 m 2 ls [])) :
    ∀ (v0 : Nat) (h0 : kd v0 = 4) (v1 : Nat) (h1 : kd v1 = 11) (v2 : Int32) (v3 : Int32) (σ : St) (_ : pf_X4_readAmounts_b26 k2 v0 v1 v2 v3 σ = some σ') (H : Heap) (locs : List Loc) (ls : Array Slot) (_ : GW G σ s H locs) (_ : lv_has ls 6 [(0, .ref (gz G + (v0))), (1, .ref (gz G + (v1))), (2, .int (v2)), (3, .int (v3))]), W p l e R s m args below meth c H locs cells slots Q (F0 m 26 ls []) := by
  have hx := X.1.1
  have hb := X.1.2.1
  intro v0 h0 v1 h1 v2 v3 σ h H locs ls hW hl
  unfold pf_X4_readAmounts_b26 at h
  refine lv_aload_n hx hb dX4_readAmounts_26 rfl (lv_at hl 0 rfl) ?_
  refine gf_X4_tokens X hW h0 m_2_12 dX4_readAmounts_27 ?_
  obtain ⟨r_1, hcl, h⟩ := bind_el h
  refine call_V1 X hW (kC_X6 (kf_X4_tokens h0)) m_6_38 m_6_13 m_6_14 mv_X6_start (c_X6_start (kf_X4_tokens h0) hcl) (by decide) rfl rfl (Nat.le_of_ble_eq_true rfl) hl.1 dX4_readAmounts_30 ?_
  clear hW hcl; intro H locs hW
  refine lv_istore (lv' := [(4, .int (r_1)), (0, .ref (gz G + (v0))), (1, .ref (gz G + (v1))), (2, .int (v2)), (3, .int (v3))]) hx hb dX4_readAmounts_33 hl (by decide) rfl ?_
  clear hl; intro ls hl
  refine lv_iload_n hx hb dX4_readAmounts_35 rfl (lv_at hl 3 rfl) ?_
  refine lv_bipush (v := 8) hx hb dX4_readAmounts_36 (by decide) ?_
  refine lv_imul hx hb dX4_readAmounts_38 ?_
  refine lv_aload_n hx hb dX4_readAmounts_39 rfl (lv_at hl 1 rfl) ?_
  refine gf_X4_tokens X hW h0 m_2_12 dX4_readAmounts_40 ?_
  refine lv_iconst (v := 0) hx hb dX4_readAmounts_43 (by decide) ?_
  refine lv_bipush (v := 7) hx hb dX4_readAmounts_44 (by decide) ?_
  obtain ⟨r_2, σ_2, hcl, h⟩ := bnd2_el h
  refine call_V1 X hW (kC_X6 (kf_X4_tokens h0)) m_6_39 m_6_40 m_6_41 mv_X6_number (c_X6_number (kf_X4_tokens h0) hcl) (by decide) rfl rfl (Nat.le_of_ble_eq_true rfl) hl.1 dX4_readAmounts_46 ?_
  clear hW hcl; intro H locs hW
  refine lv_iadd hx hb dX4_readAmounts_49 ?_
  refine nm_i h ?_
  clear h; intro v5_3 h
  refine lv_istore (lv' := [(5, .int (v5_3)), (4, .int (r_1)), (0, .ref (gz G + (v0))), (1, .ref (gz G + (v1))), (2, .int (v2)), (3, .int (v3))]) hx hb dX4_readAmounts_50 hl (by decide) rfl ?_
  clear hl; intro ls hl
  refine lv_aload_n hx hb dX4_readAmounts_52 rfl (lv_at hl 3 rfl) ?_
  refine lv_iload hx hb dX4_readAmounts_53 (lv_at hl 0 rfl) ?_
  obtain ⟨r_4, hcl, h⟩ := bind_el h
  refine call_SN1 X hW m_6_144 m_2_178 mv_X10_at (c_X10_at h1 hcl) (by decide) rfl rfl (Nat.le_of_ble_eq_true rfl) hl.1 dX4_readAmounts_55 ?_
  clear hW hcl; intro H locs hW
  refine lv_if_le (tgt := 72) hx hb dX4_readAmounts_58 (by decide) (fun hc => ?_) (fun hc => ?_)
  · replace h := if_t hc h
    exact bl_X4_readAmounts_b72 X hret hk2 v0 h0 v1 h1 v2 v3 v5_3 σ_2 h _ _ _ hW (lv_sub hl [2, 3, 4, 5, 0] rfl)
  · replace h := if_f hc h
    refine lv_aload_n hx hb dX4_readAmounts_61 rfl (lv_at hl 2 rfl) ?_
    refine gf_X4_tokens X hW h0 m_2_12 dX4_readAmounts_62 ?_
    refine lv_bipush (v := (-4)) hx hb dX4_readAmounts_65 (by decide) ?_
    refine lv_iload hx hb dX4_readAmounts_67 (lv_at hl 1 rfl) ?_
    obtain ⟨σ_5, hcl, h⟩ := bind_el h
    refine call_V0 X hW (kC_X6 (kf_X4_tokens h0)) m_6_43 m_6_17 m_6_18 mv_X6_fail (c_X6_fail (kf_X4_tokens h0) hcl) (by decide) rfl rfl (Nat.le_of_ble_eq_true rfl) hl.1 dX4_readAmounts_69 ?_
    clear hW hcl; intro H locs hW
    exact bl_X4_readAmounts_b72 X hret hk2 v0 h0 v1 h1 v2 v3 v5_3 σ_5 h _ _ _ hW (lv_sub hl [2, 3, 4, 5, 0] rfl)
set_option maxRecDepth 20000 in
set_option maxHeartbeats 4000000 in
theorem bl_X4_readAmounts_L2 (X : Cx G p R s m args c cells slots cX4_readAmounts 6 RX4 4) {σ' : St} (hret : R_V G p l e R s m args below meth c cells slots Q cX4_readAmounts σ') :
    ∀ (n : Nat), ∀ (v0 : Nat) (h0 : kd v0 = 4) (v1 : Nat) (h1 : kd v1 = 11) (v2 : Int32) (v3 : Int32) (σ : St) (_ : pf_X4_readAmounts_L2 n v0 v1 v2 v3 σ = some σ') (H : Heap) (locs : List Loc) (ls : Array Slot) (_ : GW G σ s H locs) (_ : lv_has ls 6 [(0, .ref (gz G + (v0))), (1, .ref (gz G + (v1))), (2, .int (v2)), (3, .int (v3))]), W p l e R s m args below meth c H locs cells slots Q (F0 m 2 ls []) := by
  have hx := X.1.1
  have hb := X.1.2.1
  intro n
  induction n with
  | zero => intro v0 h0 v1 h1 v2 v3 σ h H locs ls hW hl; cases h
  | succ n ih =>
    intro v0 h0 v1 h1 v2 v3 σ h H locs ls hW hl
    rw [pf_X4_readAmounts_L2.eq_2] at h
    refine lv_iload_n hx hb dX4_readAmounts_2 rfl (lv_at hl 3 rfl) ?_
    refine lv_sipush (v := 800) hx hb dX4_readAmounts_3 (by decide) ?_
    refine lv_icmp_ge (tgt := 94) hx hb dX4_readAmounts_6 (by decide) (fun hc => ?_) (fun hc => ?_)
    · replace h := if_t hc h
      exact rv_end hret h dX4_readAmounts_94 hW
    · replace h := if_f hc h
      refine lv_iload_n hx hb dX4_readAmounts_9 rfl (lv_at hl 3 rfl) ?_
      refine lv_if_eq (tgt := 26) hx hb dX4_readAmounts_10 (by decide) (fun hc => ?_) (fun hc => ?_)
      · replace h := if_t hc h
        exact bl_X4_readAmounts_b26 X hret ih v0 h0 v1 h1 v2 v3 σ h _ _ _ hW (lv_sub hl [0, 1, 2, 3] rfl)
      · replace h := if_f hc h
        refine lv_aload_n hx hb dX4_readAmounts_13 rfl (lv_at hl 0 rfl) ?_
        refine gf_X4_tokens X hW h0 m_2_12 dX4_readAmounts_14 ?_
        obtain ⟨r_1, hcl, h⟩ := bind_el h
        refine call_V1 X hW (kC_X6 (kf_X4_tokens h0)) m_6_26 m_6_7 m_6_8 mv_X6_ahead (c_X6_ahead (kf_X4_tokens h0) hcl) (by decide) rfl rfl (Nat.le_of_ble_eq_true rfl) hl.1 dX4_readAmounts_17 ?_
        clear hW hcl; intro H locs hW
        refine r_gtok (k := 0) X hW (by decide) m_6_37 dX4_readAmounts_20 ?_
        refine r_acmp_ne (a := r_1) (b := some 0) (tgt := 94) X hx hb dX4_readAmounts_23 (by decide) (fun hc => ?_) (fun hc => ?_)
        · replace h := if_f hc h
          exact rv_end hret h dX4_readAmounts_94 hW
        · replace h := if_t hc h
          exact bl_X4_readAmounts_b26 X hret ih v0 h0 v1 h1 v2 v3 σ h _ _ _ hW (lv_sub hl [0, 1, 2, 3] rfl)
set_option maxRecDepth 20000 in
set_option maxHeartbeats 4000000 in
theorem c_X4_readAmounts {G : Gt} {l : Launch} {v0 : Nat} (h0 : kd v0 = 4) {v1 : Nat} (h1 : kd v1 = 11) {v2 : Int32} {σ : St} {σ' : St} (hf : pf_X4_readAmounts v0 v1 v2 σ = some σ') : Ct G l yX4_readAmounts cX4_readAmounts 6 none 4 [.ref (gz G + (v0)), .ref (gz G + (v1)), .int (v2)] σ none σ' := by
  refine met_v (by decide +kernel) (Nat.le_of_ble_eq_true rfl) rfl ?_
  intro p e s m args below meth c Q ls X hW hret hl
  have hx := X.1.1
  have hb := X.1.2.1
  have hl : lv_has ls 6 [(0, .ref (gz G + (v0))), (1, .ref (gz G + (v1))), (2, .int (v2))] := hl
  have h := hf
  clear hf
  unfold pf_X4_readAmounts at h
  refine lv_iconst (v := 0) hx hb dX4_readAmounts_0 (by decide) ?_
  refine lv_istore_n (lv' := [(3, .int (0)), (0, .ref (gz G + (v0))), (1, .ref (gz G + (v1))), (2, .int (v2))]) hx hb dX4_readAmounts_1 rfl hl (by decide) rfl ?_
  clear hl; intro ls hl
  exact bl_X4_readAmounts_L2 X hret FU v0 h0 v1 h1 v2 0 σ h _ _ _ hW (lv_sub hl [1, 2, 3, 0] rfl)
set_option maxRecDepth 20000 in
set_option maxHeartbeats 4000000 in
theorem bl_X4_readPart_b140 (X : Cx G p R s m args c cells slots cX4_readPart 4 RX4 5) {σ' : St} (hret : R_V G p l e R s m args below meth c cells slots Q cX4_readPart σ') :
    ∀ (v1 : Nat) (h1 : kd v1 = 3) (v2 : Int32) (σ : St) (_ : pf_X4_readPart_b140 v1 v2 σ = some σ') (H : Heap) (locs : List Loc) (ls : Array Slot) (_ : GW G σ s H locs) (_ : lv_has ls 4 [(1, .ref (gz G + (v1))), (2, .int (v2))]), W p l e R s m args below meth c H locs cells slots Q (F0 m 140 ls []) := by
  have hx := X.1.1
  have hb := X.1.2.1
  intro v1 h1 v2 σ h H locs ls hW hl
  unfold pf_X4_readPart_b140 at h
  refine lv_aload_n hx hb dX4_readPart_140 rfl (lv_at hl 0 rfl) ?_
  refine gf_X3_costly X hW h1 m_1_99 dX4_readPart_141 ?_
  refine lv_iload_n hx hb dX4_readPart_144 rfl (lv_at hl 1 rfl) ?_
  refine lv_iconst (v := 1) hx hb dX4_readPart_145 (by decide) ?_
  obtain ⟨σ_1, hcl, h⟩ := bind_el h
  refine call_SN0 X hW m_6_44 m_2_189 mv_X10_put (c_X10_put (kf_X3_costly h1) hcl) (by decide) rfl rfl (Nat.le_of_ble_eq_true rfl) hl.1 dX4_readPart_146 ?_
  clear hW hcl; intro H locs hW
  exact rv_end hret h dX4_readPart_149 hW
set_option maxRecDepth 20000 in
set_option maxHeartbeats 4000000 in
theorem c_X4_readPart {G : Gt} {l : Launch} {v0 : Nat} (h0 : kd v0 = 4) {v1 : Nat} (h1 : kd v1 = 3) {v2 : Int32} {σ : St} {σ' : St} (hf : pf_X4_readPart v0 v1 v2 σ = some σ') : Ct G l yX4_readPart cX4_readPart 4 none 5 [.ref (gz G + (v0)), .ref (gz G + (v1)), .int (v2)] σ none σ' := by
  refine met_v (by decide +kernel) (Nat.le_of_ble_eq_true rfl) rfl ?_
  intro p e s m args below meth c Q ls X hW hret hl
  have hx := X.1.1
  have hb := X.1.2.1
  have hl : lv_has ls 4 [(0, .ref (gz G + (v0))), (1, .ref (gz G + (v1))), (2, .int (v2))] := hl
  have h := hf
  clear hf
  unfold pf_X4_readPart at h
  refine lv_aload_n hx hb dX4_readPart_0 rfl (lv_at hl 0 rfl) ?_
  refine gf_X4_tokens X hW h0 m_2_12 dX4_readPart_1 ?_
  obtain ⟨r_1, hcl, h⟩ := bind_el h
  refine call_V1 X hW (kC_X6 (kf_X4_tokens h0)) m_6_38 m_6_13 m_6_14 mv_X6_start (c_X6_start (kf_X4_tokens h0) hcl) (by decide) rfl rfl (Nat.le_of_ble_eq_true rfl) hl.1 dX4_readPart_4 ?_
  clear hW hcl; intro H locs hW
  refine lv_istore_n (lv' := [(3, .int (r_1)), (0, .ref (gz G + (v0))), (1, .ref (gz G + (v1))), (2, .int (v2))]) hx hb dX4_readPart_7 rfl hl (by decide) rfl ?_
  clear hl; intro ls hl
  refine lv_aload_n hx hb dX4_readPart_8 rfl (lv_at hl 1 rfl) ?_
  refine gf_X4_tokens X hW h0 m_2_12 dX4_readPart_9 ?_
  refine r_gtok (k := 11) X hW (by decide) m_6_135 dX4_readPart_12 ?_
  obtain ⟨r_2, σ_2, hcl, h⟩ := bnd2_el h
  refine call_V1 X hW (kC_X6 (kf_X4_tokens h0)) m_6_136 m_6_137 m_6_138 mv_X6_take (c_X6_take (kf_X4_tokens h0) hcl) (by decide) rfl rfl (Nat.le_of_ble_eq_true rfl) hl.1 dX4_readPart_15 ?_
  clear hW hcl; intro H locs hW
  refine lv_if_eq (tgt := 33) hx hb dX4_readPart_18 (by decide) (fun hc => ?_) (fun hc => ?_)
  · replace h := if_t hc h
    refine lv_aload_n hx hb dX4_readPart_33 rfl (lv_at hl 1 rfl) ?_
    refine gf_X4_tokens X hW h0 m_2_12 dX4_readPart_34 ?_
    refine r_gtok (k := 12) X hW (by decide) m_6_145 dX4_readPart_37 ?_
    obtain ⟨r_3, σ_3, hcl, h⟩ := bnd2_el h
    refine call_V1 X hW (kC_X6 (kf_X4_tokens h0)) m_6_136 m_6_137 m_6_138 mv_X6_take (c_X6_take (kf_X4_tokens h0) hcl) (by decide) rfl rfl (Nat.le_of_ble_eq_true rfl) hl.1 dX4_readPart_40 ?_
    clear hW hcl; intro H locs hW
    refine lv_if_eq (tgt := 58) hx hb dX4_readPart_43 (by decide) (fun hc => ?_) (fun hc => ?_)
    · replace h := if_t hc h
      refine lv_aload_n hx hb dX4_readPart_58 rfl (lv_at hl 1 rfl) ?_
      refine gf_X4_tokens X hW h0 m_2_12 dX4_readPart_59 ?_
      refine r_gtok (k := 13) X hW (by decide) m_6_146 dX4_readPart_62 ?_
      obtain ⟨r_4, σ_4, hcl, h⟩ := bnd2_el h
      refine call_V1 X hW (kC_X6 (kf_X4_tokens h0)) m_6_136 m_6_137 m_6_138 mv_X6_take (c_X6_take (kf_X4_tokens h0) hcl) (by decide) rfl rfl (Nat.le_of_ble_eq_true rfl) hl.1 dX4_readPart_65 ?_
      clear hW hcl; intro H locs hW
      refine lv_if_eq (tgt := 83) hx hb dX4_readPart_68 (by decide) (fun hc => ?_) (fun hc => ?_)
      · replace h := if_t hc h
        refine lv_aload_n hx hb dX4_readPart_83 rfl (lv_at hl 1 rfl) ?_
        refine gf_X4_tokens X hW h0 m_2_12 dX4_readPart_84 ?_
        refine r_gtok (k := 14) X hW (by decide) m_6_147 dX4_readPart_87 ?_
        obtain ⟨r_5, σ_5, hcl, h⟩ := bnd2_el h
        refine call_V1 X hW (kC_X6 (kf_X4_tokens h0)) m_6_136 m_6_137 m_6_138 mv_X6_take (c_X6_take (kf_X4_tokens h0) hcl) (by decide) rfl rfl (Nat.le_of_ble_eq_true rfl) hl.1 dX4_readPart_90 ?_
        clear hW hcl; intro H locs hW
        refine lv_if_eq (tgt := 108) hx hb dX4_readPart_93 (by decide) (fun hc => ?_) (fun hc => ?_)
        · replace h := if_t hc h
          refine lv_aload_n hx hb dX4_readPart_108 rfl (lv_at hl 1 rfl) ?_
          refine gf_X4_tokens X hW h0 m_2_12 dX4_readPart_109 ?_
          refine r_gtok (k := 15) X hW (by decide) m_6_152 dX4_readPart_112 ?_
          obtain ⟨σ_6, hcl, h⟩ := bind_el h
          refine call_V0 X hW (kC_X6 (kf_X4_tokens h0)) m_6_2 m_6_3 m_6_4 mv_X6_expect (c_X6_expect (kf_X4_tokens h0) hcl) (by decide) rfl rfl (Nat.le_of_ble_eq_true rfl) hl.1 dX4_readPart_115 ?_
          clear hW hcl; intro H locs hW
          refine lv_aload_n hx hb dX4_readPart_118 rfl (lv_at hl 2 rfl) ?_
          refine gf_X3_costly X hW h1 m_1_99 dX4_readPart_119 ?_
          refine lv_iload_n hx hb dX4_readPart_122 rfl (lv_at hl 3 rfl) ?_
          obtain ⟨r_7, hcl, h⟩ := bind_el h
          refine call_SN1 X hW m_6_144 m_2_178 mv_X10_at (c_X10_at (kf_X3_costly h1) hcl) (by decide) rfl rfl (Nat.le_of_ble_eq_true rfl) hl.1 dX4_readPart_123 ?_
          clear hW hcl; intro H locs hW
          refine lv_iconst (v := 1) hx hb dX4_readPart_126 (by decide) ?_
          refine lv_icmp_ne (tgt := 140) hx hb dX4_readPart_127 (by decide) (fun hc => ?_) (fun hc => ?_)
          · replace h := if_f hc h
            exact bl_X4_readPart_b140 X hret v1 h1 v2 σ_6 h _ _ _ hW (lv_sub hl [2, 3] rfl)
          · replace h := if_t hc h
            refine lv_aload_n hx hb dX4_readPart_130 rfl (lv_at hl 1 rfl) ?_
            refine gf_X4_tokens X hW h0 m_2_12 dX4_readPart_131 ?_
            refine lv_bipush (v := (-2)) hx hb dX4_readPart_134 (by decide) ?_
            refine lv_iload_n hx hb dX4_readPart_136 rfl (lv_at hl 0 rfl) ?_
            obtain ⟨σ_8, hcl, h⟩ := bind_el h
            refine call_V0 X hW (kC_X6 (kf_X4_tokens h0)) m_6_43 m_6_17 m_6_18 mv_X6_fail (c_X6_fail (kf_X4_tokens h0) hcl) (by decide) rfl rfl (Nat.le_of_ble_eq_true rfl) hl.1 dX4_readPart_137 ?_
            clear hW hcl; intro H locs hW
            exact bl_X4_readPart_b140 X hret v1 h1 v2 σ_8 h _ _ _ hW (lv_sub hl [2, 3] rfl)
        · replace h := if_f hc h
          refine lv_aload_n hx hb dX4_readPart_96 rfl (lv_at hl 1 rfl) ?_
          refine lv_aload_n hx hb dX4_readPart_97 rfl (lv_at hl 2 rfl) ?_
          refine gf_X3_ahead X hW h1 m_1_95 dX4_readPart_98 ?_
          refine lv_iload_n hx hb dX4_readPart_101 rfl (lv_at hl 3 rfl) ?_
          obtain ⟨σ_9, hcl, h⟩ := bind_el h
          refine call_V0 X hW (kC_X4 h0) m_6_148 m_6_150 m_0_28 mv_X4_readAhead (c_X4_readAhead h0 (kf_X3_ahead h1) hcl) (by decide) rfl rfl (Nat.le_of_ble_eq_true rfl) hl.1 dX4_readPart_102 ?_
          clear hW hcl; intro H locs hW
          refine lv_goto (tgt := 149) hx hb dX4_readPart_105 (by decide) ?_
          exact rv_end hret h dX4_readPart_149 hW
      · replace h := if_f hc h
        refine lv_aload_n hx hb dX4_readPart_71 rfl (lv_at hl 1 rfl) ?_
        refine lv_aload_n hx hb dX4_readPart_72 rfl (lv_at hl 2 rfl) ?_
        refine gf_X3_gives X hW h1 m_1_109 dX4_readPart_73 ?_
        refine lv_iload_n hx hb dX4_readPart_76 rfl (lv_at hl 3 rfl) ?_
        obtain ⟨σ_10, hcl, h⟩ := bind_el h
        refine call_V0 X hW (kC_X4 h0) m_6_140 m_6_142 m_0_27 mv_X4_readAmounts (c_X4_readAmounts h0 (kf_X3_gives h1) hcl) (by decide) rfl rfl (Nat.le_of_ble_eq_true rfl) hl.1 dX4_readPart_77 ?_
        clear hW hcl; intro H locs hW
        refine lv_goto (tgt := 149) hx hb dX4_readPart_80 (by decide) ?_
        exact rv_end hret h dX4_readPart_149 hW
    · replace h := if_f hc h
      refine lv_aload_n hx hb dX4_readPart_46 rfl (lv_at hl 1 rfl) ?_
      refine lv_aload_n hx hb dX4_readPart_47 rfl (lv_at hl 2 rfl) ?_
      refine gf_X3_needs X hW h1 m_1_105 dX4_readPart_48 ?_
      refine lv_iload_n hx hb dX4_readPart_51 rfl (lv_at hl 3 rfl) ?_
      obtain ⟨σ_11, hcl, h⟩ := bind_el h
      refine call_V0 X hW (kC_X4 h0) m_6_140 m_6_142 m_0_27 mv_X4_readAmounts (c_X4_readAmounts h0 (kf_X3_needs h1) hcl) (by decide) rfl rfl (Nat.le_of_ble_eq_true rfl) hl.1 dX4_readPart_52 ?_
      clear hW hcl; intro H locs hW
      refine lv_goto (tgt := 149) hx hb dX4_readPart_55 (by decide) ?_
      exact rv_end hret h dX4_readPart_149 hW
  · replace h := if_f hc h
    refine lv_aload_n hx hb dX4_readPart_21 rfl (lv_at hl 1 rfl) ?_
    refine lv_aload_n hx hb dX4_readPart_22 rfl (lv_at hl 2 rfl) ?_
    refine gf_X3_uses X hW h1 m_1_103 dX4_readPart_23 ?_
    refine lv_iload_n hx hb dX4_readPart_26 rfl (lv_at hl 3 rfl) ?_
    obtain ⟨σ_12, hcl, h⟩ := bind_el h
    refine call_V0 X hW (kC_X4 h0) m_6_140 m_6_142 m_0_27 mv_X4_readAmounts (c_X4_readAmounts h0 (kf_X3_uses h1) hcl) (by decide) rfl rfl (Nat.le_of_ble_eq_true rfl) hl.1 dX4_readPart_27 ?_
    clear hW hcl; intro H locs hW
    refine lv_goto (tgt := 149) hx hb dX4_readPart_30 (by decide) ?_
    exact rv_end hret h dX4_readPart_149 hW
set_option maxRecDepth 20000 in
set_option maxHeartbeats 4000000 in
theorem c_X5_beginsPart {G : Gt} {l : Launch} {v0 : Nat} (h0 : v0 < 32) {σ : St} {r : Int32} (hf : pf_X5_beginsPart v0 σ = some r) : Ct G l yX5_beginsPart cX5_beginsPart 1 (some .boolean) 2 [.ref (gad G (v0))] σ (some (.int r)) σ := by
  refine met_z (by decide +kernel) (Nat.le_of_ble_eq_true rfl) rfl ?_
  intro p e s m args below meth c Q ls X hW hret hl
  have hx := X.1.1
  have hb := X.1.2.1
  have hl : lv_has ls 1 [(0, .ref (gad G (v0)))] := hl
  have h := hf
  clear hf
  unfold pf_X5_beginsPart at h
  refine lv_aload_n hx hb dX5_beginsPart_0 rfl (lv_at hl 0 rfl) ?_
  refine r_gtok (k := 11) X hW (by decide) m_6_121 dX5_beginsPart_1 ?_
  refine r_acmp_eq (a := some v0) (b := some 11) (tgt := 35) X hx hb dX5_beginsPart_4 (by decide) (fun hc => ?_) (fun hc => ?_)
  · replace h := if_t hc h
    refine lv_iconst (v := 1) hx hb dX5_beginsPart_35 (by decide) ?_
    refine lv_goto (tgt := 40) hx hb dX5_beginsPart_36 (by decide) ?_
    exact rz_end0 hret h (by decide) dX5_beginsPart_40 hW
  · replace h := if_f hc h
    refine lv_aload_n hx hb dX5_beginsPart_7 rfl (lv_at hl 0 rfl) ?_
    refine r_gtok (k := 12) X hW (by decide) m_6_123 dX5_beginsPart_8 ?_
    refine r_acmp_eq (a := some v0) (b := some 12) (tgt := 35) X hx hb dX5_beginsPart_11 (by decide) (fun hc => ?_) (fun hc => ?_)
    · replace h := if_t hc h
      refine lv_iconst (v := 1) hx hb dX5_beginsPart_35 (by decide) ?_
      refine lv_goto (tgt := 40) hx hb dX5_beginsPart_36 (by decide) ?_
      exact rz_end0 hret h (by decide) dX5_beginsPart_40 hW
    · replace h := if_f hc h
      refine lv_aload_n hx hb dX5_beginsPart_14 rfl (lv_at hl 0 rfl) ?_
      refine r_gtok (k := 13) X hW (by decide) m_6_125 dX5_beginsPart_15 ?_
      refine r_acmp_eq (a := some v0) (b := some 13) (tgt := 35) X hx hb dX5_beginsPart_18 (by decide) (fun hc => ?_) (fun hc => ?_)
      · replace h := if_t hc h
        refine lv_iconst (v := 1) hx hb dX5_beginsPart_35 (by decide) ?_
        refine lv_goto (tgt := 40) hx hb dX5_beginsPart_36 (by decide) ?_
        exact rz_end0 hret h (by decide) dX5_beginsPart_40 hW
      · replace h := if_f hc h
        refine lv_aload_n hx hb dX5_beginsPart_21 rfl (lv_at hl 0 rfl) ?_
        refine r_gtok (k := 14) X hW (by decide) m_6_127 dX5_beginsPart_22 ?_
        refine r_acmp_eq (a := some v0) (b := some 14) (tgt := 35) X hx hb dX5_beginsPart_25 (by decide) (fun hc => ?_) (fun hc => ?_)
        · replace h := if_t hc h
          refine lv_iconst (v := 1) hx hb dX5_beginsPart_35 (by decide) ?_
          refine lv_goto (tgt := 40) hx hb dX5_beginsPart_36 (by decide) ?_
          exact rz_end0 hret h (by decide) dX5_beginsPart_40 hW
        · replace h := if_f hc h
          refine lv_aload_n hx hb dX5_beginsPart_28 rfl (lv_at hl 0 rfl) ?_
          refine r_gtok (k := 15) X hW (by decide) m_6_129 dX5_beginsPart_29 ?_
          refine r_acmp_ne (a := some v0) (b := some 15) (tgt := 39) X hx hb dX5_beginsPart_32 (by decide) (fun hc => ?_) (fun hc => ?_)
          · replace h := if_f hc h
            refine lv_iconst (v := 0) hx hb dX5_beginsPart_39 (by decide) ?_
            exact rz_end0 hret h (by decide) dX5_beginsPart_40 hW
          · replace h := if_t hc h
            refine lv_iconst (v := 1) hx hb dX5_beginsPart_35 (by decide) ?_
            refine lv_goto (tgt := 40) hx hb dX5_beginsPart_36 (by decide) ?_
            exact rz_end0 hret h (by decide) dX5_beginsPart_40 hW
set_option maxRecDepth 20000 in
set_option maxHeartbeats 4000000 in
theorem bl_X4_readStep_b108 (X : Cx G p R s m args c cells slots cX4_readStep 4 RX4 6) {σ' : St} (hret : R_V G p l e R s m args below meth c cells slots Q cX4_readStep σ') :
    ∀ (v0 : Nat) (h0 : kd v0 = 4) (v1 : Nat) (h1 : kd v1 = 3) (σ : St) (_ : pf_X4_readStep_b108 v0 v1 σ = some σ') (H : Heap) (locs : List Loc) (ls : Array Slot) (_ : GW G σ s H locs) (_ : lv_has ls 4 [(0, .ref (gz G + (v0))), (1, .ref (gz G + (v1)))]), W p l e R s m args below meth c H locs cells slots Q (F0 m 108 ls []) := by
  have hx := X.1.1
  have hb := X.1.2.1
  intro v0 h0 v1 h1 σ h H locs ls hW hl
  unfold pf_X4_readStep_b108 at h
  refine lv_aload_n hx hb dX4_readStep_108 rfl (lv_at hl 0 rfl) ?_
  refine gf_X4_tokens X hW h0 m_2_12 dX4_readStep_109 ?_
  refine r_gtok (k := 24) X hW (by decide) m_6_20 dX4_readStep_112 ?_
  obtain ⟨σ_1, hcl, h⟩ := bind_el h
  refine call_V0 X hW (kC_X6 (kf_X4_tokens h0)) m_6_2 m_6_3 m_6_4 mv_X6_expect (c_X6_expect (kf_X4_tokens h0) hcl) (by decide) rfl rfl (Nat.le_of_ble_eq_true rfl) hl.1 dX4_readStep_115 ?_
  clear hW hcl; intro H locs hW
  refine lv_aload_n hx hb dX4_readStep_118 rfl (lv_at hl 1 rfl) ?_
  refine lv_dup hx hb dX4_readStep_119 rfl ?_
  refine gf_X3_stepCount X hW h1 m_1_63 dX4_readStep_120 ?_
  refine lv_iconst (v := 1) hx hb dX4_readStep_123 (by decide) ?_
  refine lv_iadd hx hb dX4_readStep_124 ?_
  refine sf_X3_stepCount X hW h1 m_1_63 dX4_readStep_125 ?_
  clear hW; intro H locs hW
  refine nm_s hW h ?_
  clear hW h; intro σ_2 hW h
  exact rv_end hret h dX4_readStep_128 hW
set_option maxRecDepth 20000 in
set_option maxHeartbeats 4000000 in
theorem bl_X4_readStep_L76 (X : Cx G p R s m args c cells slots cX4_readStep 4 RX4 6) {σ' : St} (hret : R_V G p l e R s m args below meth c cells slots Q cX4_readStep σ') {k108 : Nat → Nat → St → (Option St)}
    (hk108 : ∀ (v0 : Nat) (h0 : kd v0 = 4) (v1 : Nat) (h1 : kd v1 = 3) (σ : St) (_ : k108 v0 v1 σ = some σ') (H : Heap) (locs : List Loc) (ls : Array Slot) (_ : GW G σ s H locs) (_ : lv_has ls 4 [(0, .ref (gz G + (v0))), (1, .ref (gz G + (v1)))]), W p l e R s m args below meth c H locs cells slots Q (F0 m 108 ls [])) :
    ∀ (n : Nat), ∀ (v0 : Nat) (h0 : kd v0 = 4) (v1 : Nat) (h1 : kd v1 = 3) (v2 : Int32) (v3 : Int32) (σ : St) (_ : pf_X4_readStep_L76 k108 n v0 v1 v2 v3 σ = some σ') (H : Heap) (locs : List Loc) (ls : Array Slot) (_ : GW G σ s H locs) (_ : lv_has ls 4 [(0, .ref (gz G + (v0))), (1, .ref (gz G + (v1))), (2, .int (v2)), (3, .int (v3))]), W p l e R s m args below meth c H locs cells slots Q (F0 m 76 ls []) := by
  have hx := X.1.1
  have hb := X.1.2.1
  intro n
  induction n with
  | zero => intro v0 h0 v1 h1 v2 v3 σ h H locs ls hW hl; cases h
  | succ n ih =>
    intro v0 h0 v1 h1 v2 v3 σ h H locs ls hW hl
    rw [pf_X4_readStep_L76.eq_2] at h
    refine lv_iload_n hx hb dX4_readStep_76 rfl (lv_at hl 3 rfl) ?_
    refine lv_sipush (v := 800) hx hb dX4_readStep_77 (by decide) ?_
    refine lv_icmp_ge (tgt := 108) hx hb dX4_readStep_80 (by decide) (fun hc => ?_) (fun hc => ?_)
    · replace h := if_t hc h
      exact hk108 v0 h0 v1 h1 σ h _ _ _ hW (lv_sub hl [0, 1] rfl)
    · replace h := if_f hc h
      refine lv_aload_n hx hb dX4_readStep_83 rfl (lv_at hl 0 rfl) ?_
      refine gf_X4_tokens X hW h0 m_2_12 dX4_readStep_84 ?_
      obtain ⟨r_1, hcl, h⟩ := bind_el h
      refine call_V1 X hW (kC_X6 (kf_X4_tokens h0)) m_6_26 m_6_7 m_6_8 mv_X6_ahead (c_X6_ahead (kf_X4_tokens h0) hcl) (by decide) rfl rfl (Nat.le_of_ble_eq_true rfl) hl.1 dX4_readStep_87 ?_
      clear hW hcl; intro H locs hW
      obtain ⟨t2, et, ht, h⟩ := ckT_el h
      obtain ⟨r_3, hcl, h⟩ := bind_el h
      refine call_T1 X hW et ht m_6_117 m_6_118 m_6_119 mv_X5_beginsPart (c_X5_beginsPart ht hcl) (by decide) rfl rfl (Nat.le_of_ble_eq_true rfl) hl.1 dX4_readStep_90 ?_
      clear hW hcl; intro H locs hW
      refine lv_if_eq (tgt := 108) hx hb dX4_readStep_93 (by decide) (fun hc => ?_) (fun hc => ?_)
      · replace h := if_t hc h
        exact hk108 v0 h0 v1 h1 σ h _ _ _ hW (lv_sub hl [0, 1] rfl)
      · replace h := if_f hc h
        refine lv_aload_n hx hb dX4_readStep_96 rfl (lv_at hl 0 rfl) ?_
        refine lv_aload_n hx hb dX4_readStep_97 rfl (lv_at hl 1 rfl) ?_
        refine lv_iload_n hx hb dX4_readStep_98 rfl (lv_at hl 2 rfl) ?_
        obtain ⟨σ_4, hcl, h⟩ := bind_el h
        refine call_V0 X hW (kC_X4 h0) m_6_131 m_6_133 m_0_26 mv_X4_readPart (c_X4_readPart h0 h1 hcl) (by decide) rfl rfl (Nat.le_of_ble_eq_true rfl) hl.1 dX4_readStep_99 ?_
        clear hW hcl; intro H locs hW
        refine w_iinc (v := 1) (lv' := fun y => [(3, .int (y)), (0, .ref (gz G + (v0))), (1, .ref (gz G + (v1))), (2, .int (v2))]) hx hb dX4_readStep_102 hl (k := 3) rfl (by decide) (by decide) (fun _ => rfl) h ?_
        clear h hl; intro v3_5 h ls hl
        refine lv_goto (tgt := 76) hx hb dX4_readStep_105 (by decide) ?_
        exact ih v0 h0 v1 h1 v2 v3_5 σ_4 h _ _ _ hW (lv_sub hl [1, 2, 3, 0] rfl)
set_option maxRecDepth 20000 in
set_option maxHeartbeats 4000000 in
theorem c_X4_readStep {G : Gt} {l : Launch} {v0 : Nat} (h0 : kd v0 = 4) {v1 : Nat} (h1 : kd v1 = 3) {σ : St} {σ' : St} (hf : pf_X4_readStep v0 v1 σ = some σ') : Ct G l yX4_readStep cX4_readStep 4 none 6 [.ref (gz G + (v0)), .ref (gz G + (v1))] σ none σ' := by
  refine met_v (by decide +kernel) (Nat.le_of_ble_eq_true rfl) rfl ?_
  intro p e s m args below meth c Q ls X hW hret hl
  have hx := X.1.1
  have hb := X.1.2.1
  have hl : lv_has ls 4 [(0, .ref (gz G + (v0))), (1, .ref (gz G + (v1)))] := hl
  have h := hf
  clear hf
  unfold pf_X4_readStep at h
  refine lv_aload_n hx hb dX4_readStep_0 rfl (lv_at hl 1 rfl) ?_
  refine gf_X3_stepCount X hW h1 m_1_63 dX4_readStep_1 ?_
  refine nm_i h ?_
  clear h; intro v2_1 h
  refine lv_istore_n (lv' := [(2, .int (v2_1)), (0, .ref (gz G + (v0))), (1, .ref (gz G + (v1)))]) hx hb dX4_readStep_4 rfl hl (by decide) rfl ?_
  clear hl; intro ls hl
  refine lv_iload_n hx hb dX4_readStep_5 rfl (lv_at hl 0 rfl) ?_
  refine lv_bipush (v := 6) hx hb dX4_readStep_6 (by decide) ?_
  refine lv_icmp_lt (tgt := 28) hx hb dX4_readStep_8 (by decide) (fun hc => ?_) (fun hc => ?_)
  · replace h := if_t hc h
    refine lv_aload_n hx hb dX4_readStep_28 rfl (lv_at hl 1 rfl) ?_
    refine gf_X4_tokens X hW h0 m_2_12 dX4_readStep_29 ?_
    refine r_gtok (k := 9) X hW (by decide) m_6_111 dX4_readStep_32 ?_
    obtain ⟨σ_2, hcl, h⟩ := bind_el h
    refine call_V0 X hW (kC_X6 (kf_X4_tokens h0)) m_6_2 m_6_3 m_6_4 mv_X6_expect (c_X6_expect (kf_X4_tokens h0) hcl) (by decide) rfl rfl (Nat.le_of_ble_eq_true rfl) hl.1 dX4_readStep_35 ?_
    clear hW hcl; intro H locs hW
    refine lv_aload_n hx hb dX4_readStep_38 rfl (lv_at hl 2 rfl) ?_
    refine gf_X3_risk X hW h1 m_1_85 dX4_readStep_39 ?_
    refine lv_iload_n hx hb dX4_readStep_42 rfl (lv_at hl 0 rfl) ?_
    refine lv_aload_n hx hb dX4_readStep_43 rfl (lv_at hl 1 rfl) ?_
    refine gf_X4_tokens X hW h0 m_2_12 dX4_readStep_44 ?_
    refine lv_iconst (v := 0) hx hb dX4_readStep_47 (by decide) ?_
    refine lv_bipush (v := 100) hx hb dX4_readStep_48 (by decide) ?_
    obtain ⟨r_3, σ_3, hcl, h⟩ := bnd2_el h
    refine call_V1 X hW (kC_X6 (kf_X4_tokens h0)) m_6_39 m_6_40 m_6_41 mv_X6_number (c_X6_number (kf_X4_tokens h0) hcl) (by decide) rfl rfl (Nat.le_of_ble_eq_true rfl) hl.1 dX4_readStep_50 ?_
    clear hW hcl; intro H locs hW
    obtain ⟨σ_4, hcl, h⟩ := bind_el h
    refine call_SN0 X hW m_6_44 m_2_189 mv_X10_put (c_X10_put (kf_X3_risk h1) hcl) (by decide) rfl rfl (Nat.le_of_ble_eq_true rfl) hl.1 dX4_readStep_53 ?_
    clear hW hcl; intro H locs hW
    refine lv_aload_n hx hb dX4_readStep_56 rfl (lv_at hl 2 rfl) ?_
    refine gf_X3_limit X hW h1 m_1_88 dX4_readStep_57 ?_
    refine lv_iload_n hx hb dX4_readStep_60 rfl (lv_at hl 0 rfl) ?_
    refine lv_aload_n hx hb dX4_readStep_61 rfl (lv_at hl 1 rfl) ?_
    refine gf_X4_tokens X hW h0 m_2_12 dX4_readStep_62 ?_
    refine lv_iconst (v := 1) hx hb dX4_readStep_65 (by decide) ?_
    refine lv_bipush (v := 9) hx hb dX4_readStep_66 (by decide) ?_
    obtain ⟨r_5, σ_5, hcl, h⟩ := bnd2_el h
    refine call_V1 X hW (kC_X6 (kf_X4_tokens h0)) m_6_39 m_6_40 m_6_41 mv_X6_number (c_X6_number (kf_X4_tokens h0) hcl) (by decide) rfl rfl (Nat.le_of_ble_eq_true rfl) hl.1 dX4_readStep_68 ?_
    clear hW hcl; intro H locs hW
    obtain ⟨σ_6, hcl, h⟩ := bind_el h
    refine call_SN0 X hW m_6_44 m_2_189 mv_X10_put (c_X10_put (kf_X3_limit h1) hcl) (by decide) rfl rfl (Nat.le_of_ble_eq_true rfl) hl.1 dX4_readStep_71 ?_
    clear hW hcl; intro H locs hW
    refine lv_iconst (v := 0) hx hb dX4_readStep_74 (by decide) ?_
    refine lv_istore_n (lv' := [(3, .int (0)), (2, .int (v2_1)), (0, .ref (gz G + (v0))), (1, .ref (gz G + (v1)))]) hx hb dX4_readStep_75 rfl hl (by decide) rfl ?_
    clear hl; intro ls hl
    exact bl_X4_readStep_L76 X hret (bl_X4_readStep_b108 X hret) FU v0 h0 v1 h1 v2_1 0 σ_6 h _ _ _ hW (lv_sub hl [2, 3, 1, 0] rfl)
  · replace h := if_f hc h
    refine lv_aload_n hx hb dX4_readStep_11 rfl (lv_at hl 1 rfl) ?_
    refine gf_X4_tokens X hW h0 m_2_12 dX4_readStep_12 ?_
    refine lv_bipush (v := (-5)) hx hb dX4_readStep_15 (by decide) ?_
    refine lv_aload_n hx hb dX4_readStep_17 rfl (lv_at hl 1 rfl) ?_
    refine gf_X4_tokens X hW h0 m_2_12 dX4_readStep_18 ?_
    obtain ⟨r_7, hcl, h⟩ := bind_el h
    refine call_V1 X hW (kC_X6 (kf_X4_tokens h0)) m_6_38 m_6_13 m_6_14 mv_X6_start (c_X6_start (kf_X4_tokens h0) hcl) (by decide) rfl rfl (Nat.le_of_ble_eq_true rfl) hl.1 dX4_readStep_21 ?_
    clear hW hcl; intro H locs hW
    obtain ⟨σ_8, hcl, h⟩ := bind_el h
    refine call_V0 X hW (kC_X6 (kf_X4_tokens h0)) m_6_43 m_6_17 m_6_18 mv_X6_fail (c_X6_fail (kf_X4_tokens h0) hcl) (by decide) rfl rfl (Nat.le_of_ble_eq_true rfl) hl.1 dX4_readStep_24 ?_
    clear hW hcl; intro H locs hW
    exact rv_end hret h dX4_readStep_27 hW
set_option maxRecDepth 20000 in
set_option maxHeartbeats 4000000 in
theorem c_X6_skip {G : Gt} {l : Launch} {v0 : Nat} (h0 : kd v0 = 5) {σ : St} {σ' : St} (hf : pf_X6_skip v0 σ = some σ') : Ct G l yX6_skip cX6_skip 1 none 2 [.ref (gz G + (v0))] σ none σ' := by
  refine met_v (by decide +kernel) (Nat.le_of_ble_eq_true rfl) rfl ?_
  intro p e s m args below meth c Q ls X hW hret hl
  have hx := X.1.1
  have hb := X.1.2.1
  have hl : lv_has ls 1 [(0, .ref (gz G + (v0)))] := hl
  have h := hf
  clear hf
  unfold pf_X6_skip at h
  refine lv_aload_n hx hb dX6_skip_0 rfl (lv_at hl 0 rfl) ?_
  refine lv_dup hx hb dX6_skip_1 rfl ?_
  refine gf_X6_place X hW h0 m_1_214 dX6_skip_2 ?_
  refine lv_iconst (v := 1) hx hb dX6_skip_5 (by decide) ?_
  refine lv_iadd hx hb dX6_skip_6 ?_
  refine sf_X6_place X hW h0 m_1_214 dX6_skip_7 ?_
  clear hW; intro H locs hW
  refine nm_s hW h ?_
  clear hW h; intro σ_1 hW h
  exact rv_end hret h dX6_skip_10 hW
set_option maxRecDepth 20000 in
set_option maxHeartbeats 4000000 in
theorem bl_X4_readQuest_b15 (X : Cx G p R s m args c cells slots cX4_readQuest 5 RX4 29) {σ' : St} (hret : R_V G p l e R s m args below meth c cells slots Q cX4_readQuest σ') :
    ∀ (v0 : Nat) (h0 : kd v0 = 4) (σ : St) (_ : pf_X4_readQuest_b15 v0 σ = some σ') (H : Heap) (locs : List Loc) (ls : Array Slot) (_ : GW G σ s H locs) (_ : lv_has ls 5 [(0, .ref (gz G + (v0)))]), W p l e R s m args below meth c H locs cells slots Q (F0 m 15 ls []) := by
  have hx := X.1.1
  have hb := X.1.2.1
  intro v0 h0 σ h H locs ls hW hl
  unfold pf_X4_readQuest_b15 at h
  refine lv_aload_n hx hb dX4_readQuest_15 rfl (lv_at hl 0 rfl) ?_
  refine gf_X4_tokens X hW h0 m_2_12 dX4_readQuest_16 ?_
  refine lv_bipush (v := (-5)) hx hb dX4_readQuest_19 (by decide) ?_
  refine lv_aload_n hx hb dX4_readQuest_21 rfl (lv_at hl 0 rfl) ?_
  refine gf_X4_tokens X hW h0 m_2_12 dX4_readQuest_22 ?_
  obtain ⟨r_1, hcl, h⟩ := bind_el h
  refine call_V1 X hW (kC_X6 (kf_X4_tokens h0)) m_6_38 m_6_13 m_6_14 mv_X6_start (c_X6_start (kf_X4_tokens h0) hcl) (by decide) rfl rfl (Nat.le_of_ble_eq_true rfl) hl.1 dX4_readQuest_25 ?_
  clear hW hcl; intro H locs hW
  obtain ⟨σ_2, hcl, h⟩ := bind_el h
  refine call_V0 X hW (kC_X6 (kf_X4_tokens h0)) m_6_43 m_6_17 m_6_18 mv_X6_fail (c_X6_fail (kf_X4_tokens h0) hcl) (by decide) rfl rfl (Nat.le_of_ble_eq_true rfl) hl.1 dX4_readQuest_28 ?_
  clear hW hcl; intro H locs hW
  exact rv_end hret h dX4_readQuest_31 hW
set_option maxRecDepth 20000 in
set_option maxHeartbeats 4000000 in
theorem bl_X4_readQuest_b117 (X : Cx G p R s m args c cells slots cX4_readQuest 5 RX4 29) {σ' : St} (hret : R_V G p l e R s m args below meth c cells slots Q cX4_readQuest σ') {k91 : Nat → Nat → Nat → Int32 → St → (Option St)}
    (hk91 : ∀ (v0 : Nat) (h0 : kd v0 = 4) (v1 : Nat) (h1 : kd v1 = 2) (v3 : Nat) (h3 : kd v3 = 3) (v4 : Int32) (σ : St) (_ : k91 v0 v1 v3 v4 σ = some σ') (H : Heap) (locs : List Loc) (ls : Array Slot) (_ : GW G σ s H locs) (_ : lv_has ls 5 [(0, .ref (gz G + (v0))), (1, .ref (gz G + (v1))), (3, .ref (gz G + (v3))), (4, .int (v4))]), W p l e R s m args below meth c H locs cells slots Q (F0 m 91 ls [])) :
    ∀ (v0 : Nat) (h0 : kd v0 = 4) (v1 : Nat) (h1 : kd v1 = 2) (v3 : Nat) (h3 : kd v3 = 3) (v4 : Int32) (σ : St) (_ : pf_X4_readQuest_b117 k91 v0 v1 v3 v4 σ = some σ') (H : Heap) (locs : List Loc) (ls : Array Slot) (_ : GW G σ s H locs) (_ : lv_has ls 5 [(0, .ref (gz G + (v0))), (1, .ref (gz G + (v1))), (3, .ref (gz G + (v3))), (4, .int (v4))]), W p l e R s m args below meth c H locs cells slots Q (F0 m 117 ls []) := by
  have hx := X.1.1
  have hb := X.1.2.1
  intro v0 h0 v1 h1 v3 h3 v4 σ h H locs ls hW hl
  unfold pf_X4_readQuest_b117 at h
  refine lv_aload_n hx hb dX4_readQuest_117 rfl (lv_at hl 0 rfl) ?_
  refine lv_aload_n hx hb dX4_readQuest_118 rfl (lv_at hl 2 rfl) ?_
  obtain ⟨σ_1, hcl, h⟩ := bind_el h
  refine call_V0 X hW (kC_X4 h0) m_6_113 m_6_115 m_0_25 mv_X4_readStep (c_X4_readStep h0 h3 hcl) (by decide) rfl rfl (Nat.le_of_ble_eq_true rfl) hl.1 dX4_readQuest_119 ?_
  clear hW hcl; intro H locs hW
  refine w_iinc (v := 1) (lv' := fun y => [(4, .int (y)), (0, .ref (gz G + (v0))), (1, .ref (gz G + (v1))), (3, .ref (gz G + (v3)))]) hx hb dX4_readQuest_122 hl (k := 3) rfl (by decide) (by decide) (fun _ => rfl) h ?_
  clear h hl; intro v4_2 h ls hl
  refine lv_goto (tgt := 91) hx hb dX4_readQuest_125 (by decide) ?_
  exact hk91 v0 h0 v1 h1 v3 h3 v4_2 σ_1 h _ _ _ hW (lv_sub hl [1, 2, 3, 0] rfl)
set_option maxRecDepth 20000 in
set_option maxHeartbeats 4000000 in
theorem bl_X4_readQuest_b128 (X : Cx G p R s m args c cells slots cX4_readQuest 5 RX4 29) {σ' : St} (hret : R_V G p l e R s m args below meth c cells slots Q cX4_readQuest σ') :
    ∀ (v0 : Nat) (h0 : kd v0 = 4) (v1 : Nat) (h1 : kd v1 = 2) (v3 : Nat) (h3 : kd v3 = 3) (σ : St) (_ : pf_X4_readQuest_b128 v0 v1 v3 σ = some σ') (H : Heap) (locs : List Loc) (ls : Array Slot) (_ : GW G σ s H locs) (_ : lv_has ls 5 [(0, .ref (gz G + (v0))), (1, .ref (gz G + (v1))), (3, .ref (gz G + (v3)))]), W p l e R s m args below meth c H locs cells slots Q (F0 m 128 ls []) := by
  have hx := X.1.1
  have hb := X.1.2.1
  intro v0 h0 v1 h1 v3 h3 σ h H locs ls hW hl
  unfold pf_X4_readQuest_b128 at h
  refine lv_aload_n hx hb dX4_readQuest_128 rfl (lv_at hl 0 rfl) ?_
  refine gf_X4_tokens X hW h0 m_2_12 dX4_readQuest_129 ?_
  refine r_gtok (k := 10) X hW (by decide) m_6_153 dX4_readQuest_132 ?_
  obtain ⟨σ_1, hcl, h⟩ := bind_el h
  refine call_V0 X hW (kC_X6 (kf_X4_tokens h0)) m_6_2 m_6_3 m_6_4 mv_X6_expect (c_X6_expect (kf_X4_tokens h0) hcl) (by decide) rfl rfl (Nat.le_of_ble_eq_true rfl) hl.1 dX4_readQuest_135 ?_
  clear hW hcl; intro H locs hW
  refine lv_aload_n hx hb dX4_readQuest_138 rfl (lv_at hl 2 rfl) ?_
  refine lv_aload_n hx hb dX4_readQuest_139 rfl (lv_at hl 0 rfl) ?_
  refine gf_X4_goals X hW h0 m_2_13 dX4_readQuest_140 ?_
  refine lv_aload_n hx hb dX4_readQuest_143 rfl (lv_at hl 0 rfl) ?_
  refine gf_X4_tokens X hW h0 m_2_12 dX4_readQuest_144 ?_
  refine lv_aload_n hx hb dX4_readQuest_147 rfl (lv_at hl 2 rfl) ?_
  refine gf_X3_stepCount X hW h3 m_1_63 dX4_readQuest_148 ?_
  refine lv_iconst (v := 0) hx hb dX4_readQuest_151 (by decide) ?_
  obtain ⟨r_2, σ_2, hcl, h⟩ := bnd2_el h
  refine call_VN1 X hW (kC_X0 (kf_X4_goals h0)) m_6_155 m_6_157 m_0_29 mv_X0_readGoal (c_X0_readGoal 8 (kf_X4_goals h0) (kf_X4_tokens h0) hcl) (by decide) rfl rfl (Nat.le_of_ble_eq_true rfl) hl.1 dX4_readQuest_152 ?_
  clear hW hcl; intro H locs hW
  refine sf_X3_goal X hW h3 m_1_81 dX4_readQuest_155 ?_
  clear hW; intro H locs hW
  refine nm_s hW h ?_
  clear hW h; intro σ_3 hW h
  refine lv_aload_n hx hb dX4_readQuest_158 rfl (lv_at hl 0 rfl) ?_
  refine gf_X4_tokens X hW h0 m_2_12 dX4_readQuest_159 ?_
  refine r_gtok (k := 24) X hW (by decide) m_6_20 dX4_readQuest_162 ?_
  obtain ⟨σ_4, hcl, h⟩ := bind_el h
  refine call_V0 X hW (kC_X6 (kf_X4_tokens h0)) m_6_2 m_6_3 m_6_4 mv_X6_expect (c_X6_expect (kf_X4_tokens h0) hcl) (by decide) rfl rfl (Nat.le_of_ble_eq_true rfl) hl.1 dX4_readQuest_165 ?_
  clear hW hcl; intro H locs hW
  refine lv_aload_n hx hb dX4_readQuest_168 rfl (lv_at hl 1 rfl) ?_
  refine lv_dup hx hb dX4_readQuest_169 rfl ?_
  refine gf_X2_questCount X hW h1 m_1_154 dX4_readQuest_170 ?_
  refine lv_iconst (v := 1) hx hb dX4_readQuest_173 (by decide) ?_
  refine lv_iadd hx hb dX4_readQuest_174 ?_
  refine sf_X2_questCount X hW h1 m_1_154 dX4_readQuest_175 ?_
  clear hW; intro H locs hW
  refine nm_s hW h ?_
  clear hW h; intro σ_5 hW h
  exact rv_end hret h dX4_readQuest_178 hW
set_option maxRecDepth 20000 in
set_option maxHeartbeats 4000000 in
theorem bl_X4_readQuest_L91 (X : Cx G p R s m args c cells slots cX4_readQuest 5 RX4 29) {σ' : St} (hret : R_V G p l e R s m args below meth c cells slots Q cX4_readQuest σ') {k128 : Nat → Nat → Nat → St → (Option St)}
    (hk128 : ∀ (v0 : Nat) (h0 : kd v0 = 4) (v1 : Nat) (h1 : kd v1 = 2) (v3 : Nat) (h3 : kd v3 = 3) (σ : St) (_ : k128 v0 v1 v3 σ = some σ') (H : Heap) (locs : List Loc) (ls : Array Slot) (_ : GW G σ s H locs) (_ : lv_has ls 5 [(0, .ref (gz G + (v0))), (1, .ref (gz G + (v1))), (3, .ref (gz G + (v3)))]), W p l e R s m args below meth c H locs cells slots Q (F0 m 128 ls [])) :
    ∀ (n : Nat), ∀ (v0 : Nat) (h0 : kd v0 = 4) (v1 : Nat) (h1 : kd v1 = 2) (v3 : Nat) (h3 : kd v3 = 3) (v4 : Int32) (σ : St) (_ : pf_X4_readQuest_L91 k128 n v0 v1 v3 v4 σ = some σ') (H : Heap) (locs : List Loc) (ls : Array Slot) (_ : GW G σ s H locs) (_ : lv_has ls 5 [(0, .ref (gz G + (v0))), (1, .ref (gz G + (v1))), (3, .ref (gz G + (v3))), (4, .int (v4))]), W p l e R s m args below meth c H locs cells slots Q (F0 m 91 ls []) := by
  have hx := X.1.1
  have hb := X.1.2.1
  intro n
  induction n with
  | zero => intro v0 h0 v1 h1 v3 h3 v4 σ h H locs ls hW hl; cases h
  | succ n ih =>
    intro v0 h0 v1 h1 v3 h3 v4 σ h H locs ls hW hl
    rw [pf_X4_readQuest_L91.eq_2] at h
    refine lv_iload hx hb dX4_readQuest_91 (lv_at hl 3 rfl) ?_
    refine lv_sipush (v := 800) hx hb dX4_readQuest_93 (by decide) ?_
    refine lv_icmp_ge (tgt := 128) hx hb dX4_readQuest_96 (by decide) (fun hc => ?_) (fun hc => ?_)
    · replace h := if_t hc h
      exact hk128 v0 h0 v1 h1 v3 h3 σ h _ _ _ hW (lv_sub hl [0, 1, 2] rfl)
    · replace h := if_f hc h
      refine lv_iload hx hb dX4_readQuest_99 (lv_at hl 3 rfl) ?_
      refine lv_if_eq (tgt := 117) hx hb dX4_readQuest_101 (by decide) (fun hc => ?_) (fun hc => ?_)
      · replace h := if_t hc h
        exact bl_X4_readQuest_b117 X hret ih v0 h0 v1 h1 v3 h3 v4 σ h _ _ _ hW (lv_sub hl [0, 1, 2, 3] rfl)
      · replace h := if_f hc h
        refine lv_aload_n hx hb dX4_readQuest_104 rfl (lv_at hl 0 rfl) ?_
        refine gf_X4_tokens X hW h0 m_2_12 dX4_readQuest_105 ?_
        obtain ⟨r_1, hcl, h⟩ := bind_el h
        refine call_V1 X hW (kC_X6 (kf_X4_tokens h0)) m_6_26 m_6_7 m_6_8 mv_X6_ahead (c_X6_ahead (kf_X4_tokens h0) hcl) (by decide) rfl rfl (Nat.le_of_ble_eq_true rfl) hl.1 dX4_readQuest_108 ?_
        clear hW hcl; intro H locs hW
        refine r_gtok (k := 9) X hW (by decide) m_6_111 dX4_readQuest_111 ?_
        refine r_acmp_ne (a := r_1) (b := some 9) (tgt := 128) X hx hb dX4_readQuest_114 (by decide) (fun hc => ?_) (fun hc => ?_)
        · replace h := if_f hc h
          exact hk128 v0 h0 v1 h1 v3 h3 σ h _ _ _ hW (lv_sub hl [0, 1, 2] rfl)
        · replace h := if_t hc h
          exact bl_X4_readQuest_b117 X hret ih v0 h0 v1 h1 v3 h3 v4 σ h _ _ _ hW (lv_sub hl [0, 1, 2, 3] rfl)
set_option maxRecDepth 20000 in
set_option maxHeartbeats 4000000 in
theorem c_X4_readQuest {G : Gt} {l : Launch} {v0 : Nat} (h0 : kd v0 = 4) {v1 : Nat} (h1 : kd v1 = 2) {σ : St} {σ' : St} (hf : pf_X4_readQuest v0 v1 σ = some σ') : Ct G l yX4_readQuest cX4_readQuest 5 none 29 [.ref (gz G + (v0)), .ref (gz G + (v1))] σ none σ' := by
  refine met_v (by decide +kernel) (Nat.le_of_ble_eq_true rfl) rfl ?_
  intro p e s m args below meth c Q ls X hW hret hl
  have hx := X.1.1
  have hb := X.1.2.1
  have hl : lv_has ls 5 [(0, .ref (gz G + (v0))), (1, .ref (gz G + (v1)))] := hl
  have h := hf
  clear hf
  unfold pf_X4_readQuest at h
  refine lv_aload_n hx hb dX4_readQuest_0 rfl (lv_at hl 1 rfl) ?_
  refine gf_X2_questCount X hW h1 m_1_154 dX4_readQuest_1 ?_
  refine nm_i h ?_
  clear h; intro v2_1 h
  refine lv_istore_n (lv' := [(2, .int (v2_1)), (0, .ref (gz G + (v0))), (1, .ref (gz G + (v1)))]) hx hb dX4_readQuest_4 rfl hl (by decide) rfl ?_
  clear hl; intro ls hl
  refine lv_iload_n hx hb dX4_readQuest_5 rfl (lv_at hl 0 rfl) ?_
  refine lv_if_lt (tgt := 15) hx hb dX4_readQuest_6 (by decide) (fun hc => ?_) (fun hc => ?_)
  · replace h := if_t hc h
    exact bl_X4_readQuest_b15 X hret v0 h0 σ h _ _ _ hW (lv_sub hl [1] rfl)
  · replace h := if_f hc h
    refine lv_iload_n hx hb dX4_readQuest_9 rfl (lv_at hl 0 rfl) ?_
    refine lv_bipush (v := 6) hx hb dX4_readQuest_10 (by decide) ?_
    refine lv_icmp_lt (tgt := 32) hx hb dX4_readQuest_12 (by decide) (fun hc => ?_) (fun hc => ?_)
    · replace h := if_t hc h
      refine lv_aload_n hx hb dX4_readQuest_32 rfl (lv_at hl 2 rfl) ?_
      refine gf_X2_quests X hW h1 m_1_151 dX4_readQuest_33 ?_
      refine lv_iload_n hx hb dX4_readQuest_36 rfl (lv_at hl 0 rfl) ?_
      obtain ⟨hi2, h⟩ := ckI_el h
      refine r_qald X hW (kf_X2_quests h1) hi2 dX4_readQuest_37 ?_
      refine lv_astore_n (lv' := [(3, .ref (gz G + (v1 + 3 + 2 + 9 * (v2_1).toNatClampNeg))), (2, .int (v2_1)), (0, .ref (gz G + (v0))), (1, .ref (gz G + (v1)))]) hx hb dX4_readQuest_38 rfl hl (by decide) rfl ?_
      clear hl; intro ls hl
      refine lv_aload_n hx hb dX4_readQuest_39 rfl (lv_at hl 0 rfl) ?_
      obtain ⟨σ_3, hcl, h⟩ := bind_el h
      refine call_V0 X hW (kC_X3 (kq_16 (kf_X2_quests h1) (vp_lt hi2))) m_6_102 m_6_103 m_6_104 mv_X3_clear (c_X3_clear (kq_16 (kf_X2_quests h1) (vp_lt hi2)) hcl) (by decide) rfl rfl (Nat.le_of_ble_eq_true rfl) hl.1 dX4_readQuest_40 ?_
      clear hW hcl; intro H locs hW
      refine lv_aload_n hx hb dX4_readQuest_43 rfl (lv_at hl 2 rfl) ?_
      refine gf_X4_tokens X hW h0 m_2_12 dX4_readQuest_44 ?_
      obtain ⟨σ_4, hcl, h⟩ := bind_el h
      refine call_V0 X hW (kC_X6 (kf_X4_tokens h0)) m_6_33 m_6_34 m_6_35 mv_X6_skip (c_X6_skip (kf_X4_tokens h0) hcl) (by decide) rfl rfl (Nat.le_of_ble_eq_true rfl) hl.1 dX4_readQuest_47 ?_
      clear hW hcl; intro H locs hW
      refine lv_aload_n hx hb dX4_readQuest_50 rfl (lv_at hl 0 rfl) ?_
      refine lv_aload_n hx hb dX4_readQuest_51 rfl (lv_at hl 2 rfl) ?_
      refine gf_X4_tokens X hW h0 m_2_12 dX4_readQuest_52 ?_
      refine lv_iconst (v := 0) hx hb dX4_readQuest_55 (by decide) ?_
      refine lv_bipush (v := 7) hx hb dX4_readQuest_56 (by decide) ?_
      obtain ⟨r_5, σ_5, hcl, h⟩ := bnd2_el h
      refine call_V1 X hW (kC_X6 (kf_X4_tokens h0)) m_6_39 m_6_40 m_6_41 mv_X6_number (c_X6_number (kf_X4_tokens h0) hcl) (by decide) rfl rfl (Nat.le_of_ble_eq_true rfl) hl.1 dX4_readQuest_58 ?_
      clear hW hcl; intro H locs hW
      refine sf_X3_rewardItem X hW (kq_16 (kf_X2_quests h1) (vp_lt hi2)) m_1_74 dX4_readQuest_61 ?_
      clear hW; intro H locs hW
      refine nm_s hW h ?_
      clear hW h; intro σ_6 hW h
      refine lv_aload_n hx hb dX4_readQuest_64 rfl (lv_at hl 0 rfl) ?_
      refine lv_aload_n hx hb dX4_readQuest_65 rfl (lv_at hl 2 rfl) ?_
      refine gf_X4_tokens X hW h0 m_2_12 dX4_readQuest_66 ?_
      refine lv_iconst (v := 0) hx hb dX4_readQuest_69 (by decide) ?_
      refine lv_bipush (v := 99) hx hb dX4_readQuest_70 (by decide) ?_
      obtain ⟨r_7, σ_7, hcl, h⟩ := bnd2_el h
      refine call_V1 X hW (kC_X6 (kf_X4_tokens h0)) m_6_39 m_6_40 m_6_41 mv_X6_number (c_X6_number (kf_X4_tokens h0) hcl) (by decide) rfl rfl (Nat.le_of_ble_eq_true rfl) hl.1 dX4_readQuest_72 ?_
      clear hW hcl; intro H locs hW
      refine sf_X3_rewardAmount X hW (kq_16 (kf_X2_quests h1) (vp_lt hi2)) m_1_78 dX4_readQuest_75 ?_
      clear hW; intro H locs hW
      refine nm_s hW h ?_
      clear hW h; intro σ_8 hW h
      refine lv_aload_n hx hb dX4_readQuest_78 rfl (lv_at hl 2 rfl) ?_
      refine gf_X4_tokens X hW h0 m_2_12 dX4_readQuest_79 ?_
      refine r_gtok (k := 24) X hW (by decide) m_6_20 dX4_readQuest_82 ?_
      obtain ⟨σ_9, hcl, h⟩ := bind_el h
      refine call_V0 X hW (kC_X6 (kf_X4_tokens h0)) m_6_2 m_6_3 m_6_4 mv_X6_expect (c_X6_expect (kf_X4_tokens h0) hcl) (by decide) rfl rfl (Nat.le_of_ble_eq_true rfl) hl.1 dX4_readQuest_85 ?_
      clear hW hcl; intro H locs hW
      refine lv_iconst (v := 0) hx hb dX4_readQuest_88 (by decide) ?_
      refine lv_istore (lv' := [(4, .int (0)), (3, .ref (gz G + (v1 + 3 + 2 + 9 * (v2_1).toNatClampNeg))), (2, .int (v2_1)), (0, .ref (gz G + (v0))), (1, .ref (gz G + (v1)))]) hx hb dX4_readQuest_89 hl (by decide) rfl ?_
      clear hl; intro ls hl
      exact bl_X4_readQuest_L91 X hret (bl_X4_readQuest_b128 X hret) FU v0 h0 v1 h1 (v1 + 3 + 2 + 9 * (v2_1).toNatClampNeg) (kq_16 (kf_X2_quests h1) (vp_lt hi2)) 0 σ_9 h _ _ _ hW (lv_sub hl [3, 4, 1, 0] rfl)
    · replace h := if_f hc h
      exact bl_X4_readQuest_b15 X hret v0 h0 σ h _ _ _ hW (lv_sub hl [1] rfl)
end
