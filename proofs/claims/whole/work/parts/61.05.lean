section
variable {G : Gt} {p : Program} {l : Launch} {e : Env} {R : Room} {s : State} {m : MethodId} {args : Array Value} {below : List Frame} {meth : Method} {c : Code} {cells slots : Nat} {Q : State → Prop}
set_option maxRecDepth 20000 in
set_option maxHeartbeats 4000000 in
theorem bl_X7_setBehindPlan_L8 {σ : St} (X : Cx G p R s m args c cells slots cX7_setBehindPlan 5 RX7 4) {r : Int32} (hret : R_I G p l e R s m args below meth c cells slots Q cX7_setBehindPlan r σ) :
    ∀ (n : Nat), ∀ (v0 : Nat) (h0 : kd v0 = 6) (v2 : Int32) (v3 : Int32) (v4 : Int32) (_ : pf_X7_setBehindPlan_L8 σ n v0 v2 v3 v4 = some r) (H : Heap) (locs : List Loc) (ls : Array Slot) (_ : GW G σ s H locs) (_ : lv_has ls 5 [(0, .ref (gz G + (v0))), (2, .int (v2)), (3, .int (v3)), (4, .int (v4))]), W p l e R s m args below meth c H locs cells slots Q (F0 m 8 ls []) := by
  have hx := X.1.1
  have hb := X.1.2.1
  intro n
  induction n with
  | zero => intro v0 h0 v2 v3 v4 h H locs ls hW hl; cases h
  | succ n ih =>
    intro v0 h0 v2 v3 v4 h H locs ls hW hl
    rw [pf_X7_setBehindPlan_L8.eq_2] at h
    refine lv_iload hx hb dX7_setBehindPlan_8 (lv_at hl 3 rfl) ?_
    refine lv_iload_n hx hb dX7_setBehindPlan_10 rfl (lv_at hl 1 rfl) ?_
    refine lv_icmp_ge (tgt := 30) hx hb dX7_setBehindPlan_11 (by decide) (fun hc => ?_) (fun hc => ?_)
    · replace h := if_t hc h
      refine lv_iload_n hx hb dX7_setBehindPlan_30 rfl (lv_at hl 2 rfl) ?_
      exact ri_end0 hret h dX7_setBehindPlan_31 hW
    · replace h := if_f hc h
      refine lv_iload_n hx hb dX7_setBehindPlan_14 rfl (lv_at hl 2 rfl) ?_
      refine lv_iconst (v := 1) hx hb dX7_setBehindPlan_15 (by decide) ?_
      refine lv_aload_n hx hb dX7_setBehindPlan_16 rfl (lv_at hl 0 rfl) ?_
      refine lv_iload_n hx hb dX7_setBehindPlan_17 rfl (lv_at hl 2 rfl) ?_
      obtain ⟨r_1, hcl, h⟩ := bind_el h
      refine call_V1 X hW (kC_X7 h0) m_2_215 m_2_179 m_2_180 mv_X7_nextOfPlan (c_X7_nextOfPlan h0 hcl) (by decide) rfl rfl (Nat.le_of_ble_eq_true rfl) hl.1 dX7_setBehindPlan_18 ?_
      clear hW hcl; intro H locs hW
      refine w_ishl hx hb dX7_setBehindPlan_21 ?_
      refine lv_ior hx hb dX7_setBehindPlan_22 ?_
      refine nm_i h ?_
      clear h; intro v3_2 h
      refine lv_istore_n (lv' := [(3, .int (v3_2)), (0, .ref (gz G + (v0))), (2, .int (v2)), (4, .int (v4))]) hx hb dX7_setBehindPlan_23 rfl hl (by decide) rfl ?_
      clear hl; intro ls hl
      refine w_iinc (v := 1) (lv' := fun y => [(4, .int (y)), (3, .int (v3_2)), (0, .ref (gz G + (v0))), (2, .int (v2))]) hx hb dX7_setBehindPlan_24 hl (k := 3) rfl (by decide) (by decide) (fun _ => rfl) h ?_
      clear h hl; intro v4_3 h ls hl
      refine lv_goto (tgt := 8) hx hb dX7_setBehindPlan_27 (by decide) ?_
      exact ih v0 h0 v2 v3_2 v4_3 h _ _ _ hW (lv_sub hl [2, 3, 1, 0] rfl)
set_option maxRecDepth 20000 in
set_option maxHeartbeats 4000000 in
theorem c_X7_setBehindPlan {G : Gt} {l : Launch} {v0 : Nat} (h0 : kd v0 = 6) {v1 : Nat} (h1 : kd v1 = 3) {v2 : Int32} {σ : St} {r : Int32} (hf : pf_X7_setBehindPlan v0 v1 v2 σ = some r) : Ct G l yX7_setBehindPlan cX7_setBehindPlan 5 (some .int) 4 [.ref (gz G + (v0)), .ref (gz G + (v1)), .int (v2)] σ (some (.int r)) σ := by
  refine met_i (by decide +kernel) (Nat.le_of_ble_eq_true rfl) rfl ?_
  intro p e s m args below meth c Q ls X hW hret hl
  have hx := X.1.1
  have hb := X.1.2.1
  have hl : lv_has ls 5 [(0, .ref (gz G + (v0))), (1, .ref (gz G + (v1))), (2, .int (v2))] := hl
  have h := hf
  clear hf
  unfold pf_X7_setBehindPlan at h
  refine lv_aload_n hx hb dX7_setBehindPlan_0 rfl (lv_at hl 1 rfl) ?_
  refine gf_X3_done X hW h1 m_1_60 dX7_setBehindPlan_1 ?_
  refine nm_i h ?_
  clear h; intro v3_1 h
  refine lv_istore_n (lv' := [(3, .int (v3_1)), (0, .ref (gz G + (v0))), (1, .ref (gz G + (v1))), (2, .int (v2))]) hx hb dX7_setBehindPlan_4 rfl hl (by decide) rfl ?_
  clear hl; intro ls hl
  refine lv_iconst (v := 0) hx hb dX7_setBehindPlan_5 (by decide) ?_
  refine lv_istore (lv' := [(4, .int (0)), (3, .int (v3_1)), (0, .ref (gz G + (v0))), (1, .ref (gz G + (v1))), (2, .int (v2))]) hx hb dX7_setBehindPlan_6 hl (by decide) rfl ?_
  clear hl; intro ls hl
  exact bl_X7_setBehindPlan_L8 X hret FU v0 h0 v2 v3_1 0 h _ _ _ hW (lv_sub hl [2, 4, 1, 0] rfl)
set_option maxRecDepth 20000 in
set_option maxHeartbeats 4000000 in
theorem c_X7_riskOfPlan {G : Gt} {l : Launch} {v0 : Nat} (h0 : kd v0 = 6) {v1 : Nat} (h1 : kd v1 = 3) {σ : St} {r : Int32} (hf : pf_X7_riskOfPlan v0 v1 σ = some r) : Ct G l yX7_riskOfPlan cX7_riskOfPlan 2 (some .int) 5 [.ref (gz G + (v0)), .ref (gz G + (v1))] σ (some (.int r)) σ := by
  refine met_i (by decide +kernel) (Nat.le_of_ble_eq_true rfl) rfl ?_
  intro p e s m args below meth c Q ls X hW hret hl
  have hx := X.1.1
  have hb := X.1.2.1
  have hl : lv_has ls 2 [(0, .ref (gz G + (v0))), (1, .ref (gz G + (v1)))] := hl
  have h := hf
  clear hf
  unfold pf_X7_riskOfPlan at h
  refine lv_aload_n hx hb dX7_riskOfPlan_0 rfl (lv_at hl 1 rfl) ?_
  refine lv_aload_n hx hb dX7_riskOfPlan_1 rfl (lv_at hl 0 rfl) ?_
  refine lv_aload_n hx hb dX7_riskOfPlan_2 rfl (lv_at hl 1 rfl) ?_
  refine lv_aload_n hx hb dX7_riskOfPlan_3 rfl (lv_at hl 0 rfl) ?_
  refine lv_aload_n hx hb dX7_riskOfPlan_4 rfl (lv_at hl 1 rfl) ?_
  obtain ⟨r_1, hcl, h⟩ := bind_el h
  refine call_V1 X hW (kC_X7 h0) m_2_210 m_2_175 m_2_176 mv_X7_lengthOfPlan (c_X7_lengthOfPlan h0 h1 hcl) (by decide) rfl rfl (Nat.le_of_ble_eq_true rfl) hl.1 dX7_riskOfPlan_5 ?_
  clear hW hcl; intro H locs hW
  obtain ⟨r_2, hcl, h⟩ := bind_el h
  refine call_V1 X hW (kC_X7 h0) m_2_211 m_2_212 m_2_213 mv_X7_setBehindPlan (c_X7_setBehindPlan h0 h1 hcl) (by decide) rfl rfl (Nat.le_of_ble_eq_true rfl) hl.1 dX7_riskOfPlan_8 ?_
  clear hW hcl; intro H locs hW
  refine lv_aload_n hx hb dX7_riskOfPlan_11 rfl (lv_at hl 1 rfl) ?_
  refine gf_X3_done X hW h1 m_1_60 dX7_riskOfPlan_12 ?_
  refine lv_iconst (v := (-1)) hx hb dX7_riskOfPlan_15 (by decide) ?_
  refine lv_ixor hx hb dX7_riskOfPlan_16 ?_
  refine lv_iand hx hb dX7_riskOfPlan_17 ?_
  obtain ⟨r_3, hcl, h⟩ := bind_el h
  refine call_V1 X hW (kC_X3 h1) m_2_216 m_2_217 m_2_218 mv_X3_riskOf (c_X3_riskOf h1 hcl) (by decide) rfl rfl (Nat.le_of_ble_eq_true rfl) hl.1 dX7_riskOfPlan_18 ?_
  clear hW hcl; intro H locs hW
  exact ri_end0 hret h dX7_riskOfPlan_21 hW
set_option maxRecDepth 20000 in
set_option maxHeartbeats 4000000 in
theorem bl_X7_smallestRisk_b56 {σ : St} (X : Cx G p R s m args c cells slots cX7_smallestRisk 5 RX7 4) {r : Int32} (hret : R_I G p l e R s m args below meth c cells slots Q cX7_smallestRisk r σ) {k4 : Nat → Nat → Int32 → Int32 → (Option (Int32))}
    (hk4 : ∀ (v0 : Nat) (h0 : kd v0 = 6) (v1 : Nat) (h1 : kd v1 = 3) (v2 : Int32) (v3 : Int32) (_ : k4 v0 v1 v2 v3 = some r) (H : Heap) (locs : List Loc) (ls : Array Slot) (_ : GW G σ s H locs) (_ : lv_has ls 5 [(0, .ref (gz G + (v0))), (1, .ref (gz G + (v1))), (2, .int (v2)), (3, .int (v3))]), W p l e R s m args below meth c H locs cells slots Q (F0 m 4 ls [])) :
    ∀ (v0 : Nat) (h0 : kd v0 = 6) (v1 : Nat) (h1 : kd v1 = 3) (v2 : Int32) (v3 : Int32) (_ : pf_X7_smallestRisk_b56 σ k4 v0 v1 v2 v3 = some r) (H : Heap) (locs : List Loc) (ls : Array Slot) (_ : GW G σ s H locs) (_ : lv_has ls 5 [(0, .ref (gz G + (v0))), (1, .ref (gz G + (v1))), (2, .int (v2)), (3, .int (v3))]), W p l e R s m args below meth c H locs cells slots Q (F0 m 56 ls []) := by
  have hx := X.1.1
  have hb := X.1.2.1
  intro v0 h0 v1 h1 v2 v3 h H locs ls hW hl
  unfold pf_X7_smallestRisk_b56 at h
  refine w_iinc (v := 1) (lv' := fun y => [(3, .int (y)), (0, .ref (gz G + (v0))), (1, .ref (gz G + (v1))), (2, .int (v2))]) hx hb dX7_smallestRisk_56 hl (k := 3) rfl (by decide) (by decide) (fun _ => rfl) h ?_
  clear h hl; intro v3_1 h ls hl
  refine lv_goto (tgt := 4) hx hb dX7_smallestRisk_59 (by decide) ?_
  exact hk4 v0 h0 v1 h1 v2 v3_1 h _ _ _ hW (lv_sub hl [1, 2, 3, 0] rfl)
set_option maxRecDepth 20000 in
set_option maxHeartbeats 4000000 in
theorem bl_X7_smallestRisk_b55 {σ : St} (X : Cx G p R s m args c cells slots cX7_smallestRisk 5 RX7 4) {r : Int32} (hret : R_I G p l e R s m args below meth c cells slots Q cX7_smallestRisk r σ) {k4 : Nat → Nat → Int32 → Int32 → (Option (Int32))}
    (hk4 : ∀ (v0 : Nat) (h0 : kd v0 = 6) (v1 : Nat) (h1 : kd v1 = 3) (v2 : Int32) (v3 : Int32) (_ : k4 v0 v1 v2 v3 = some r) (H : Heap) (locs : List Loc) (ls : Array Slot) (_ : GW G σ s H locs) (_ : lv_has ls 5 [(0, .ref (gz G + (v0))), (1, .ref (gz G + (v1))), (2, .int (v2)), (3, .int (v3))]), W p l e R s m args below meth c H locs cells slots Q (F0 m 4 ls [])) :
    ∀ (v0 : Nat) (h0 : kd v0 = 6) (v1 : Nat) (h1 : kd v1 = 3) (v3 : Int32) (s0 : Int32) (_ : pf_X7_smallestRisk_b55 σ k4 v0 v1 v3 s0 = some r) (H : Heap) (locs : List Loc) (ls : Array Slot) (_ : GW G σ s H locs) (_ : lv_has ls 5 [(0, .ref (gz G + (v0))), (1, .ref (gz G + (v1))), (3, .int (v3))]), W p l e R s m args below meth c H locs cells slots Q (F0 m 55 ls [.int (s0)]) := by
  have hx := X.1.1
  have hb := X.1.2.1
  intro v0 h0 v1 h1 v3 s0 h H locs ls hW hl
  unfold pf_X7_smallestRisk_b55 at h
  refine lv_istore_n (lv' := [(2, .int (s0)), (0, .ref (gz G + (v0))), (1, .ref (gz G + (v1))), (3, .int (v3))]) hx hb dX7_smallestRisk_55 rfl hl (by decide) rfl ?_
  clear hl; intro ls hl
  exact bl_X7_smallestRisk_b56 X hret hk4 v0 h0 v1 h1 s0 v3 h _ _ _ hW (lv_sub hl [1, 2, 0, 3] rfl)
set_option maxRecDepth 20000 in
set_option maxHeartbeats 4000000 in
theorem bl_X7_smallestRisk_L4 {σ : St} (X : Cx G p R s m args c cells slots cX7_smallestRisk 5 RX7 4) {r : Int32} (hret : R_I G p l e R s m args below meth c cells slots Q cX7_smallestRisk r σ) :
    ∀ (n : Nat), ∀ (v0 : Nat) (h0 : kd v0 = 6) (v1 : Nat) (h1 : kd v1 = 3) (v2 : Int32) (v3 : Int32) (_ : pf_X7_smallestRisk_L4 σ n v0 v1 v2 v3 = some r) (H : Heap) (locs : List Loc) (ls : Array Slot) (_ : GW G σ s H locs) (_ : lv_has ls 5 [(0, .ref (gz G + (v0))), (1, .ref (gz G + (v1))), (2, .int (v2)), (3, .int (v3))]), W p l e R s m args below meth c H locs cells slots Q (F0 m 4 ls []) := by
  have hx := X.1.1
  have hb := X.1.2.1
  intro n
  induction n with
  | zero => intro v0 h0 v1 h1 v2 v3 h H locs ls hW hl; cases h
  | succ n ih =>
    intro v0 h0 v1 h1 v2 v3 h H locs ls hW hl
    rw [pf_X7_smallestRisk_L4.eq_2] at h
    refine lv_iload_n hx hb dX7_smallestRisk_4 rfl (lv_at hl 3 rfl) ?_
    refine lv_bipush (v := 64) hx hb dX7_smallestRisk_5 (by decide) ?_
    refine lv_icmp_ge (tgt := 62) hx hb dX7_smallestRisk_7 (by decide) (fun hc => ?_) (fun hc => ?_)
    · replace h := if_t hc h
      refine lv_iload_n hx hb dX7_smallestRisk_62 rfl (lv_at hl 2 rfl) ?_
      exact ri_end0 hret h dX7_smallestRisk_63 hW
    · replace h := if_f hc h
      refine lv_aload_n hx hb dX7_smallestRisk_10 rfl (lv_at hl 0 rfl) ?_
      refine lv_iload_n hx hb dX7_smallestRisk_11 rfl (lv_at hl 3 rfl) ?_
      obtain ⟨r_1, hcl, h⟩ := bind_el h
      refine call_V1 X hW (kC_X7 h0) m_2_139 m_2_141 m_0_3 mv_X7_isReached (c_X7_isReached h0 hcl) (by decide) rfl rfl (Nat.le_of_ble_eq_true rfl) hl.1 dX7_smallestRisk_12 ?_
      clear hW hcl; intro H locs hW
      refine lv_if_eq (tgt := 56) hx hb dX7_smallestRisk_15 (by decide) (fun hc => ?_) (fun hc => ?_)
      · replace h := if_t hc h
        exact bl_X7_smallestRisk_b56 X hret ih v0 h0 v1 h1 v2 v3 h _ _ _ hW (lv_sub hl [0, 1, 2, 3] rfl)
      · replace h := if_f hc h
        refine lv_aload_n hx hb dX7_smallestRisk_18 rfl (lv_at hl 1 rfl) ?_
        refine lv_iload_n hx hb dX7_smallestRisk_19 rfl (lv_at hl 3 rfl) ?_
        obtain ⟨r_2, hcl, h⟩ := bind_el h
        refine call_V1 X hW (kC_X3 h1) m_2_143 m_2_144 m_2_145 mv_X3_goalHolds (c_X3_goalHolds h1 hcl) (by decide) rfl rfl (Nat.le_of_ble_eq_true rfl) hl.1 dX7_smallestRisk_20 ?_
        clear hW hcl; intro H locs hW
        refine lv_if_eq (tgt := 56) hx hb dX7_smallestRisk_23 (by decide) (fun hc => ?_) (fun hc => ?_)
        · replace h := if_t hc h
          exact bl_X7_smallestRisk_b56 X hret ih v0 h0 v1 h1 v2 v3 h _ _ _ hW (lv_sub hl [0, 1, 2, 3] rfl)
        · replace h := if_f hc h
          refine lv_aload_n hx hb dX7_smallestRisk_26 rfl (lv_at hl 1 rfl) ?_
          refine lv_iload_n hx hb dX7_smallestRisk_27 rfl (lv_at hl 3 rfl) ?_
          refine lv_aload_n hx hb dX7_smallestRisk_28 rfl (lv_at hl 1 rfl) ?_
          refine gf_X3_done X hW h1 m_1_60 dX7_smallestRisk_29 ?_
          refine lv_iconst (v := (-1)) hx hb dX7_smallestRisk_32 (by decide) ?_
          refine lv_ixor hx hb dX7_smallestRisk_33 ?_
          refine lv_iand hx hb dX7_smallestRisk_34 ?_
          obtain ⟨r_3, hcl, h⟩ := bind_el h
          refine call_V1 X hW (kC_X3 h1) m_2_216 m_2_217 m_2_218 mv_X3_riskOf (c_X3_riskOf h1 hcl) (by decide) rfl rfl (Nat.le_of_ble_eq_true rfl) hl.1 dX7_smallestRisk_35 ?_
          clear hW hcl; intro H locs hW
          refine lv_istore (lv' := [(4, .int (r_3)), (0, .ref (gz G + (v0))), (1, .ref (gz G + (v1))), (2, .int (v2)), (3, .int (v3))]) hx hb dX7_smallestRisk_38 hl (by decide) rfl ?_
          clear hl; intro ls hl
          refine lv_iload_n hx hb dX7_smallestRisk_40 rfl (lv_at hl 3 rfl) ?_
          refine lv_if_ge (tgt := 49) hx hb dX7_smallestRisk_41 (by decide) (fun hc => ?_) (fun hc => ?_)
          · replace h := if_t hc h
            refine lv_iload_n hx hb dX7_smallestRisk_49 rfl (lv_at hl 3 rfl) ?_
            refine lv_iload hx hb dX7_smallestRisk_50 (lv_at hl 0 rfl) ?_
            obtain ⟨r_4, hcl, h⟩ := bind_el h
            refine call_S1 X hW m_2_171 m_2_172 mv_J9_min_7cf53 (c_J9_min_7cf53 hcl) (by decide) rfl rfl (Nat.le_of_ble_eq_true rfl) hl.1 dX7_smallestRisk_52 ?_
            clear hW hcl; intro H locs hW
            exact bl_X7_smallestRisk_b55 X hret ih v0 h0 v1 h1 v3 r_4 h _ _ _ hW (lv_sub hl [1, 2, 4] rfl)
          · replace h := if_f hc h
            refine lv_iload hx hb dX7_smallestRisk_44 (lv_at hl 0 rfl) ?_
            refine lv_goto (tgt := 55) hx hb dX7_smallestRisk_46 (by decide) ?_
            exact bl_X7_smallestRisk_b55 X hret ih v0 h0 v1 h1 v3 r_3 h _ _ _ hW (lv_sub hl [1, 2, 4] rfl)
set_option maxRecDepth 20000 in
set_option maxHeartbeats 4000000 in
theorem c_X7_smallestRisk {G : Gt} {l : Launch} {v0 : Nat} (h0 : kd v0 = 6) {v1 : Nat} (h1 : kd v1 = 3) {σ : St} {r : Int32} (hf : pf_X7_smallestRisk v0 v1 σ = some r) : Ct G l yX7_smallestRisk cX7_smallestRisk 5 (some .int) 4 [.ref (gz G + (v0)), .ref (gz G + (v1))] σ (some (.int r)) σ := by
  refine met_i (by decide +kernel) (Nat.le_of_ble_eq_true rfl) rfl ?_
  intro p e s m args below meth c Q ls X hW hret hl
  have hx := X.1.1
  have hb := X.1.2.1
  have hl : lv_has ls 5 [(0, .ref (gz G + (v0))), (1, .ref (gz G + (v1)))] := hl
  have h := hf
  clear hf
  unfold pf_X7_smallestRisk at h
  refine lv_iconst (v := (-1)) hx hb dX7_smallestRisk_0 (by decide) ?_
  refine lv_istore_n (lv' := [(2, .int ((-1))), (0, .ref (gz G + (v0))), (1, .ref (gz G + (v1)))]) hx hb dX7_smallestRisk_1 rfl hl (by decide) rfl ?_
  clear hl; intro ls hl
  refine lv_iconst (v := 0) hx hb dX7_smallestRisk_2 (by decide) ?_
  refine lv_istore_n (lv' := [(3, .int (0)), (2, .int ((-1))), (0, .ref (gz G + (v0))), (1, .ref (gz G + (v1)))]) hx hb dX7_smallestRisk_3 rfl hl (by decide) rfl ?_
  clear hl; intro ls hl
  exact bl_X7_smallestRisk_L4 X hret FU v0 h0 v1 h1 (-1) 0 h _ _ _ hW (lv_sub hl [2, 3, 1, 0] rfl)
set_option maxRecDepth 20000 in
set_option maxHeartbeats 4000000 in
theorem c_J13_bitCount_95d88 {G : Gt} {l : Launch} {v0 : Int64} {σ : St} {r : Int32} (hf : pf_J13_bitCount_95d88 v0 σ = some r) : Ct G l yJ13_bitCount_95d88 cJ13_bitCount_95d88 2 (some .int) 2 [.long (v0)] σ (some (.int r)) σ := by
  refine met_i (by decide +kernel) (Nat.le_of_ble_eq_true rfl) rfl ?_
  intro p e s m args below meth c Q ls X hW hret hl
  have hx := X.1.1
  have hb := X.1.2.1
  have hl : lv_has ls 2 [(0, .long (v0))] := hl
  have h := hf
  clear hf
  unfold pf_J13_bitCount_95d88 at h
  refine lv_lload_n hx hb dJ13_bitCount_95d88_0 rfl (lv_at hl 0 rfl) ?_
  refine lv_lload_n hx hb dJ13_bitCount_95d88_1 rfl (lv_at hl 0 rfl) ?_
  refine lv_iconst (v := 1) hx hb dJ13_bitCount_95d88_2 (by decide) ?_
  refine w_lushr hx hb dJ13_bitCount_95d88_3 ?_
  refine lv_ldc2 (v := 6148914691236517205) hx hb X.1.2.2.2.1 (X.1.2.2.2.2 _ m_5_108) dJ13_bitCount_95d88_4 ?_
  refine lv_land hx hb dJ13_bitCount_95d88_7 ?_
  refine lv_lsub hx hb dJ13_bitCount_95d88_8 ?_
  refine nm_l h ?_
  clear h; intro v0_1 h
  refine lv_lstore_n (lv' := [(0, .long (v0_1))]) hx hb dJ13_bitCount_95d88_9 rfl hl (by decide) rfl ?_
  clear hl; intro ls hl
  refine lv_lload_n hx hb dJ13_bitCount_95d88_10 rfl (lv_at hl 0 rfl) ?_
  refine lv_ldc2 (v := 3689348814741910323) hx hb X.1.2.2.2.1 (X.1.2.2.2.2 _ m_5_109) dJ13_bitCount_95d88_11 ?_
  refine lv_land hx hb dJ13_bitCount_95d88_14 ?_
  refine lv_lload_n hx hb dJ13_bitCount_95d88_15 rfl (lv_at hl 0 rfl) ?_
  refine lv_iconst (v := 2) hx hb dJ13_bitCount_95d88_16 (by decide) ?_
  refine w_lushr hx hb dJ13_bitCount_95d88_17 ?_
  refine lv_ldc2 (v := 3689348814741910323) hx hb X.1.2.2.2.1 (X.1.2.2.2.2 _ m_5_109) dJ13_bitCount_95d88_18 ?_
  refine lv_land hx hb dJ13_bitCount_95d88_21 ?_
  refine lv_ladd hx hb dJ13_bitCount_95d88_22 ?_
  refine nm_l h ?_
  clear h; intro v0_2 h
  refine lv_lstore_n (lv' := [(0, .long (v0_2))]) hx hb dJ13_bitCount_95d88_23 rfl hl (by decide) rfl ?_
  clear hl; intro ls hl
  refine lv_lload_n hx hb dJ13_bitCount_95d88_24 rfl (lv_at hl 0 rfl) ?_
  refine lv_lload_n hx hb dJ13_bitCount_95d88_25 rfl (lv_at hl 0 rfl) ?_
  refine lv_iconst (v := 4) hx hb dJ13_bitCount_95d88_26 (by decide) ?_
  refine w_lushr hx hb dJ13_bitCount_95d88_27 ?_
  refine lv_ladd hx hb dJ13_bitCount_95d88_28 ?_
  refine lv_ldc2 (v := 1085102592571150095) hx hb X.1.2.2.2.1 (X.1.2.2.2.2 _ m_5_110) dJ13_bitCount_95d88_29 ?_
  refine lv_land hx hb dJ13_bitCount_95d88_32 ?_
  refine nm_l h ?_
  clear h; intro v0_3 h
  refine lv_lstore_n (lv' := [(0, .long (v0_3))]) hx hb dJ13_bitCount_95d88_33 rfl hl (by decide) rfl ?_
  clear hl; intro ls hl
  refine lv_lload_n hx hb dJ13_bitCount_95d88_34 rfl (lv_at hl 0 rfl) ?_
  refine lv_lload_n hx hb dJ13_bitCount_95d88_35 rfl (lv_at hl 0 rfl) ?_
  refine lv_bipush (v := 8) hx hb dJ13_bitCount_95d88_36 (by decide) ?_
  refine w_lushr hx hb dJ13_bitCount_95d88_38 ?_
  refine lv_ladd hx hb dJ13_bitCount_95d88_39 ?_
  refine nm_l h ?_
  clear h; intro v0_4 h
  refine lv_lstore_n (lv' := [(0, .long (v0_4))]) hx hb dJ13_bitCount_95d88_40 rfl hl (by decide) rfl ?_
  clear hl; intro ls hl
  refine lv_lload_n hx hb dJ13_bitCount_95d88_41 rfl (lv_at hl 0 rfl) ?_
  refine lv_lload_n hx hb dJ13_bitCount_95d88_42 rfl (lv_at hl 0 rfl) ?_
  refine lv_bipush (v := 16) hx hb dJ13_bitCount_95d88_43 (by decide) ?_
  refine w_lushr hx hb dJ13_bitCount_95d88_45 ?_
  refine lv_ladd hx hb dJ13_bitCount_95d88_46 ?_
  refine nm_l h ?_
  clear h; intro v0_5 h
  refine lv_lstore_n (lv' := [(0, .long (v0_5))]) hx hb dJ13_bitCount_95d88_47 rfl hl (by decide) rfl ?_
  clear hl; intro ls hl
  refine lv_lload_n hx hb dJ13_bitCount_95d88_48 rfl (lv_at hl 0 rfl) ?_
  refine lv_lload_n hx hb dJ13_bitCount_95d88_49 rfl (lv_at hl 0 rfl) ?_
  refine lv_bipush (v := 32) hx hb dJ13_bitCount_95d88_50 (by decide) ?_
  refine w_lushr hx hb dJ13_bitCount_95d88_52 ?_
  refine lv_ladd hx hb dJ13_bitCount_95d88_53 ?_
  refine nm_l h ?_
  clear h; intro v0_6 h
  refine lv_lstore_n (lv' := [(0, .long (v0_6))]) hx hb dJ13_bitCount_95d88_54 rfl hl (by decide) rfl ?_
  clear hl; intro ls hl
  refine lv_lload_n hx hb dJ13_bitCount_95d88_55 rfl (lv_at hl 0 rfl) ?_
  refine lv_l2i hx hb dJ13_bitCount_95d88_56 rfl ?_
  refine lv_bipush (v := 127) hx hb dJ13_bitCount_95d88_57 (by decide) ?_
  refine lv_iand hx hb dJ13_bitCount_95d88_59 ?_
  exact ri_end0 hret h dJ13_bitCount_95d88_60 hW
set_option maxRecDepth 20000 in
set_option maxHeartbeats 4000000 in
theorem c_X7_countEndings {G : Gt} {l : Launch} {v0 : Nat} (h0 : kd v0 = 6) {v1 : Nat} (h1 : kd v1 = 3) {σ : St} {r : Int32} (hf : pf_X7_countEndings v0 v1 σ = some r) : Ct G l yX7_countEndings cX7_countEndings 2 (some .int) 3 [.ref (gz G + (v0)), .ref (gz G + (v1))] σ (some (.int r)) σ := by
  refine met_i (by decide +kernel) (Nat.le_of_ble_eq_true rfl) rfl ?_
  intro p e s m args below meth c Q ls X hW hret hl
  have hx := X.1.1
  have hb := X.1.2.1
  have hl : lv_has ls 2 [(0, .ref (gz G + (v0))), (1, .ref (gz G + (v1)))] := hl
  have h := hf
  clear hf
  unfold pf_X7_countEndings at h
  refine lv_aload_n hx hb dX7_countEndings_0 rfl (lv_at hl 0 rfl) ?_
  refine gf_X7_reached X hW h0 m_2_35 dX7_countEndings_1 ?_
  refine lv_aload_n hx hb dX7_countEndings_4 rfl (lv_at hl 1 rfl) ?_
  refine gf_X3_goal X hW h1 m_1_73 dX7_countEndings_5 ?_
  refine lv_land hx hb dX7_countEndings_8 ?_
  obtain ⟨r_1, hcl, h⟩ := bind_el h
  refine call_S1 X hW m_5_105 m_5_106 mv_J13_bitCount_95d88 (c_J13_bitCount_95d88 hcl) (by decide) rfl rfl (Nat.le_of_ble_eq_true rfl) hl.1 dX7_countEndings_9 ?_
  clear hW hcl; intro H locs hW
  exact ri_end0 hret h dX7_countEndings_12 hW
set_option maxRecDepth 20000 in
set_option maxHeartbeats 4000000 in
theorem c_X8_see {G : Gt} {l : Launch} {v0 : Nat} (h0 : kd v0 = 7) {v1 : Int32} {v2 : Int32} {σ : St} {σ' : St} (hf : pf_X8_see v0 v1 v2 σ = some σ') : Ct G l yX8_see cX8_see 3 none 3 [.ref (gz G + (v0)), .int (v1), .int (v2)] σ none σ' := by
  refine met_v (by decide +kernel) (Nat.le_of_ble_eq_true rfl) rfl ?_
  intro p e s m args below meth c Q ls X hW hret hl
  have hx := X.1.1
  have hb := X.1.2.1
  have hl : lv_has ls 3 [(0, .ref (gz G + (v0))), (1, .int (v1)), (2, .int (v2))] := hl
  have h := hf
  clear hf
  unfold pf_X8_see at h
  refine lv_aload_n hx hb dX8_see_0 rfl (lv_at hl 0 rfl) ?_
  refine gf_X8_seen X hW h0 m_2_53 dX8_see_1 ?_
  refine lv_iconst (v := (-1)) hx hb dX8_see_4 (by decide) ?_
  refine lv_iload_n hx hb dX8_see_5 rfl (lv_at hl 1 rfl) ?_
  refine lv_isub hx hb dX8_see_6 ?_
  refine lv_iload_n hx hb dX8_see_7 rfl (lv_at hl 2 rfl) ?_
  obtain ⟨σ_1, hcl, h⟩ := bind_el h
  refine call_SN0 X hW m_2_205 m_2_98 mv_X10_put (c_X10_put (kf_X8_seen h0) hcl) (by decide) rfl rfl (Nat.le_of_ble_eq_true rfl) hl.1 dX8_see_8 ?_
  clear hW hcl; intro H locs hW
  exact rv_end hret h dX8_see_11 hW
set_option maxRecDepth 20000 in
set_option maxHeartbeats 4000000 in
theorem c_J9_max_f86c9 {G : Gt} {l : Launch} {v0 : Int64} {v2 : Int64} {σ : St} {r : Int64} (hf : pf_J9_max_f86c9 v0 v2 σ = some r) : Ct G l yJ9_max_f86c9 cJ9_max_f86c9 4 (some .long) 2 [.long (v0), .long (v2)] σ (some (.long r)) σ := by
  refine met_l (by decide +kernel) (Nat.le_of_ble_eq_true rfl) rfl ?_
  intro p e s m args below meth c Q ls X hW hret hl
  have hx := X.1.1
  have hb := X.1.2.1
  have hl : lv_has ls 4 [(0, .long (v0)), (2, .long (v2))] := hl
  have h := hf
  clear hf
  unfold pf_J9_max_f86c9 at h
  refine lv_lload_n hx hb dJ9_max_f86c9_0 rfl (lv_at hl 0 rfl) ?_
  refine lv_lload_n hx hb dJ9_max_f86c9_1 rfl (lv_at hl 1 rfl) ?_
  refine W.lcmp hx hb dJ9_max_f86c9_2 ?_
  refine lv_if_lt (tgt := 10) hx hb dJ9_max_f86c9_3 (by decide) (fun hc => ?_) (fun hc => ?_)
  · replace h := if_t (lcmp_lt.mp hc) h
    refine lv_lload_n hx hb dJ9_max_f86c9_10 rfl (lv_at hl 1 rfl) ?_
    exact rl_end0 hret h dJ9_max_f86c9_11 hW
  · replace h := if_f (fun q => hc (lcmp_lt.mpr q)) h
    refine lv_lload_n hx hb dJ9_max_f86c9_6 rfl (lv_at hl 0 rfl) ?_
    refine lv_goto (tgt := 11) hx hb dJ9_max_f86c9_7 (by decide) ?_
    exact rl_end0 hret h dJ9_max_f86c9_11 hW
set_option maxRecDepth 20000 in
set_option maxHeartbeats 4000000 in
theorem c_J9_min_f86c9 {G : Gt} {l : Launch} {v0 : Int64} {v2 : Int64} {σ : St} {r : Int64} (hf : pf_J9_min_f86c9 v0 v2 σ = some r) : Ct G l yJ9_min_f86c9 cJ9_min_f86c9 4 (some .long) 2 [.long (v0), .long (v2)] σ (some (.long r)) σ := by
  refine met_l (by decide +kernel) (Nat.le_of_ble_eq_true rfl) rfl ?_
  intro p e s m args below meth c Q ls X hW hret hl
  have hx := X.1.1
  have hb := X.1.2.1
  have hl : lv_has ls 4 [(0, .long (v0)), (2, .long (v2))] := hl
  have h := hf
  clear hf
  unfold pf_J9_min_f86c9 at h
  refine lv_lload_n hx hb dJ9_min_f86c9_0 rfl (lv_at hl 0 rfl) ?_
  refine lv_lload_n hx hb dJ9_min_f86c9_1 rfl (lv_at hl 1 rfl) ?_
  refine W.lcmp hx hb dJ9_min_f86c9_2 ?_
  refine lv_if_gt (tgt := 10) hx hb dJ9_min_f86c9_3 (by decide) (fun hc => ?_) (fun hc => ?_)
  · replace h := if_t (lcmp_gt.mp hc) h
    refine lv_lload_n hx hb dJ9_min_f86c9_10 rfl (lv_at hl 1 rfl) ?_
    exact rl_end0 hret h dJ9_min_f86c9_11 hW
  · replace h := if_f (fun q => hc (lcmp_gt.mpr q)) h
    refine lv_lload_n hx hb dJ9_min_f86c9_6 rfl (lv_at hl 0 rfl) ?_
    refine lv_goto (tgt := 11) hx hb dJ9_min_f86c9_7 (by decide) ?_
    exact rl_end0 hret h dJ9_min_f86c9_11 hW
set_option maxRecDepth 20000 in
set_option maxHeartbeats 4000000 in
theorem bl_X8_join_b59 {σ : St} (X : Cx G p R s m args c cells slots cX8_join 5 RX8 3) {r : Int32} (hret : R_I G p l e R s m args below meth c cells slots Q cX8_join r σ) :
    ∀ (v3 : Int64) (_ : pf_X8_join_b59 σ v3 = some r) (H : Heap) (locs : List Loc) (ls : Array Slot) (_ : GW G σ s H locs) (_ : lv_has ls 5 [(3, .long (v3))]), W p l e R s m args below meth c H locs cells slots Q (F0 m 59 ls []) := by
  have hx := X.1.1
  have hb := X.1.2.1
  intro v3 h H locs ls hW hl
  unfold pf_X8_join_b59 at h
  refine lv_ldc2 (v := (-1000000)) hx hb X.1.2.2.2.1 (X.1.2.2.2.2 _ m_3_6) dX8_join_59 ?_
  refine lv_ldc2 (v := 1000000) hx hb X.1.2.2.2.1 (X.1.2.2.2.2 _ m_3_7) dX8_join_62 ?_
  refine lv_lload_n hx hb dX8_join_65 rfl (lv_at hl 0 rfl) ?_
  obtain ⟨r_1, hcl, h⟩ := bind_el h
  refine call_S1 X hW m_3_8 m_3_9 mv_J9_min_f86c9 (c_J9_min_f86c9 hcl) (by decide) rfl rfl (Nat.le_of_ble_eq_true rfl) hl.1 dX8_join_66 ?_
  clear hW hcl; intro H locs hW
  obtain ⟨r_2, hcl, h⟩ := bind_el h
  refine call_S1 X hW m_3_11 m_3_12 mv_J9_max_f86c9 (c_J9_max_f86c9 hcl) (by decide) rfl rfl (Nat.le_of_ble_eq_true rfl) hl.1 dX8_join_69 ?_
  clear hW hcl; intro H locs hW
  refine lv_l2i hx hb dX8_join_72 rfl ?_
  exact ri_end0 hret h dX8_join_73 hW
set_option maxRecDepth 20000 in
set_option maxHeartbeats 4000000 in
theorem bl_X8_join_b58 {σ : St} (X : Cx G p R s m args c cells slots cX8_join 5 RX8 3) {r : Int32} (hret : R_I G p l e R s m args below meth c cells slots Q cX8_join r σ) :
    ∀ (s0 : Int64) (_ : pf_X8_join_b58 σ s0 = some r) (H : Heap) (locs : List Loc) (ls : Array Slot) (_ : GW G σ s H locs) (_ : lv_has ls 5 []), W p l e R s m args below meth c H locs cells slots Q (F0 m 58 ls [.long (s0)]) := by
  have hx := X.1.1
  have hb := X.1.2.1
  intro s0 h H locs ls hW hl
  unfold pf_X8_join_b58 at h
  refine lv_lstore_n (lv' := [(3, .long (s0))]) hx hb dX8_join_58 rfl hl (by decide) rfl ?_
  clear hl; intro ls hl
  exact bl_X8_join_b59 X hret s0 h _ _ _ hW (lv_sub hl [0] rfl)
set_option maxRecDepth 20000 in
set_option maxHeartbeats 4000000 in
theorem c_X8_join {G : Gt} {l : Launch} {v0 : Int32} {v1 : Int32} {v2 : Int32} {σ : St} {r : Int32} (hf : pf_X8_join v0 v1 v2 σ = some r) : Ct G l yX8_join cX8_join 5 (some .int) 3 [.int (v0), .int (v1), .int (v2)] σ (some (.int r)) σ := by
  refine met_i (by decide +kernel) (Nat.le_of_ble_eq_true rfl) rfl ?_
  intro p e s m args below meth c Q ls X hW hret hl
  have hx := X.1.1
  have hb := X.1.2.1
  have hl : lv_has ls 5 [(0, .int (v0)), (1, .int (v1)), (2, .int (v2))] := hl
  have h := hf
  clear hf
  unfold pf_X8_join at h
  refine lv_iload_n hx hb dX8_join_0 rfl (lv_at hl 1 rfl) ?_
  refine lv_bipush (v := (-7)) hx hb dX8_join_1 (by decide) ?_
  refine lv_icmp_ne (tgt := 15) hx hb dX8_join_3 (by decide) (fun hc => ?_) (fun hc => ?_)
  · replace h := if_f hc h
    refine lv_iload_n hx hb dX8_join_15 rfl (lv_at hl 1 rfl) ?_
    refine lv_bipush (v := (-8)) hx hb dX8_join_16 (by decide) ?_
    refine lv_icmp_ne (tgt := 30) hx hb dX8_join_18 (by decide) (fun hc => ?_) (fun hc => ?_)
    · replace h := if_f hc h
      refine lv_iload_n hx hb dX8_join_30 rfl (lv_at hl 1 rfl) ?_
      refine lv_bipush (v := (-9)) hx hb dX8_join_31 (by decide) ?_
      refine lv_icmp_ne (tgt := 45) hx hb dX8_join_33 (by decide) (fun hc => ?_) (fun hc => ?_)
      · replace h := if_f hc h
        refine lv_iload_n hx hb dX8_join_45 rfl (lv_at hl 2 rfl) ?_
        refine lv_if_ne (tgt := 53) hx hb dX8_join_46 (by decide) (fun hc => ?_) (fun hc => ?_)
        · replace h := if_f hc h
          refine lv_iload_n hx hb dX8_join_53 rfl (lv_at hl 0 rfl) ?_
          refine lv_i2l hx hb dX8_join_54 rfl ?_
          refine lv_iload_n hx hb dX8_join_55 rfl (lv_at hl 2 rfl) ?_
          refine lv_i2l hx hb dX8_join_56 rfl ?_
          obtain ⟨hn, h⟩ := ckL_el h
          refine lv_ldiv hx hb dX8_join_57 hn ?_
          exact bl_X8_join_b58 X hret (((v0).toInt64) / ((v2).toInt64)) h _ _ _ hW (lv_sub hl [] rfl)
        · replace h := if_t hc h
          refine lv_lconst (v := 0) hx hb dX8_join_49 (by decide) ?_
          refine lv_goto (tgt := 58) hx hb dX8_join_50 (by decide) ?_
          exact bl_X8_join_b58 X hret 0 h _ _ _ hW (lv_sub hl [] rfl)
      · replace h := if_t hc h
        refine lv_iload_n hx hb dX8_join_36 rfl (lv_at hl 0 rfl) ?_
        refine lv_i2l hx hb dX8_join_37 rfl ?_
        refine lv_iload_n hx hb dX8_join_38 rfl (lv_at hl 2 rfl) ?_
        refine lv_i2l hx hb dX8_join_39 rfl ?_
        refine lv_lmul hx hb dX8_join_40 ?_
        refine nm_l h ?_
        clear h; intro v3_3 h
        refine lv_lstore_n (lv' := [(3, .long (v3_3)), (0, .int (v0)), (1, .int (v1)), (2, .int (v2))]) hx hb dX8_join_41 rfl hl (by decide) rfl ?_
        clear hl; intro ls hl
        refine lv_goto (tgt := 59) hx hb dX8_join_42 (by decide) ?_
        exact bl_X8_join_b59 X hret v3_3 h _ _ _ hW (lv_sub hl [0] rfl)
    · replace h := if_t hc h
      refine lv_iload_n hx hb dX8_join_21 rfl (lv_at hl 0 rfl) ?_
      refine lv_i2l hx hb dX8_join_22 rfl ?_
      refine lv_iload_n hx hb dX8_join_23 rfl (lv_at hl 2 rfl) ?_
      refine lv_i2l hx hb dX8_join_24 rfl ?_
      refine lv_lsub hx hb dX8_join_25 ?_
      refine nm_l h ?_
      clear h; intro v3_2 h
      refine lv_lstore_n (lv' := [(3, .long (v3_2)), (0, .int (v0)), (1, .int (v1)), (2, .int (v2))]) hx hb dX8_join_26 rfl hl (by decide) rfl ?_
      clear hl; intro ls hl
      refine lv_goto (tgt := 59) hx hb dX8_join_27 (by decide) ?_
      exact bl_X8_join_b59 X hret v3_2 h _ _ _ hW (lv_sub hl [0] rfl)
  · replace h := if_t hc h
    refine lv_iload_n hx hb dX8_join_6 rfl (lv_at hl 0 rfl) ?_
    refine lv_i2l hx hb dX8_join_7 rfl ?_
    refine lv_iload_n hx hb dX8_join_8 rfl (lv_at hl 2 rfl) ?_
    refine lv_i2l hx hb dX8_join_9 rfl ?_
    refine lv_ladd hx hb dX8_join_10 ?_
    refine nm_l h ?_
    clear h; intro v3_1 h
    refine lv_lstore_n (lv' := [(3, .long (v3_1)), (0, .int (v0)), (1, .int (v1)), (2, .int (v2))]) hx hb dX8_join_11 rfl hl (by decide) rfl ?_
    clear hl; intro ls hl
    refine lv_goto (tgt := 59) hx hb dX8_join_12 (by decide) ?_
    exact bl_X8_join_b59 X hret v3_1 h _ _ _ hW (lv_sub hl [0] rfl)
set_option maxRecDepth 20000 in
set_option maxHeartbeats 4000000 in
theorem c_X8_pop {G : Gt} {l : Launch} {v0 : Nat} (h0 : kd v0 = 7) {σ : St} {r : Int32} {σ' : St} (hf : pf_X8_pop v0 σ = some (r, σ')) : Ct G l yX8_pop cX8_pop 1 (some .int) 3 [.ref (gz G + (v0))] σ (some (.int r)) σ' := by
  refine met_i (by decide +kernel) (Nat.le_of_ble_eq_true rfl) rfl ?_
  intro p e s m args below meth c Q ls X hW hret hl
  have hx := X.1.1
  have hb := X.1.2.1
  have hl : lv_has ls 1 [(0, .ref (gz G + (v0)))] := hl
  have h := hf
  clear hf
  unfold pf_X8_pop at h
  refine lv_aload_n hx hb dX8_pop_0 rfl (lv_at hl 0 rfl) ?_
  refine lv_dup hx hb dX8_pop_1 rfl ?_
  refine gf_X8_height X hW h0 m_2_52 dX8_pop_2 ?_
  refine lv_iconst (v := 1) hx hb dX8_pop_5 (by decide) ?_
  refine lv_isub hx hb dX8_pop_6 ?_
  refine sf_X8_height X hW h0 m_2_52 dX8_pop_7 ?_
  clear hW; intro H locs hW
  refine nm_s hW h ?_
  clear hW h; intro σ_1 hW h
  refine lv_aload_n hx hb dX8_pop_10 rfl (lv_at hl 0 rfl) ?_
  refine gf_X8_stack X hW h0 m_2_51 dX8_pop_11 ?_
  refine lv_aload_n hx hb dX8_pop_14 rfl (lv_at hl 0 rfl) ?_
  refine gf_X8_height X hW h0 m_2_52 dX8_pop_15 ?_
  obtain ⟨r_2, hcl, h⟩ := bind_el h
  refine call_SN1 X hW m_2_234 m_2_132 mv_X10_at (c_X10_at (kf_X8_stack h0) hcl) (by decide) rfl rfl (Nat.le_of_ble_eq_true rfl) hl.1 dX8_pop_18 ?_
  clear hW hcl; intro H locs hW
  exact ri_end hret h dX8_pop_21 hW
set_option maxRecDepth 20000 in
set_option maxHeartbeats 4000000 in
theorem c_X8_push {G : Gt} {l : Launch} {v0 : Nat} (h0 : kd v0 = 7) {v1 : Int32} {σ : St} {σ' : St} (hf : pf_X8_push v0 v1 σ = some σ') : Ct G l yX8_push cX8_push 2 none 3 [.ref (gz G + (v0)), .int (v1)] σ none σ' := by
  refine met_v (by decide +kernel) (Nat.le_of_ble_eq_true rfl) rfl ?_
  intro p e s m args below meth c Q ls X hW hret hl
  have hx := X.1.1
  have hb := X.1.2.1
  have hl : lv_has ls 2 [(0, .ref (gz G + (v0))), (1, .int (v1))] := hl
  have h := hf
  clear hf
  unfold pf_X8_push at h
  refine lv_aload_n hx hb dX8_push_0 rfl (lv_at hl 0 rfl) ?_
  refine gf_X8_stack X hW h0 m_2_51 dX8_push_1 ?_
  refine lv_aload_n hx hb dX8_push_4 rfl (lv_at hl 0 rfl) ?_
  refine gf_X8_height X hW h0 m_2_52 dX8_push_5 ?_
  refine lv_iload_n hx hb dX8_push_8 rfl (lv_at hl 1 rfl) ?_
  obtain ⟨σ_1, hcl, h⟩ := bind_el h
  refine call_SN0 X hW m_2_205 m_2_98 mv_X10_put (c_X10_put (kf_X8_stack h0) hcl) (by decide) rfl rfl (Nat.le_of_ble_eq_true rfl) hl.1 dX8_push_9 ?_
  clear hW hcl; intro H locs hW
  refine lv_aload_n hx hb dX8_push_12 rfl (lv_at hl 0 rfl) ?_
  refine lv_dup hx hb dX8_push_13 rfl ?_
  refine gf_X8_height X hW h0 m_2_52 dX8_push_14 ?_
  refine lv_iconst (v := 1) hx hb dX8_push_17 (by decide) ?_
  refine lv_iadd hx hb dX8_push_18 ?_
  refine sf_X8_height X hW h0 m_2_52 dX8_push_19 ?_
  clear hW; intro H locs hW
  refine nm_s hW h ?_
  clear hW h; intro σ_2 hW h
  exact rv_end hret h dX8_push_22 hW
set_option maxRecDepth 20000 in
set_option maxHeartbeats 4000000 in
theorem bl_X8_measure_b83 (X : Cx G p R s m args c cells slots cX8_measure 7 RX8 4) {r : Int32} {σ' : St} (hret : R_I G p l e R s m args below meth c cells slots Q cX8_measure r σ') {k7 : Nat → Nat → Int32 → Int32 → St → (Option (Int32 × St))}
    (hk7 : ∀ (v0 : Nat) (h0 : kd v0 = 7) (v1 : Nat) (h1 : kd v1 = 11) (v2 : Int32) (v3 : Int32) (σ : St) (_ : k7 v0 v1 v2 v3 σ = some (r, σ')) (H : Heap) (locs : List Loc) (ls : Array Slot) (_ : GW G σ s H locs) (_ : lv_has ls 7 [(0, .ref (gz G + (v0))), (1, .ref (gz G + (v1))), (2, .int (v2)), (3, .int (v3))]), W p l e R s m args below meth c H locs cells slots Q (F0 m 7 ls [])) :
    ∀ (v0 : Nat) (h0 : kd v0 = 7) (v1 : Nat) (h1 : kd v1 = 11) (v2 : Int32) (v3 : Int32) (σ : St) (_ : pf_X8_measure_b83 k7 v0 v1 v2 v3 σ = some (r, σ')) (H : Heap) (locs : List Loc) (ls : Array Slot) (_ : GW G σ s H locs) (_ : lv_has ls 7 [(0, .ref (gz G + (v0))), (1, .ref (gz G + (v1))), (2, .int (v2)), (3, .int (v3))]), W p l e R s m args below meth c H locs cells slots Q (F0 m 83 ls []) := by
  have hx := X.1.1
  have hb := X.1.2.1
  intro v0 h0 v1 h1 v2 v3 σ h H locs ls hW hl
  unfold pf_X8_measure_b83 at h
  refine w_iinc (v := 1) (lv' := fun y => [(3, .int (y)), (0, .ref (gz G + (v0))), (1, .ref (gz G + (v1))), (2, .int (v2))]) hx hb dX8_measure_83 hl (k := 3) rfl (by decide) (by decide) (fun _ => rfl) h ?_
  clear h hl; intro v3_1 h ls hl
  refine lv_goto (tgt := 7) hx hb dX8_measure_86 (by decide) ?_
  exact hk7 v0 h0 v1 h1 v2 v3_1 σ h _ _ _ hW (lv_sub hl [1, 2, 3, 0] rfl)
set_option maxRecDepth 20000 in
set_option maxHeartbeats 4000000 in
theorem bl_X8_measure_b89 (X : Cx G p R s m args c cells slots cX8_measure 7 RX8 4) {r : Int32} {σ' : St} (hret : R_I G p l e R s m args below meth c cells slots Q cX8_measure r σ') :
    ∀ (v0 : Nat) (h0 : kd v0 = 7) (σ : St) (_ : pf_X8_measure_b89 v0 σ = some (r, σ')) (H : Heap) (locs : List Loc) (ls : Array Slot) (_ : GW G σ s H locs) (_ : lv_has ls 7 [(0, .ref (gz G + (v0)))]), W p l e R s m args below meth c H locs cells slots Q (F0 m 89 ls []) := by
  have hx := X.1.1
  have hb := X.1.2.1
  intro v0 h0 σ h H locs ls hW hl
  unfold pf_X8_measure_b89 at h
  refine lv_aload_n hx hb dX8_measure_89 rfl (lv_at hl 0 rfl) ?_
  obtain ⟨r_1, σ_1, hcl, h⟩ := bnd2_el h
  refine call_V1 X hW (kC_X8 h0) m_2_239 m_3_1 m_0_11 mv_X8_pop (c_X8_pop h0 hcl) (by decide) rfl rfl (Nat.le_of_ble_eq_true rfl) hl.1 dX8_measure_90 ?_
  clear hW hcl; intro H locs hW
  exact ri_end hret h dX8_measure_93 hW
set_option maxRecDepth 20000 in
set_option maxHeartbeats 4000000 in
theorem bl_X8_measure_L7 (X : Cx G p R s m args c cells slots cX8_measure 7 RX8 4) {r : Int32} {σ' : St} (hret : R_I G p l e R s m args below meth c cells slots Q cX8_measure r σ') {k89 : Nat → St → (Option (Int32 × St))}
    (hk89 : ∀ (v0 : Nat) (h0 : kd v0 = 7) (σ : St) (_ : k89 v0 σ = some (r, σ')) (H : Heap) (locs : List Loc) (ls : Array Slot) (_ : GW G σ s H locs) (_ : lv_has ls 7 [(0, .ref (gz G + (v0)))]), W p l e R s m args below meth c H locs cells slots Q (F0 m 89 ls [])) :
    ∀ (n : Nat), ∀ (v0 : Nat) (h0 : kd v0 = 7) (v1 : Nat) (h1 : kd v1 = 11) (v2 : Int32) (v3 : Int32) (σ : St) (_ : pf_X8_measure_L7 k89 n v0 v1 v2 v3 σ = some (r, σ')) (H : Heap) (locs : List Loc) (ls : Array Slot) (_ : GW G σ s H locs) (_ : lv_has ls 7 [(0, .ref (gz G + (v0))), (1, .ref (gz G + (v1))), (2, .int (v2)), (3, .int (v3))]), W p l e R s m args below meth c H locs cells slots Q (F0 m 7 ls []) := by
  have hx := X.1.1
  have hb := X.1.2.1
  intro n
  induction n with
  | zero => intro v0 h0 v1 h1 v2 v3 σ h H locs ls hW hl; cases h
  | succ n ih =>
    intro v0 h0 v1 h1 v2 v3 σ h H locs ls hW hl
    rw [pf_X8_measure_L7.eq_2] at h
    refine lv_iload_n hx hb dX8_measure_7 rfl (lv_at hl 3 rfl) ?_
    refine lv_iload_n hx hb dX8_measure_8 rfl (lv_at hl 2 rfl) ?_
    refine lv_icmp_ge (tgt := 89) hx hb dX8_measure_9 (by decide) (fun hc => ?_) (fun hc => ?_)
    · replace h := if_t hc h
      exact hk89 v0 h0 σ h _ _ _ hW (lv_sub hl [0] rfl)
    · replace h := if_f hc h
      refine lv_aload_n hx hb dX8_measure_12 rfl (lv_at hl 1 rfl) ?_
      refine lv_iload_n hx hb dX8_measure_13 rfl (lv_at hl 3 rfl) ?_
      obtain ⟨r_1, hcl, h⟩ := bind_el h
      refine call_SN1 X hW m_2_234 m_2_132 mv_X10_at (c_X10_at h1 hcl) (by decide) rfl rfl (Nat.le_of_ble_eq_true rfl) hl.1 dX8_measure_14 ?_
      clear hW hcl; intro H locs hW
      refine lv_istore (lv' := [(4, .int (r_1)), (0, .ref (gz G + (v0))), (1, .ref (gz G + (v1))), (2, .int (v2)), (3, .int (v3))]) hx hb dX8_measure_17 hl (by decide) rfl ?_
      clear hl; intro ls hl
      refine lv_iload hx hb dX8_measure_19 (lv_at hl 0 rfl) ?_
      refine lv_if_lt (tgt := 33) hx hb dX8_measure_21 (by decide) (fun hc => ?_) (fun hc => ?_)
      · replace h := if_t hc h
        refine lv_iload hx hb dX8_measure_33 (lv_at hl 0 rfl) ?_
        refine lv_bipush (v := (-6)) hx hb dX8_measure_35 (by decide) ?_
        refine lv_icmp_lt (tgt := 58) hx hb dX8_measure_37 (by decide) (fun hc => ?_) (fun hc => ?_)
        · replace h := if_t hc h
          refine lv_aload_n hx hb dX8_measure_58 rfl (lv_at hl 1 rfl) ?_
          obtain ⟨r_2, σ_2, hcl, h⟩ := bnd2_el h
          refine call_V1 X hW (kC_X8 h0) m_2_239 m_3_1 m_0_11 mv_X8_pop (c_X8_pop h0 hcl) (by decide) rfl rfl (Nat.le_of_ble_eq_true rfl) hl.1 dX8_measure_59 ?_
          clear hW hcl; intro H locs hW
          refine lv_istore (lv' := [(5, .int (r_2)), (4, .int (r_1)), (0, .ref (gz G + (v0))), (1, .ref (gz G + (v1))), (2, .int (v2)), (3, .int (v3))]) hx hb dX8_measure_62 hl (by decide) rfl ?_
          clear hl; intro ls hl
          refine lv_aload_n hx hb dX8_measure_64 rfl (lv_at hl 2 rfl) ?_
          obtain ⟨r_3, σ_3, hcl, h⟩ := bnd2_el h
          refine call_V1 X hW (kC_X8 h0) m_2_239 m_3_1 m_0_11 mv_X8_pop (c_X8_pop h0 hcl) (by decide) rfl rfl (Nat.le_of_ble_eq_true rfl) hl.1 dX8_measure_65 ?_
          clear hW hcl; intro H locs hW
          refine lv_istore (lv' := [(6, .int (r_3)), (5, .int (r_2)), (4, .int (r_1)), (0, .ref (gz G + (v0))), (1, .ref (gz G + (v1))), (2, .int (v2)), (3, .int (v3))]) hx hb dX8_measure_68 hl (by decide) rfl ?_
          clear hl; intro ls hl
          refine lv_aload_n hx hb dX8_measure_70 rfl (lv_at hl 3 rfl) ?_
          refine lv_iload hx hb dX8_measure_71 (lv_at hl 0 rfl) ?_
          refine lv_iload hx hb dX8_measure_73 (lv_at hl 2 rfl) ?_
          refine lv_iload hx hb dX8_measure_75 (lv_at hl 1 rfl) ?_
          obtain ⟨r_4, hcl, h⟩ := bind_el h
          refine call_S1 X hW m_3_3 m_3_4 mv_X8_join (c_X8_join hcl) (by decide) rfl rfl (Nat.le_of_ble_eq_true rfl) hl.1 dX8_measure_77 ?_
          clear hW hcl; intro H locs hW
          obtain ⟨σ_5, hcl, h⟩ := bind_el h
          refine call_V0 X hW (kC_X8 h0) m_2_235 m_2_237 m_0_10 mv_X8_push (c_X8_push h0 hcl) (by decide) rfl rfl (Nat.le_of_ble_eq_true rfl) hl.1 dX8_measure_80 ?_
          clear hW hcl; intro H locs hW
          exact bl_X8_measure_b83 X hret ih v0 h0 v1 h1 v2 v3 σ_5 h _ _ _ hW (lv_sub hl [3, 4, 5, 6] rfl)
        · replace h := if_f hc h
          refine lv_aload_n hx hb dX8_measure_40 rfl (lv_at hl 1 rfl) ?_
          refine lv_aload_n hx hb dX8_measure_41 rfl (lv_at hl 1 rfl) ?_
          refine gf_X8_seen X hW h0 m_2_53 dX8_measure_42 ?_
          refine lv_iconst (v := (-1)) hx hb dX8_measure_45 (by decide) ?_
          refine lv_iload hx hb dX8_measure_46 (lv_at hl 0 rfl) ?_
          refine lv_isub hx hb dX8_measure_48 ?_
          obtain ⟨r_6, hcl, h⟩ := bind_el h
          refine call_SN1 X hW m_2_234 m_2_132 mv_X10_at (c_X10_at (kf_X8_seen h0) hcl) (by decide) rfl rfl (Nat.le_of_ble_eq_true rfl) hl.1 dX8_measure_49 ?_
          clear hW hcl; intro H locs hW
          obtain ⟨σ_7, hcl, h⟩ := bind_el h
          refine call_V0 X hW (kC_X8 h0) m_2_235 m_2_237 m_0_10 mv_X8_push (c_X8_push h0 hcl) (by decide) rfl rfl (Nat.le_of_ble_eq_true rfl) hl.1 dX8_measure_52 ?_
          clear hW hcl; intro H locs hW
          refine lv_goto (tgt := 83) hx hb dX8_measure_55 (by decide) ?_
          exact bl_X8_measure_b83 X hret ih v0 h0 v1 h1 v2 v3 σ_7 h _ _ _ hW (lv_sub hl [1, 2, 3, 4] rfl)
      · replace h := if_f hc h
        refine lv_aload_n hx hb dX8_measure_24 rfl (lv_at hl 1 rfl) ?_
        refine lv_iload hx hb dX8_measure_25 (lv_at hl 0 rfl) ?_
        obtain ⟨σ_8, hcl, h⟩ := bind_el h
        refine call_V0 X hW (kC_X8 h0) m_2_235 m_2_237 m_0_10 mv_X8_push (c_X8_push h0 hcl) (by decide) rfl rfl (Nat.le_of_ble_eq_true rfl) hl.1 dX8_measure_27 ?_
        clear hW hcl; intro H locs hW
        refine lv_goto (tgt := 83) hx hb dX8_measure_30 (by decide) ?_
        exact bl_X8_measure_b83 X hret ih v0 h0 v1 h1 v2 v3 σ_8 h _ _ _ hW (lv_sub hl [1, 2, 3, 4] rfl)
set_option maxRecDepth 20000 in
set_option maxHeartbeats 4000000 in
theorem c_X8_measure {G : Gt} {l : Launch} {v0 : Nat} (h0 : kd v0 = 7) {v1 : Nat} (h1 : kd v1 = 11) {v2 : Int32} {σ : St} {r : Int32} {σ' : St} (hf : pf_X8_measure v0 v1 v2 σ = some (r, σ')) : Ct G l yX8_measure cX8_measure 7 (some .int) 4 [.ref (gz G + (v0)), .ref (gz G + (v1)), .int (v2)] σ (some (.int r)) σ' := by
  refine met_i (by decide +kernel) (Nat.le_of_ble_eq_true rfl) rfl ?_
  intro p e s m args below meth c Q ls X hW hret hl
  have hx := X.1.1
  have hb := X.1.2.1
  have hl : lv_has ls 7 [(0, .ref (gz G + (v0))), (1, .ref (gz G + (v1))), (2, .int (v2))] := hl
  have h := hf
  clear hf
  unfold pf_X8_measure at h
  refine lv_aload_n hx hb dX8_measure_0 rfl (lv_at hl 0 rfl) ?_
  refine lv_iconst (v := 0) hx hb dX8_measure_1 (by decide) ?_
  refine sf_X8_height X hW h0 m_2_52 dX8_measure_2 ?_
  clear hW; intro H locs hW
  refine nm_s hW h ?_
  clear hW h; intro σ_1 hW h
  refine lv_iconst (v := 0) hx hb dX8_measure_5 (by decide) ?_
  refine lv_istore_n (lv' := [(3, .int (0)), (0, .ref (gz G + (v0))), (1, .ref (gz G + (v1))), (2, .int (v2))]) hx hb dX8_measure_6 rfl hl (by decide) rfl ?_
  clear hl; intro ls hl
  exact bl_X8_measure_L7 X hret (bl_X8_measure_b89 X hret) FU v0 h0 v1 h1 v2 0 σ_1 h _ _ _ hW (lv_sub hl [1, 2, 3, 0] rfl)
set_option maxRecDepth 20000 in
set_option maxHeartbeats 4000000 in
theorem bl_X10_appendWord_L3 (X : Cx G p R s m args c cells slots cX10_appendWord 3 RX10 3) {σ' : St} (hret : R_V G p l e R s m args below meth c cells slots Q cX10_appendWord σ') :
    ∀ (n : Nat), ∀ (v0 : Nat) (h0 : kd v0 = 9) (v1 : Int32) (v2 : Int32) (σ : St) (_ : pf_X10_appendWord_L3 n v0 v1 v2 σ = some σ') (H : Heap) (locs : List Loc) (ls : Array Slot) (_ : GW G σ s H locs) (_ : lv_has ls 3 [(0, .ref (gz G + (v0))), (1, .int (v1)), (2, .int (v2))]), W p l e R s m args below meth c H locs cells slots Q (F0 m 3 ls []) := by
  have hx := X.1.1
  have hb := X.1.2.1
  intro n
  induction n with
  | zero => intro v0 h0 v1 v2 σ h H locs ls hW hl; cases h
  | succ n ih =>
    intro v0 h0 v1 v2 σ h H locs ls hW hl
    rw [pf_X10_appendWord_L3.eq_2] at h
    refine lv_iload_n hx hb dX10_appendWord_3 rfl (lv_at hl 2 rfl) ?_
    refine lv_if_lt (tgt := 41) hx hb dX10_appendWord_4 (by decide) (fun hc => ?_) (fun hc => ?_)
    · replace h := if_t hc h
      exact rv_end hret h dX10_appendWord_41 hW
    · replace h := if_f hc h
      refine lv_aload_n hx hb dX10_appendWord_7 rfl (lv_at hl 0 rfl) ?_
      refine gf_X10_buffer X hW h0 m_2_61 dX10_appendWord_8 ?_
      refine lv_aload_n hx hb dX10_appendWord_11 rfl (lv_at hl 0 rfl) ?_
      refine gf_X10_bufferLength X hW h0 m_2_62 dX10_appendWord_12 ?_
      refine lv_iload_n hx hb dX10_appendWord_15 rfl (lv_at hl 1 rfl) ?_
      refine lv_iload_n hx hb dX10_appendWord_16 rfl (lv_at hl 2 rfl) ?_
      refine w_iushr hx hb dX10_appendWord_17 ?_
      refine lv_sipush (v := 255) hx hb dX10_appendWord_18 (by decide) ?_
      refine lv_iand hx hb dX10_appendWord_21 ?_
      obtain ⟨σ_1, hcl, h⟩ := bind_el h
      refine call_S0 X hW m_2_97 m_2_98 mv_X10_put (c_X10_put (kf_X10_buffer h0) hcl) (by decide) rfl rfl (Nat.le_of_ble_eq_true rfl) hl.1 dX10_appendWord_22 ?_
      clear hW hcl; intro H locs hW
      refine lv_aload_n hx hb dX10_appendWord_25 rfl (lv_at hl 0 rfl) ?_
      refine lv_dup hx hb dX10_appendWord_26 rfl ?_
      refine gf_X10_bufferLength X hW h0 m_2_62 dX10_appendWord_27 ?_
      refine lv_iconst (v := 1) hx hb dX10_appendWord_30 (by decide) ?_
      refine lv_iadd hx hb dX10_appendWord_31 ?_
      refine sf_X10_bufferLength X hW h0 m_2_62 dX10_appendWord_32 ?_
      clear hW; intro H locs hW
      refine nm_s hW h ?_
      clear hW h; intro σ_2 hW h
      refine w_iinc (v := (-8)) (lv' := fun y => [(2, .int (y)), (0, .ref (gz G + (v0))), (1, .int (v1))]) hx hb dX10_appendWord_35 hl (k := 2) rfl (by decide) (by decide) (fun _ => rfl) h ?_
      clear h hl; intro v2_3 h ls hl
      refine lv_goto (tgt := 3) hx hb dX10_appendWord_38 (by decide) ?_
      exact ih v0 h0 v1 v2_3 σ_2 h _ _ _ hW (lv_sub hl [1, 2, 0] rfl)
set_option maxRecDepth 20000 in
set_option maxHeartbeats 4000000 in
theorem c_X10_appendWord {G : Gt} {l : Launch} {v0 : Nat} (h0 : kd v0 = 9) {v1 : Int32} {σ : St} {σ' : St} (hf : pf_X10_appendWord v0 v1 σ = some σ') : Ct G l yX10_appendWord cX10_appendWord 3 none 3 [.ref (gz G + (v0)), .int (v1)] σ none σ' := by
  refine met_v (by decide +kernel) (Nat.le_of_ble_eq_true rfl) rfl ?_
  intro p e s m args below meth c Q ls X hW hret hl
  have hx := X.1.1
  have hb := X.1.2.1
  have hl : lv_has ls 3 [(0, .ref (gz G + (v0))), (1, .int (v1))] := hl
  have h := hf
  clear hf
  unfold pf_X10_appendWord at h
  refine lv_bipush (v := 24) hx hb dX10_appendWord_0 (by decide) ?_
  refine lv_istore_n (lv' := [(2, .int (24)), (0, .ref (gz G + (v0))), (1, .int (v1))]) hx hb dX10_appendWord_2 rfl hl (by decide) rfl ?_
  clear hl; intro ls hl
  exact bl_X10_appendWord_L3 X hret FU v0 h0 v1 24 σ h _ _ _ hW (lv_sub hl [1, 2, 0] rfl)
set_option maxRecDepth 20000 in
set_option maxHeartbeats 4000000 in
theorem c_X10_append {G : Gt} {l : Launch} {v0 : Nat} (h0 : kd v0 = 9) {v1 : Int32} {v2 : Int32} {v3 : Int32} {v4 : Int32} {v5 : Int32} {σ : St} {r : Int32} {σ' : St} (hf : pf_X10_append v0 v1 v2 v3 v4 v5 σ = some (r, σ')) : Ct G l yX10_append cX10_append 6 (some .int) 4 [.ref (gz G + (v0)), .int (v1), .int (v2), .int (v3), .int (v4), .int (v5)] σ (some (.int r)) σ' := by
  refine met_i (by decide +kernel) (Nat.le_of_ble_eq_true rfl) rfl ?_
  intro p e s m args below meth c Q ls X hW hret hl
  have hx := X.1.1
  have hb := X.1.2.1
  have hl : lv_has ls 6 [(0, .ref (gz G + (v0))), (1, .int (v1)), (2, .int (v2)), (3, .int (v3)), (4, .int (v4)), (5, .int (v5))] := hl
  have h := hf
  clear hf
  unfold pf_X10_append at h
  refine lv_aload_n hx hb dX10_append_0 rfl (lv_at hl 0 rfl) ?_
  refine gf_X10_bufferLength X hW h0 m_2_62 dX10_append_1 ?_
  refine lv_bipush (v := 20) hx hb dX10_append_4 (by decide) ?_
  refine lv_iadd hx hb dX10_append_6 ?_
  refine lv_sipush (v := 800) hx hb dX10_append_7 (by decide) ?_
  refine lv_icmp_le (tgt := 15) hx hb dX10_append_10 (by decide) (fun hc => ?_) (fun hc => ?_)
  · replace h := if_t hc h
    refine lv_aload_n hx hb dX10_append_15 rfl (lv_at hl 0 rfl) ?_
    refine lv_iload_n hx hb dX10_append_16 rfl (lv_at hl 1 rfl) ?_
    obtain ⟨σ_1, hcl, h⟩ := bind_el h
    refine call_V0 X hW (kC_X10 h0) m_2_93 m_2_95 m_0_0 mv_X10_appendWord (c_X10_appendWord h0 hcl) (by decide) rfl rfl (Nat.le_of_ble_eq_true rfl) hl.1 dX10_append_17 ?_
    clear hW hcl; intro H locs hW
    refine lv_aload_n hx hb dX10_append_20 rfl (lv_at hl 0 rfl) ?_
    refine lv_iload_n hx hb dX10_append_21 rfl (lv_at hl 2 rfl) ?_
    obtain ⟨σ_2, hcl, h⟩ := bind_el h
    refine call_V0 X hW (kC_X10 h0) m_2_93 m_2_95 m_0_0 mv_X10_appendWord (c_X10_appendWord h0 hcl) (by decide) rfl rfl (Nat.le_of_ble_eq_true rfl) hl.1 dX10_append_22 ?_
    clear hW hcl; intro H locs hW
    refine lv_aload_n hx hb dX10_append_25 rfl (lv_at hl 0 rfl) ?_
    refine lv_iload_n hx hb dX10_append_26 rfl (lv_at hl 3 rfl) ?_
    obtain ⟨σ_3, hcl, h⟩ := bind_el h
    refine call_V0 X hW (kC_X10 h0) m_2_93 m_2_95 m_0_0 mv_X10_appendWord (c_X10_appendWord h0 hcl) (by decide) rfl rfl (Nat.le_of_ble_eq_true rfl) hl.1 dX10_append_27 ?_
    clear hW hcl; intro H locs hW
    refine lv_aload_n hx hb dX10_append_30 rfl (lv_at hl 0 rfl) ?_
    refine lv_iload hx hb dX10_append_31 (lv_at hl 4 rfl) ?_
    obtain ⟨σ_4, hcl, h⟩ := bind_el h
    refine call_V0 X hW (kC_X10 h0) m_2_93 m_2_95 m_0_0 mv_X10_appendWord (c_X10_appendWord h0 hcl) (by decide) rfl rfl (Nat.le_of_ble_eq_true rfl) hl.1 dX10_append_33 ?_
    clear hW hcl; intro H locs hW
    refine lv_aload_n hx hb dX10_append_36 rfl (lv_at hl 0 rfl) ?_
    refine lv_iload hx hb dX10_append_37 (lv_at hl 5 rfl) ?_
    obtain ⟨σ_5, hcl, h⟩ := bind_el h
    refine call_V0 X hW (kC_X10 h0) m_2_93 m_2_95 m_0_0 mv_X10_appendWord (c_X10_appendWord h0 hcl) (by decide) rfl rfl (Nat.le_of_ble_eq_true rfl) hl.1 dX10_append_39 ?_
    clear hW hcl; intro H locs hW
    refine lv_aload_n hx hb dX10_append_42 rfl (lv_at hl 0 rfl) ?_
    refine gf_X10_bufferLength X hW h0 m_2_62 dX10_append_43 ?_
    exact ri_end hret h dX10_append_46 hW
  · replace h := if_f hc h
    refine lv_iconst (v := (-1)) hx hb dX10_append_13 (by decide) ?_
    exact ri_end hret h dX10_append_14 hW
set_option maxRecDepth 20000 in
set_option maxHeartbeats 4000000 in
theorem bl_X10_load_b12 (X : Cx G p R s m args c cells slots cX10_load 3 RX10 31) {r : Int32} {σ' : St} (hret : R_I G p l e R s m args below meth c cells slots Q cX10_load r σ') :
    ∀ (σ : St) (_ : pf_X10_load_b12 σ = some (.inr r, σ')) (H : Heap) (locs : List Loc) (ls : Array Slot) (_ : GW G σ s H locs) (_ : lv_has ls 3 []), W p l e R s m args below meth c H locs cells slots Q (F0 m 12 ls []) := by
  have hx := X.1.1
  have hb := X.1.2.1
  intro σ h H locs ls hW hl
  unfold pf_X10_load_b12 at h
  cases h
set_option maxRecDepth 20000 in
set_option maxHeartbeats 4000000 in
theorem c_X10_load {G : Gt} {l : Launch} {v0 : Nat} (h0 : kd v0 = 9) {v1 : Int32} {σ : St} {r : Int32} {σ' : St} (hf : pf_X10_load v0 v1 σ = some (.inr r, σ')) : Ct G l yX10_load cX10_load 3 (some .int) 31 [.ref (gz G + (v0)), .int (v1)] σ (some (.int r)) σ' := by
  refine met_i (by decide +kernel) (Nat.le_of_ble_eq_true rfl) rfl ?_
  intro p e s m args below meth c Q ls X hW hret hl
  have hx := X.1.1
  have hb := X.1.2.1
  have hl : lv_has ls 3 [(0, .ref (gz G + (v0))), (1, .int (v1))] := hl
  have h := hf
  clear hf
  unfold pf_X10_load at h
  refine lv_iload_n hx hb dX10_load_0 rfl (lv_at hl 1 rfl) ?_
  refine lv_if_lt (tgt := 12) hx hb dX10_load_1 (by decide) (fun hc => ?_) (fun hc => ?_)
  · replace h := if_t hc h
    exact bl_X10_load_b12 X hret σ h _ _ _ hW (lv_sub hl [] rfl)
  · replace h := if_f hc h
    refine lv_iload_n hx hb dX10_load_4 rfl (lv_at hl 1 rfl) ?_
    refine lv_aload_n hx hb dX10_load_5 rfl (lv_at hl 0 rfl) ?_
    refine gf_X10_bufferLength X hW h0 m_2_62 dX10_load_6 ?_
    refine lv_icmp_le (tgt := 20) hx hb dX10_load_9 (by decide) (fun hc => ?_) (fun hc => ?_)
    · replace h := if_t hc h
      refine lv_aload_n hx hb dX10_load_20 rfl (lv_at hl 0 rfl) ?_
      refine lv_iconst (v := 0) hx hb dX10_load_21 (by decide) ?_
      refine sf_X10_bufferLength X hW h0 m_2_62 dX10_load_22 ?_
      clear hW; intro H locs hW
      refine nm_s hW h ?_
      clear hW h; intro σ_1 hW h
      refine lv_aload_n hx hb dX10_load_25 rfl (lv_at hl 0 rfl) ?_
      refine gf_X10_reader X hW h0 m_2_67 dX10_load_26 ?_
      refine lv_aload_n hx hb dX10_load_29 rfl (lv_at hl 0 rfl) ?_
      refine gf_X10_buffer X hW h0 m_2_61 dX10_load_30 ?_
      refine lv_iload_n hx hb dX10_load_33 rfl (lv_at hl 1 rfl) ?_
      refine lv_aload_n hx hb dX10_load_34 rfl (lv_at hl 0 rfl) ?_
      refine gf_X10_draft X hW h0 m_2_65 dX10_load_35 ?_
      obtain ⟨r_2, σ_2, hcl, h⟩ := bnd2_el h
      refine call_V1 X hW (kC_X4 (kf_X10_reader h0)) m_3_165 m_3_166 m_3_167 mv_X4_read (c_X4_read (kf_X10_reader h0) (kf_X10_buffer h0) (kf_X10_draft h0) hcl) (by decide) rfl rfl (Nat.le_of_ble_eq_true rfl) hl.1 dX10_load_38 ?_
      clear hW hcl; intro H locs hW
      refine lv_istore_n (lv' := [(2, .int (r_2)), (0, .ref (gz G + (v0))), (1, .int (v1))]) hx hb dX10_load_41 rfl hl (by decide) rfl ?_
      clear hl; intro ls hl
      refine lv_aload_n hx hb dX10_load_42 rfl (lv_at hl 1 rfl) ?_
      refine lv_aload_n hx hb dX10_load_43 rfl (lv_at hl 1 rfl) ?_
      refine gf_X10_reader X hW h0 m_2_67 dX10_load_44 ?_
      obtain ⟨r_3, hcl, h⟩ := bind_el h
      refine call_V1 X hW (kC_X4 (kf_X10_reader h0)) m_4_230 m_4_231 m_4_232 mv_X4_offsetOfError (c_X4_offsetOfError (kf_X10_reader h0) hcl) (by decide) rfl rfl (Nat.le_of_ble_eq_true rfl) hl.1 dX10_load_47 ?_
      clear hW hcl; intro H locs hW
      refine sf_X10_latestErrorOffset X hW h0 m_2_63 dX10_load_50 ?_
      clear hW; intro H locs hW
      refine nm_s hW h ?_
      clear hW h; intro σ_4 hW h
      refine lv_iload_n hx hb dX10_load_53 rfl (lv_at hl 0 rfl) ?_
      refine lv_if_eq (tgt := 59) hx hb dX10_load_54 (by decide) (fun hc => ?_) (fun hc => ?_)
      · replace h := if_t hc h
        refine lv_aload_n hx hb dX10_load_59 rfl (lv_at hl 1 rfl) ?_
        refine gf_X10_history X hW h0 m_2_66 dX10_load_60 ?_
        refine lv_aload_n hx hb dX10_load_63 rfl (lv_at hl 1 rfl) ?_
        refine gf_X10_now X hW h0 m_2_64 dX10_load_64 ?_
        obtain ⟨σ_5, hcl, h⟩ := bind_el h
        refine call_V0 X hW (kC_X1 (kf_X10_history h0)) m_4_234 m_4_235 m_4_236 mv_X1_remember (c_X1_remember (kf_X10_history h0) (kf_X10_now h0) hcl) (by decide) rfl rfl (Nat.le_of_ble_eq_true rfl) hl.1 dX10_load_67 ?_
        clear hW hcl; intro H locs hW
        refine lv_aload_n hx hb dX10_load_70 rfl (lv_at hl 1 rfl) ?_
        refine gf_X10_now X hW h0 m_2_64 dX10_load_71 ?_
        refine lv_aload_n hx hb dX10_load_74 rfl (lv_at hl 1 rfl) ?_
        refine gf_X10_draft X hW h0 m_2_65 dX10_load_75 ?_
        obtain ⟨σ_6, hcl, h⟩ := bind_el h
        refine call_V0 X hW (kC_X2 (kf_X10_now h0)) m_2_108 m_2_109 m_2_110 mv_X2_copyFrom (c_X2_copyFrom (kf_X10_now h0) (kf_X10_draft h0) hcl) (by decide) rfl rfl (Nat.le_of_ble_eq_true rfl) hl.1 dX10_load_78 ?_
        clear hW hcl; intro H locs hW
        refine lv_aload_n hx hb dX10_load_81 rfl (lv_at hl 1 rfl) ?_
        refine gf_X10_now X hW h0 m_2_64 dX10_load_82 ?_
        refine gf_X2_questCount X hW (kf_X10_now h0) m_1_147 dX10_load_85 ?_
        replace h := xr_el h
        exact ri_end hret h dX10_load_88 hW
      · replace h := if_f hc h
        refine lv_iload_n hx hb dX10_load_57 rfl (lv_at hl 0 rfl) ?_
        replace h := xr_el h
        exact ri_end hret h dX10_load_58 hW
    · replace h := if_f hc h
      exact bl_X10_load_b12 X hret σ h _ _ _ hW (lv_sub hl [] rfl)
set_option maxRecDepth 20000 in
set_option maxHeartbeats 4000000 in
theorem xl_X10_load_b12 (X : Cx G p R s m args c cells slots cX10_load 3 RX10 31) {r : Nat} {σ' : St} (hthr : R_X G p l e R s m args below meth c cells slots Q cX10_load 3 RX10 r σ') (hpr : R_P G p l e R s m args below meth c cells slots Q r σ') :
    ∀ (σ : St) (_ : pf_X10_load_b12 σ = some (.inl r, σ')) (H : Heap) (locs : List Loc) (ls : Array Slot) (_ : GW G σ s H locs) (_ : lv_has ls 3 []), W p l e R s m args below meth c H locs cells slots Q (F0 m 12 ls []) := by
  have hx := X.1.1
  have hb := X.1.2.1
  intro σ h H locs ls hW hl
  unfold pf_X10_load_b12 at h
  exact thr_end hthr h dX10_load_12 dX10_load_15 dX10_load_16 dX10_load_19 exw_1_66 hW (Nat.le_of_ble_eq_true rfl) hl.1
set_option maxRecDepth 20000 in
set_option maxHeartbeats 4000000 in
theorem x_X10_load {G : Gt} {l : Launch} {v0 : Nat} (h0 : kd v0 = 9) {v1 : Int32} {σ : St} {r : Nat} {σ' : St} (hf : pf_X10_load v0 v1 σ = some (.inl r, σ')) : CtT G l yX10_load cX10_load 3 (some .int) 31 [.ref (gz G + (v0)), .int (v1)] σ r σ' := by
  refine met_t (by decide +kernel) (Nat.le_of_ble_eq_true rfl) (by decide) ?_
  intro p e s m args below meth c Q ls X hW hthr hpr hl
  have hx := X.1.1
  have hb := X.1.2.1
  have hl : lv_has ls 3 [(0, .ref (gz G + (v0))), (1, .int (v1))] := hl
  have h := hf
  clear hf
  unfold pf_X10_load at h
  refine lv_iload_n hx hb dX10_load_0 rfl (lv_at hl 1 rfl) ?_
  refine lv_if_lt (tgt := 12) hx hb dX10_load_1 (by decide) (fun hc => ?_) (fun hc => ?_)
  · replace h := if_t hc h
    exact xl_X10_load_b12 X hthr hpr σ h _ _ _ hW (lv_sub hl [] rfl)
  · replace h := if_f hc h
    refine lv_iload_n hx hb dX10_load_4 rfl (lv_at hl 1 rfl) ?_
    refine lv_aload_n hx hb dX10_load_5 rfl (lv_at hl 0 rfl) ?_
    refine gf_X10_bufferLength X hW h0 m_2_62 dX10_load_6 ?_
    refine lv_icmp_le (tgt := 20) hx hb dX10_load_9 (by decide) (fun hc => ?_) (fun hc => ?_)
    · replace h := if_t hc h
      refine lv_aload_n hx hb dX10_load_20 rfl (lv_at hl 0 rfl) ?_
      refine lv_iconst (v := 0) hx hb dX10_load_21 (by decide) ?_
      refine sf_X10_bufferLength X hW h0 m_2_62 dX10_load_22 ?_
      clear hW; intro H locs hW
      refine nm_s hW h ?_
      clear hW h; intro σ_1 hW h
      refine lv_aload_n hx hb dX10_load_25 rfl (lv_at hl 0 rfl) ?_
      refine gf_X10_reader X hW h0 m_2_67 dX10_load_26 ?_
      refine lv_aload_n hx hb dX10_load_29 rfl (lv_at hl 0 rfl) ?_
      refine gf_X10_buffer X hW h0 m_2_61 dX10_load_30 ?_
      refine lv_iload_n hx hb dX10_load_33 rfl (lv_at hl 1 rfl) ?_
      refine lv_aload_n hx hb dX10_load_34 rfl (lv_at hl 0 rfl) ?_
      refine gf_X10_draft X hW h0 m_2_65 dX10_load_35 ?_
      obtain ⟨r_2, σ_2, hcl, h⟩ := bnd2_el h
      refine call_V1 X hW (kC_X4 (kf_X10_reader h0)) m_3_165 m_3_166 m_3_167 mv_X4_read (c_X4_read (kf_X10_reader h0) (kf_X10_buffer h0) (kf_X10_draft h0) hcl) (by decide) rfl rfl (Nat.le_of_ble_eq_true rfl) hl.1 dX10_load_38 ?_
      clear hW hcl; intro H locs hW
      refine lv_istore_n (lv' := [(2, .int (r_2)), (0, .ref (gz G + (v0))), (1, .int (v1))]) hx hb dX10_load_41 rfl hl (by decide) rfl ?_
      clear hl; intro ls hl
      refine lv_aload_n hx hb dX10_load_42 rfl (lv_at hl 1 rfl) ?_
      refine lv_aload_n hx hb dX10_load_43 rfl (lv_at hl 1 rfl) ?_
      refine gf_X10_reader X hW h0 m_2_67 dX10_load_44 ?_
      obtain ⟨r_3, hcl, h⟩ := bind_el h
      refine call_V1 X hW (kC_X4 (kf_X10_reader h0)) m_4_230 m_4_231 m_4_232 mv_X4_offsetOfError (c_X4_offsetOfError (kf_X10_reader h0) hcl) (by decide) rfl rfl (Nat.le_of_ble_eq_true rfl) hl.1 dX10_load_47 ?_
      clear hW hcl; intro H locs hW
      refine sf_X10_latestErrorOffset X hW h0 m_2_63 dX10_load_50 ?_
      clear hW; intro H locs hW
      refine nm_s hW h ?_
      clear hW h; intro σ_4 hW h
      refine lv_iload_n hx hb dX10_load_53 rfl (lv_at hl 0 rfl) ?_
      refine lv_if_eq (tgt := 59) hx hb dX10_load_54 (by decide) (fun hc => ?_) (fun hc => ?_)
      · replace h := if_t hc h
        refine lv_aload_n hx hb dX10_load_59 rfl (lv_at hl 1 rfl) ?_
        refine gf_X10_history X hW h0 m_2_66 dX10_load_60 ?_
        refine lv_aload_n hx hb dX10_load_63 rfl (lv_at hl 1 rfl) ?_
        refine gf_X10_now X hW h0 m_2_64 dX10_load_64 ?_
        obtain ⟨σ_5, hcl, h⟩ := bind_el h
        refine call_V0 X hW (kC_X1 (kf_X10_history h0)) m_4_234 m_4_235 m_4_236 mv_X1_remember (c_X1_remember (kf_X10_history h0) (kf_X10_now h0) hcl) (by decide) rfl rfl (Nat.le_of_ble_eq_true rfl) hl.1 dX10_load_67 ?_
        clear hW hcl; intro H locs hW
        refine lv_aload_n hx hb dX10_load_70 rfl (lv_at hl 1 rfl) ?_
        refine gf_X10_now X hW h0 m_2_64 dX10_load_71 ?_
        refine lv_aload_n hx hb dX10_load_74 rfl (lv_at hl 1 rfl) ?_
        refine gf_X10_draft X hW h0 m_2_65 dX10_load_75 ?_
        obtain ⟨σ_6, hcl, h⟩ := bind_el h
        refine call_V0 X hW (kC_X2 (kf_X10_now h0)) m_2_108 m_2_109 m_2_110 mv_X2_copyFrom (c_X2_copyFrom (kf_X10_now h0) (kf_X10_draft h0) hcl) (by decide) rfl rfl (Nat.le_of_ble_eq_true rfl) hl.1 dX10_load_78 ?_
        clear hW hcl; intro H locs hW
        refine lv_aload_n hx hb dX10_load_81 rfl (lv_at hl 1 rfl) ?_
        refine gf_X10_now X hW h0 m_2_64 dX10_load_82 ?_
        refine gf_X2_questCount X hW (kf_X10_now h0) m_1_147 dX10_load_85 ?_
        cases h
      · replace h := if_f hc h
        refine lv_iload_n hx hb dX10_load_57 rfl (lv_at hl 0 rfl) ?_
        cases h
    · replace h := if_f hc h
      exact xl_X10_load_b12 X hthr hpr σ h _ _ _ hW (lv_sub hl [] rfl)
set_option maxRecDepth 20000 in
set_option maxHeartbeats 4000000 in
theorem c_X10_errorOffset {G : Gt} {l : Launch} {v0 : Nat} (h0 : kd v0 = 9) {σ : St} {r : Int32} (hf : pf_X10_errorOffset v0 σ = some r) : Ct G l yX10_errorOffset cX10_errorOffset 1 (some .int) 2 [.ref (gz G + (v0))] σ (some (.int r)) σ := by
  refine met_i (by decide +kernel) (Nat.le_of_ble_eq_true rfl) rfl ?_
  intro p e s m args below meth c Q ls X hW hret hl
  have hx := X.1.1
  have hb := X.1.2.1
  have hl : lv_has ls 1 [(0, .ref (gz G + (v0)))] := hl
  have h := hf
  clear hf
  unfold pf_X10_errorOffset at h
  refine lv_aload_n hx hb dX10_errorOffset_0 rfl (lv_at hl 0 rfl) ?_
  refine gf_X10_latestErrorOffset X hW h0 m_2_63 dX10_errorOffset_1 ?_
  exact ri_end0 hret h dX10_errorOffset_4 hW
set_option maxRecDepth 20000 in
set_option maxHeartbeats 4000000 in
theorem c_J6_bitCount_0f7a4 {G : Gt} {l : Launch} {v0 : Int32} {σ : St} {r : Int32} (hf : pf_J6_bitCount_0f7a4 v0 σ = some r) : Ct G l yJ6_bitCount_0f7a4 cJ6_bitCount_0f7a4 1 (some .int) 2 [.int (v0)] σ (some (.int r)) σ := by
  refine met_i (by decide +kernel) (Nat.le_of_ble_eq_true rfl) rfl ?_
  intro p e s m args below meth c Q ls X hW hret hl
  have hx := X.1.1
  have hb := X.1.2.1
  have hl : lv_has ls 1 [(0, .int (v0))] := hl
  have h := hf
  clear hf
  unfold pf_J6_bitCount_0f7a4 at h
  refine lv_iload_n hx hb dJ6_bitCount_0f7a4_0 rfl (lv_at hl 0 rfl) ?_
  refine lv_iload_n hx hb dJ6_bitCount_0f7a4_1 rfl (lv_at hl 0 rfl) ?_
  refine lv_iconst (v := 1) hx hb dJ6_bitCount_0f7a4_2 (by decide) ?_
  refine w_iushr hx hb dJ6_bitCount_0f7a4_3 ?_
  refine lv_ldcw (v := 1431655765) hx hb X.1.2.2.2.1 (X.1.2.2.2.2 _ m_2_223) dJ6_bitCount_0f7a4_4 ?_
  refine lv_iand hx hb dJ6_bitCount_0f7a4_7 ?_
  refine lv_isub hx hb dJ6_bitCount_0f7a4_8 ?_
  refine nm_i h ?_
  clear h; intro v0_1 h
  refine lv_istore_n (lv' := [(0, .int (v0_1))]) hx hb dJ6_bitCount_0f7a4_9 rfl hl (by decide) rfl ?_
  clear hl; intro ls hl
  refine lv_iload_n hx hb dJ6_bitCount_0f7a4_10 rfl (lv_at hl 0 rfl) ?_
  refine lv_ldcw (v := 858993459) hx hb X.1.2.2.2.1 (X.1.2.2.2.2 _ m_2_224) dJ6_bitCount_0f7a4_11 ?_
  refine lv_iand hx hb dJ6_bitCount_0f7a4_14 ?_
  refine lv_iload_n hx hb dJ6_bitCount_0f7a4_15 rfl (lv_at hl 0 rfl) ?_
  refine lv_iconst (v := 2) hx hb dJ6_bitCount_0f7a4_16 (by decide) ?_
  refine w_iushr hx hb dJ6_bitCount_0f7a4_17 ?_
  refine lv_ldcw (v := 858993459) hx hb X.1.2.2.2.1 (X.1.2.2.2.2 _ m_2_224) dJ6_bitCount_0f7a4_18 ?_
  refine lv_iand hx hb dJ6_bitCount_0f7a4_21 ?_
  refine lv_iadd hx hb dJ6_bitCount_0f7a4_22 ?_
  refine nm_i h ?_
  clear h; intro v0_2 h
  refine lv_istore_n (lv' := [(0, .int (v0_2))]) hx hb dJ6_bitCount_0f7a4_23 rfl hl (by decide) rfl ?_
  clear hl; intro ls hl
  refine lv_iload_n hx hb dJ6_bitCount_0f7a4_24 rfl (lv_at hl 0 rfl) ?_
  refine lv_iload_n hx hb dJ6_bitCount_0f7a4_25 rfl (lv_at hl 0 rfl) ?_
  refine lv_iconst (v := 4) hx hb dJ6_bitCount_0f7a4_26 (by decide) ?_
  refine w_iushr hx hb dJ6_bitCount_0f7a4_27 ?_
  refine lv_iadd hx hb dJ6_bitCount_0f7a4_28 ?_
  refine lv_ldcw (v := 252645135) hx hb X.1.2.2.2.1 (X.1.2.2.2.2 _ m_2_225) dJ6_bitCount_0f7a4_29 ?_
  refine lv_iand hx hb dJ6_bitCount_0f7a4_32 ?_
  refine nm_i h ?_
  clear h; intro v0_3 h
  refine lv_istore_n (lv' := [(0, .int (v0_3))]) hx hb dJ6_bitCount_0f7a4_33 rfl hl (by decide) rfl ?_
  clear hl; intro ls hl
  refine lv_iload_n hx hb dJ6_bitCount_0f7a4_34 rfl (lv_at hl 0 rfl) ?_
  refine lv_iload_n hx hb dJ6_bitCount_0f7a4_35 rfl (lv_at hl 0 rfl) ?_
  refine lv_bipush (v := 8) hx hb dJ6_bitCount_0f7a4_36 (by decide) ?_
  refine w_iushr hx hb dJ6_bitCount_0f7a4_38 ?_
  refine lv_iadd hx hb dJ6_bitCount_0f7a4_39 ?_
  refine nm_i h ?_
  clear h; intro v0_4 h
  refine lv_istore_n (lv' := [(0, .int (v0_4))]) hx hb dJ6_bitCount_0f7a4_40 rfl hl (by decide) rfl ?_
  clear hl; intro ls hl
  refine lv_iload_n hx hb dJ6_bitCount_0f7a4_41 rfl (lv_at hl 0 rfl) ?_
  refine lv_iload_n hx hb dJ6_bitCount_0f7a4_42 rfl (lv_at hl 0 rfl) ?_
  refine lv_bipush (v := 16) hx hb dJ6_bitCount_0f7a4_43 (by decide) ?_
  refine w_iushr hx hb dJ6_bitCount_0f7a4_45 ?_
  refine lv_iadd hx hb dJ6_bitCount_0f7a4_46 ?_
  refine nm_i h ?_
  clear h; intro v0_5 h
  refine lv_istore_n (lv' := [(0, .int (v0_5))]) hx hb dJ6_bitCount_0f7a4_47 rfl hl (by decide) rfl ?_
  clear hl; intro ls hl
  refine lv_iload_n hx hb dJ6_bitCount_0f7a4_48 rfl (lv_at hl 0 rfl) ?_
  refine lv_bipush (v := 63) hx hb dJ6_bitCount_0f7a4_49 (by decide) ?_
  refine lv_iand hx hb dJ6_bitCount_0f7a4_51 ?_
  exact ri_end0 hret h dJ6_bitCount_0f7a4_52 hW
set_option maxRecDepth 20000 in
set_option maxHeartbeats 4000000 in
theorem c_X10_shareOf {G : Gt} {l : Launch} {v0 : Nat} (h0 : kd v0 = 9) {v1 : Nat} (h1 : kd v1 = 3) {v2 : Int32} {σ : St} {r : Int32} {σ' : St} (hf : pf_X10_shareOf v0 v1 v2 σ = some (r, σ')) : Ct G l yX10_shareOf cX10_shareOf 3 (some .int) 7 [.ref (gz G + (v0)), .ref (gz G + (v1)), .int (v2)] σ (some (.int r)) σ' := by
  refine met_i (by decide +kernel) (Nat.le_of_ble_eq_true rfl) rfl ?_
  intro p e s m args below meth c Q ls X hW hret hl
  have hx := X.1.1
  have hb := X.1.2.1
  have hl : lv_has ls 3 [(0, .ref (gz G + (v0))), (1, .ref (gz G + (v1))), (2, .int (v2))] := hl
  have h := hf
  clear hf
  unfold pf_X10_shareOf at h
  refine lv_iload_n hx hb dX10_shareOf_0 rfl (lv_at hl 2 rfl) ?_
  by_cases hc0 : v2 = 1
  · replace h := if_t hc0 h
    refine lv_tableIn (off := 35) (tgt := 36) hx hb dX10_shareOf_1 (by rw [hc0]; decide) (by rw [hc0]; decide) (by rw [hc0]; rfl) (by decide) ?_
    refine lv_aload_n hx hb dX10_shareOf_36 rfl (lv_at hl 1 rfl) ?_
    refine gf_X3_stepCount X hW h1 m_1_53 dX10_shareOf_37 ?_
    exact ri_end hret h dX10_shareOf_40 hW
  replace h := if_f hc0 h
  by_cases hc1 : v2 = 2
  · replace h := if_t hc1 h
    refine lv_tableIn (off := 40) (tgt := 41) hx hb dX10_shareOf_1 (by rw [hc1]; decide) (by rw [hc1]; decide) (by rw [hc1]; rfl) (by decide) ?_
    refine lv_aload_n hx hb dX10_shareOf_41 rfl (lv_at hl 1 rfl) ?_
    refine gf_X3_status X hW h1 m_1_58 dX10_shareOf_42 ?_
    refine lv_iconst (v := 1) hx hb dX10_shareOf_45 (by decide) ?_
    refine lv_icmp_ne (tgt := 53) hx hb dX10_shareOf_46 (by decide) (fun hc => ?_) (fun hc => ?_)
    · replace h := if_f hc h
      refine lv_iconst (v := 0) hx hb dX10_shareOf_53 (by decide) ?_
      exact ri_end hret h dX10_shareOf_54 hW
    · replace h := if_t hc h
      refine lv_iconst (v := 1) hx hb dX10_shareOf_49 (by decide) ?_
      refine lv_goto (tgt := 54) hx hb dX10_shareOf_50 (by decide) ?_
      exact ri_end hret h dX10_shareOf_54 hW
  replace h := if_f hc1 h
  by_cases hc2 : v2 = 3
  · replace h := if_t hc2 h
    refine lv_tableIn (off := 54) (tgt := 55) hx hb dX10_shareOf_1 (by rw [hc2]; decide) (by rw [hc2]; decide) (by rw [hc2]; rfl) (by decide) ?_
    refine lv_aload_n hx hb dX10_shareOf_55 rfl (lv_at hl 1 rfl) ?_
    refine gf_X3_status X hW h1 m_1_58 dX10_shareOf_56 ?_
    refine lv_iconst (v := 2) hx hb dX10_shareOf_59 (by decide) ?_
    refine lv_icmp_ne (tgt := 67) hx hb dX10_shareOf_60 (by decide) (fun hc => ?_) (fun hc => ?_)
    · replace h := if_f hc h
      refine lv_iconst (v := 0) hx hb dX10_shareOf_67 (by decide) ?_
      exact ri_end hret h dX10_shareOf_68 hW
    · replace h := if_t hc h
      refine lv_iconst (v := 1) hx hb dX10_shareOf_63 (by decide) ?_
      refine lv_goto (tgt := 68) hx hb dX10_shareOf_64 (by decide) ?_
      exact ri_end hret h dX10_shareOf_68 hW
  replace h := if_f hc2 h
  by_cases hc3 : v2 = 4
  · replace h := if_t hc3 h
    refine lv_tableIn (off := 68) (tgt := 69) hx hb dX10_shareOf_1 (by rw [hc3]; decide) (by rw [hc3]; decide) (by rw [hc3]; rfl) (by decide) ?_
    refine lv_aload_n hx hb dX10_shareOf_69 rfl (lv_at hl 1 rfl) ?_
    refine gf_X3_done X hW h1 m_1_61 dX10_shareOf_70 ?_
    obtain ⟨r_1, hcl, h⟩ := bind_el h
    refine call_S1 X hW m_2_220 m_2_221 mv_J6_bitCount_0f7a4 (c_J6_bitCount_0f7a4 hcl) (by decide) rfl rfl (Nat.le_of_ble_eq_true rfl) hl.1 dX10_shareOf_73 ?_
    clear hW hcl; intro H locs hW
    exact ri_end hret h dX10_shareOf_76 hW
  replace h := if_f hc3 h
  by_cases hc4 : v2 = 5
  · replace h := if_t hc4 h
    refine lv_tableIn (off := 76) (tgt := 77) hx hb dX10_shareOf_1 (by rw [hc4]; decide) (by rw [hc4]; decide) (by rw [hc4]; rfl) (by decide) ?_
    refine lv_aload_n hx hb dX10_shareOf_77 rfl (lv_at hl 1 rfl) ?_
    obtain ⟨r_2, hcl, h⟩ := bind_el h
    refine call_V1 X hW (kC_X3 h1) m_2_226 m_2_227 m_2_228 mv_X3_sumOfFails (c_X3_sumOfFails h1 hcl) (by decide) rfl rfl (Nat.le_of_ble_eq_true rfl) hl.1 dX10_shareOf_78 ?_
    clear hW hcl; intro H locs hW
    exact ri_end hret h dX10_shareOf_81 hW
  replace h := if_f hc4 h
  refine lv_tableOut (tgt := 82) hx hb dX10_shareOf_1 (tb_out (n := 5) (by decide) rfl (fun k hk => match k, hk with | 0, _ => hc0 | 1, _ => hc1 | 2, _ => hc2 | 3, _ => hc3 | 4, _ => hc4 | k + 5, hk => absurd hk (by omega))) (by decide) ?_
  skip
  refine lv_aload_n hx hb dX10_shareOf_82 rfl (lv_at hl 0 rfl) ?_
  refine gf_X10_ways X hW h0 m_2_68 dX10_shareOf_83 ?_
  refine lv_aload_n hx hb dX10_shareOf_86 rfl (lv_at hl 1 rfl) ?_
  refine lv_aload_n hx hb dX10_shareOf_87 rfl (lv_at hl 0 rfl) ?_
  refine gf_X10_now X hW h0 m_2_64 dX10_shareOf_88 ?_
  refine gf_X2_stock X hW (kf_X10_now h0) m_1_136 dX10_shareOf_91 ?_
  obtain ⟨r_3, σ_3, hcl, h⟩ := bnd2_el h
  refine call_V1 X hW (kC_X7 (kf_X10_ways h0)) m_2_124 m_2_125 m_2_126 mv_X7_explore (c_X7_explore (kf_X10_ways h0) h1 (kf_X2_stock (kf_X10_now h0)) hcl) (by decide) rfl rfl (Nat.le_of_ble_eq_true rfl) hl.1 dX10_shareOf_94 ?_
  clear hW hcl; intro H locs hW
  refine lv_if_eq (tgt := 104) hx hb dX10_shareOf_97 (by decide) (fun hc => ?_) (fun hc => ?_)
  · replace h := if_t hc h
    refine lv_iconst (v := 0) hx hb dX10_shareOf_104 (by decide) ?_
    exact ri_end hret h dX10_shareOf_105 hW
  · replace h := if_f hc h
    refine lv_iconst (v := 1) hx hb dX10_shareOf_100 (by decide) ?_
    refine lv_goto (tgt := 105) hx hb dX10_shareOf_101 (by decide) ?_
    exact ri_end hret h dX10_shareOf_105 hW
set_option maxRecDepth 20000 in
set_option maxHeartbeats 4000000 in
theorem bl_X10_state_b10 (X : Cx G p R s m args c cells slots cX10_state 4 RX10 8) {r : Int32} {σ' : St} (hret : R_I G p l e R s m args below meth c cells slots Q cX10_state r σ') :
    ∀ (σ : St) (_ : pf_X10_state_b10 σ = some (.inr r, σ')) (H : Heap) (locs : List Loc) (ls : Array Slot) (_ : GW G σ s H locs) (_ : lv_has ls 4 []), W p l e R s m args below meth c H locs cells slots Q (F0 m 10 ls []) := by
  have hx := X.1.1
  have hb := X.1.2.1
  intro σ h H locs ls hW hl
  unfold pf_X10_state_b10 at h
  cases h
set_option maxRecDepth 20000 in
set_option maxHeartbeats 4000000 in
theorem bl_X10_state_L62 (X : Cx G p R s m args c cells slots cX10_state 4 RX10 8) {r : Int32} {σ' : St} (hret : R_I G p l e R s m args below meth c cells slots Q cX10_state r σ') :
    ∀ (n : Nat), ∀ (v0 : Nat) (h0 : kd v0 = 9) (v1 : Int32) (v2 : Int32) (v3 : Int32) (σ : St) (_ : pf_X10_state_L62 n v0 v1 v2 v3 σ = some (.inr r, σ')) (H : Heap) (locs : List Loc) (ls : Array Slot) (_ : GW G σ s H locs) (_ : lv_has ls 4 [(0, .ref (gz G + (v0))), (1, .int (v1)), (2, .int (v2)), (3, .int (v3))]), W p l e R s m args below meth c H locs cells slots Q (F0 m 62 ls []) := by
  have hx := X.1.1
  have hb := X.1.2.1
  intro n
  induction n with
  | zero => intro v0 h0 v1 v2 v3 σ h H locs ls hW hl; cases h
  | succ n ih =>
    intro v0 h0 v1 v2 v3 σ h H locs ls hW hl
    rw [pf_X10_state_L62.eq_2] at h
    refine lv_iload_n hx hb dX10_state_62 rfl (lv_at hl 3 rfl) ?_
    refine lv_aload_n hx hb dX10_state_63 rfl (lv_at hl 0 rfl) ?_
    refine gf_X10_now X hW h0 m_2_64 dX10_state_64 ?_
    refine gf_X2_questCount X hW (kf_X10_now h0) m_1_147 dX10_state_67 ?_
    refine lv_icmp_ge (tgt := 102) hx hb dX10_state_70 (by decide) (fun hc => ?_) (fun hc => ?_)
    · replace h := if_t hc h
      refine lv_iload_n hx hb dX10_state_102 rfl (lv_at hl 2 rfl) ?_
      replace h := xr_el h
      exact ri_end hret h dX10_state_103 hW
    · replace h := if_f hc h
      refine lv_iload_n hx hb dX10_state_73 rfl (lv_at hl 3 rfl) ?_
      refine lv_bipush (v := 6) hx hb dX10_state_74 (by decide) ?_
      refine lv_icmp_ge (tgt := 102) hx hb dX10_state_76 (by decide) (fun hc => ?_) (fun hc => ?_)
      · replace h := if_t hc h
        refine lv_iload_n hx hb dX10_state_102 rfl (lv_at hl 2 rfl) ?_
        replace h := xr_el h
        exact ri_end hret h dX10_state_103 hW
      · replace h := if_f hc h
        refine lv_iload_n hx hb dX10_state_79 rfl (lv_at hl 2 rfl) ?_
        refine lv_aload_n hx hb dX10_state_80 rfl (lv_at hl 0 rfl) ?_
        refine lv_aload_n hx hb dX10_state_81 rfl (lv_at hl 0 rfl) ?_
        refine gf_X10_now X hW h0 m_2_64 dX10_state_82 ?_
        refine gf_X2_quests X hW (kf_X10_now h0) m_1_144 dX10_state_85 ?_
        refine lv_iload_n hx hb dX10_state_88 rfl (lv_at hl 3 rfl) ?_
        obtain ⟨hi1, h⟩ := ckI_el h
        refine r_qald X hW (kf_X2_quests (kf_X10_now h0)) hi1 dX10_state_89 ?_
        refine lv_iload_n hx hb dX10_state_90 rfl (lv_at hl 1 rfl) ?_
        obtain ⟨r_2, σ_2, hcl, h⟩ := bnd2_el h
        refine call_V1 X hW (kC_X10 h0) m_3_86 m_3_88 m_0_13 mv_X10_shareOf (c_X10_shareOf h0 (kq_16 (kf_X2_quests (kf_X10_now h0)) (vp_lt hi1)) hcl) (by decide) rfl rfl (Nat.le_of_ble_eq_true rfl) hl.1 dX10_state_91 ?_
        clear hW hcl; intro H locs hW
        refine lv_iadd hx hb dX10_state_94 ?_
        refine nm_i h ?_
        clear h; intro v2_3 h
        refine lv_istore_n (lv' := [(2, .int (v2_3)), (0, .ref (gz G + (v0))), (1, .int (v1)), (3, .int (v3))]) hx hb dX10_state_95 rfl hl (by decide) rfl ?_
        clear hl; intro ls hl
        refine w_iinc (v := 1) (lv' := fun y => [(3, .int (y)), (2, .int (v2_3)), (0, .ref (gz G + (v0))), (1, .int (v1))]) hx hb dX10_state_96 hl (k := 3) rfl (by decide) (by decide) (fun _ => rfl) h ?_
        clear h hl; intro v3_4 h ls hl
        refine lv_goto (tgt := 62) hx hb dX10_state_99 (by decide) ?_
        exact ih v0 h0 v1 v2_3 v3_4 σ_2 h _ _ _ hW (lv_sub hl [2, 3, 1, 0] rfl)
set_option maxRecDepth 20000 in
set_option maxHeartbeats 4000000 in
theorem c_X10_state {G : Gt} {l : Launch} {v0 : Nat} (h0 : kd v0 = 9) {v1 : Int32} {σ : St} {r : Int32} {σ' : St} (hf : pf_X10_state v0 v1 σ = some (.inr r, σ')) : Ct G l yX10_state cX10_state 4 (some .int) 8 [.ref (gz G + (v0)), .int (v1)] σ (some (.int r)) σ' := by
  refine met_i (by decide +kernel) (Nat.le_of_ble_eq_true rfl) rfl ?_
  intro p e s m args below meth c Q ls X hW hret hl
  have hx := X.1.1
  have hb := X.1.2.1
  have hl : lv_has ls 4 [(0, .ref (gz G + (v0))), (1, .int (v1))] := hl
  have h := hf
  clear hf
  unfold pf_X10_state at h
  refine lv_iload_n hx hb dX10_state_0 rfl (lv_at hl 1 rfl) ?_
  refine lv_if_lt (tgt := 10) hx hb dX10_state_1 (by decide) (fun hc => ?_) (fun hc => ?_)
  · replace h := if_t hc h
    exact bl_X10_state_b10 X hret σ h _ _ _ hW (lv_sub hl [] rfl)
  · replace h := if_f hc h
    refine lv_iload_n hx hb dX10_state_4 rfl (lv_at hl 1 rfl) ?_
    refine lv_bipush (v := 8) hx hb dX10_state_5 (by decide) ?_
    refine lv_icmp_le (tgt := 18) hx hb dX10_state_7 (by decide) (fun hc => ?_) (fun hc => ?_)
    · replace h := if_t hc h
      refine lv_iload_n hx hb dX10_state_18 rfl (lv_at hl 1 rfl) ?_
      refine lv_if_ne (tgt := 30) hx hb dX10_state_19 (by decide) (fun hc => ?_) (fun hc => ?_)
      · replace h := if_f hc h
        refine lv_iload_n hx hb dX10_state_30 rfl (lv_at hl 1 rfl) ?_
        refine lv_bipush (v := 6) hx hb dX10_state_31 (by decide) ?_
        refine lv_icmp_ne (tgt := 44) hx hb dX10_state_33 (by decide) (fun hc => ?_) (fun hc => ?_)
        · replace h := if_f hc h
          refine lv_iload_n hx hb dX10_state_44 rfl (lv_at hl 1 rfl) ?_
          refine lv_bipush (v := 7) hx hb dX10_state_45 (by decide) ?_
          refine lv_icmp_ne (tgt := 58) hx hb dX10_state_47 (by decide) (fun hc => ?_) (fun hc => ?_)
          · replace h := if_f hc h
            refine lv_iconst (v := 0) hx hb dX10_state_58 (by decide) ?_
            refine lv_istore_n (lv' := [(2, .int (0)), (0, .ref (gz G + (v0))), (1, .int (v1))]) hx hb dX10_state_59 rfl hl (by decide) rfl ?_
            clear hl; intro ls hl
            refine lv_iconst (v := 0) hx hb dX10_state_60 (by decide) ?_
            refine lv_istore_n (lv' := [(3, .int (0)), (2, .int (0)), (0, .ref (gz G + (v0))), (1, .int (v1))]) hx hb dX10_state_61 rfl hl (by decide) rfl ?_
            clear hl; intro ls hl
            exact bl_X10_state_L62 X hret FU v0 h0 v1 0 0 σ h _ _ _ hW (lv_sub hl [2, 3, 1, 0] rfl)
          · replace h := if_t hc h
            refine lv_aload_n hx hb dX10_state_50 rfl (lv_at hl 0 rfl) ?_
            refine gf_X10_now X hW h0 m_2_64 dX10_state_51 ?_
            refine gf_X2_seed X hW (kf_X10_now h0) m_1_142 dX10_state_54 ?_
            replace h := xr_el h
            exact ri_end hret h dX10_state_57 hW
        · replace h := if_t hc h
          refine lv_aload_n hx hb dX10_state_36 rfl (lv_at hl 0 rfl) ?_
          refine gf_X10_now X hW h0 m_2_64 dX10_state_37 ?_
          refine gf_X2_queueLength X hW (kf_X10_now h0) m_1_139 dX10_state_40 ?_
          replace h := xr_el h
          exact ri_end hret h dX10_state_43 hW
      · replace h := if_t hc h
        refine lv_aload_n hx hb dX10_state_22 rfl (lv_at hl 0 rfl) ?_
        refine gf_X10_now X hW h0 m_2_64 dX10_state_23 ?_
        refine gf_X2_questCount X hW (kf_X10_now h0) m_1_147 dX10_state_26 ?_
        replace h := xr_el h
        exact ri_end hret h dX10_state_29 hW
    · replace h := if_f hc h
      exact bl_X10_state_b10 X hret σ h _ _ _ hW (lv_sub hl [] rfl)
set_option maxRecDepth 20000 in
set_option maxHeartbeats 4000000 in
theorem xl_X10_state_b10 (X : Cx G p R s m args c cells slots cX10_state 4 RX10 8) {r : Nat} {σ' : St} (hthr : R_X G p l e R s m args below meth c cells slots Q cX10_state 4 RX10 r σ') (hpr : R_P G p l e R s m args below meth c cells slots Q r σ') :
    ∀ (σ : St) (_ : pf_X10_state_b10 σ = some (.inl r, σ')) (H : Heap) (locs : List Loc) (ls : Array Slot) (_ : GW G σ s H locs) (_ : lv_has ls 4 []), W p l e R s m args below meth c H locs cells slots Q (F0 m 10 ls []) := by
  have hx := X.1.1
  have hb := X.1.2.1
  intro σ h H locs ls hW hl
  unfold pf_X10_state_b10 at h
  exact thr_end hthr h dX10_state_10 dX10_state_13 dX10_state_14 dX10_state_17 exw_1_66 hW (Nat.le_of_ble_eq_true rfl) hl.1
set_option maxRecDepth 20000 in
set_option maxHeartbeats 4000000 in
theorem xl_X10_state_L62 (X : Cx G p R s m args c cells slots cX10_state 4 RX10 8) {r : Nat} {σ' : St} (hthr : R_X G p l e R s m args below meth c cells slots Q cX10_state 4 RX10 r σ') (hpr : R_P G p l e R s m args below meth c cells slots Q r σ') :
    ∀ (n : Nat), ∀ (v0 : Nat) (h0 : kd v0 = 9) (v1 : Int32) (v2 : Int32) (v3 : Int32) (σ : St) (_ : pf_X10_state_L62 n v0 v1 v2 v3 σ = some (.inl r, σ')) (H : Heap) (locs : List Loc) (ls : Array Slot) (_ : GW G σ s H locs) (_ : lv_has ls 4 [(0, .ref (gz G + (v0))), (1, .int (v1)), (2, .int (v2)), (3, .int (v3))]), W p l e R s m args below meth c H locs cells slots Q (F0 m 62 ls []) := by
  have hx := X.1.1
  have hb := X.1.2.1
  intro n
  induction n with
  | zero => intro v0 h0 v1 v2 v3 σ h H locs ls hW hl; cases h
  | succ n ih =>
    intro v0 h0 v1 v2 v3 σ h H locs ls hW hl
    rw [pf_X10_state_L62.eq_2] at h
    refine lv_iload_n hx hb dX10_state_62 rfl (lv_at hl 3 rfl) ?_
    refine lv_aload_n hx hb dX10_state_63 rfl (lv_at hl 0 rfl) ?_
    refine gf_X10_now X hW h0 m_2_64 dX10_state_64 ?_
    refine gf_X2_questCount X hW (kf_X10_now h0) m_1_147 dX10_state_67 ?_
    refine lv_icmp_ge (tgt := 102) hx hb dX10_state_70 (by decide) (fun hc => ?_) (fun hc => ?_)
    · replace h := if_t hc h
      refine lv_iload_n hx hb dX10_state_102 rfl (lv_at hl 2 rfl) ?_
      cases h
    · replace h := if_f hc h
      refine lv_iload_n hx hb dX10_state_73 rfl (lv_at hl 3 rfl) ?_
      refine lv_bipush (v := 6) hx hb dX10_state_74 (by decide) ?_
      refine lv_icmp_ge (tgt := 102) hx hb dX10_state_76 (by decide) (fun hc => ?_) (fun hc => ?_)
      · replace h := if_t hc h
        refine lv_iload_n hx hb dX10_state_102 rfl (lv_at hl 2 rfl) ?_
        cases h
      · replace h := if_f hc h
        refine lv_iload_n hx hb dX10_state_79 rfl (lv_at hl 2 rfl) ?_
        refine lv_aload_n hx hb dX10_state_80 rfl (lv_at hl 0 rfl) ?_
        refine lv_aload_n hx hb dX10_state_81 rfl (lv_at hl 0 rfl) ?_
        refine gf_X10_now X hW h0 m_2_64 dX10_state_82 ?_
        refine gf_X2_quests X hW (kf_X10_now h0) m_1_144 dX10_state_85 ?_
        refine lv_iload_n hx hb dX10_state_88 rfl (lv_at hl 3 rfl) ?_
        obtain ⟨hi1, h⟩ := ckI_el h
        refine r_qald X hW (kf_X2_quests (kf_X10_now h0)) hi1 dX10_state_89 ?_
        refine lv_iload_n hx hb dX10_state_90 rfl (lv_at hl 1 rfl) ?_
        obtain ⟨r_2, σ_2, hcl, h⟩ := bnd2_el h
        refine call_V1 X hW (kC_X10 h0) m_3_86 m_3_88 m_0_13 mv_X10_shareOf (c_X10_shareOf h0 (kq_16 (kf_X2_quests (kf_X10_now h0)) (vp_lt hi1)) hcl) (by decide) rfl rfl (Nat.le_of_ble_eq_true rfl) hl.1 dX10_state_91 ?_
        clear hW hcl; intro H locs hW
        refine lv_iadd hx hb dX10_state_94 ?_
        refine nm_i h ?_
        clear h; intro v2_3 h
        refine lv_istore_n (lv' := [(2, .int (v2_3)), (0, .ref (gz G + (v0))), (1, .int (v1)), (3, .int (v3))]) hx hb dX10_state_95 rfl hl (by decide) rfl ?_
        clear hl; intro ls hl
        refine w_iinc (v := 1) (lv' := fun y => [(3, .int (y)), (2, .int (v2_3)), (0, .ref (gz G + (v0))), (1, .int (v1))]) hx hb dX10_state_96 hl (k := 3) rfl (by decide) (by decide) (fun _ => rfl) h ?_
        clear h hl; intro v3_4 h ls hl
        refine lv_goto (tgt := 62) hx hb dX10_state_99 (by decide) ?_
        exact ih v0 h0 v1 v2_3 v3_4 σ_2 h _ _ _ hW (lv_sub hl [2, 3, 1, 0] rfl)
set_option maxRecDepth 20000 in
set_option maxHeartbeats 4000000 in
theorem x_X10_state {G : Gt} {l : Launch} {v0 : Nat} (h0 : kd v0 = 9) {v1 : Int32} {σ : St} {r : Nat} {σ' : St} (hf : pf_X10_state v0 v1 σ = some (.inl r, σ')) : CtT G l yX10_state cX10_state 4 (some .int) 8 [.ref (gz G + (v0)), .int (v1)] σ r σ' := by
  refine met_t (by decide +kernel) (Nat.le_of_ble_eq_true rfl) (by decide) ?_
  intro p e s m args below meth c Q ls X hW hthr hpr hl
  have hx := X.1.1
  have hb := X.1.2.1
  have hl : lv_has ls 4 [(0, .ref (gz G + (v0))), (1, .int (v1))] := hl
  have h := hf
  clear hf
  unfold pf_X10_state at h
  refine lv_iload_n hx hb dX10_state_0 rfl (lv_at hl 1 rfl) ?_
  refine lv_if_lt (tgt := 10) hx hb dX10_state_1 (by decide) (fun hc => ?_) (fun hc => ?_)
  · replace h := if_t hc h
    exact xl_X10_state_b10 X hthr hpr σ h _ _ _ hW (lv_sub hl [] rfl)
  · replace h := if_f hc h
    refine lv_iload_n hx hb dX10_state_4 rfl (lv_at hl 1 rfl) ?_
    refine lv_bipush (v := 8) hx hb dX10_state_5 (by decide) ?_
    refine lv_icmp_le (tgt := 18) hx hb dX10_state_7 (by decide) (fun hc => ?_) (fun hc => ?_)
    · replace h := if_t hc h
      refine lv_iload_n hx hb dX10_state_18 rfl (lv_at hl 1 rfl) ?_
      refine lv_if_ne (tgt := 30) hx hb dX10_state_19 (by decide) (fun hc => ?_) (fun hc => ?_)
      · replace h := if_f hc h
        refine lv_iload_n hx hb dX10_state_30 rfl (lv_at hl 1 rfl) ?_
        refine lv_bipush (v := 6) hx hb dX10_state_31 (by decide) ?_
        refine lv_icmp_ne (tgt := 44) hx hb dX10_state_33 (by decide) (fun hc => ?_) (fun hc => ?_)
        · replace h := if_f hc h
          refine lv_iload_n hx hb dX10_state_44 rfl (lv_at hl 1 rfl) ?_
          refine lv_bipush (v := 7) hx hb dX10_state_45 (by decide) ?_
          refine lv_icmp_ne (tgt := 58) hx hb dX10_state_47 (by decide) (fun hc => ?_) (fun hc => ?_)
          · replace h := if_f hc h
            refine lv_iconst (v := 0) hx hb dX10_state_58 (by decide) ?_
            refine lv_istore_n (lv' := [(2, .int (0)), (0, .ref (gz G + (v0))), (1, .int (v1))]) hx hb dX10_state_59 rfl hl (by decide) rfl ?_
            clear hl; intro ls hl
            refine lv_iconst (v := 0) hx hb dX10_state_60 (by decide) ?_
            refine lv_istore_n (lv' := [(3, .int (0)), (2, .int (0)), (0, .ref (gz G + (v0))), (1, .int (v1))]) hx hb dX10_state_61 rfl hl (by decide) rfl ?_
            clear hl; intro ls hl
            exact xl_X10_state_L62 X hthr hpr FU v0 h0 v1 0 0 σ h _ _ _ hW (lv_sub hl [2, 3, 1, 0] rfl)
          · replace h := if_t hc h
            refine lv_aload_n hx hb dX10_state_50 rfl (lv_at hl 0 rfl) ?_
            refine gf_X10_now X hW h0 m_2_64 dX10_state_51 ?_
            refine gf_X2_seed X hW (kf_X10_now h0) m_1_142 dX10_state_54 ?_
            cases h
        · replace h := if_t hc h
          refine lv_aload_n hx hb dX10_state_36 rfl (lv_at hl 0 rfl) ?_
          refine gf_X10_now X hW h0 m_2_64 dX10_state_37 ?_
          refine gf_X2_queueLength X hW (kf_X10_now h0) m_1_139 dX10_state_40 ?_
          cases h
      · replace h := if_t hc h
        refine lv_aload_n hx hb dX10_state_22 rfl (lv_at hl 0 rfl) ?_
        refine gf_X10_now X hW h0 m_2_64 dX10_state_23 ?_
        refine gf_X2_questCount X hW (kf_X10_now h0) m_1_147 dX10_state_26 ?_
        cases h
    · replace h := if_f hc h
      exact xl_X10_state_b10 X hthr hpr σ h _ _ _ hW (lv_sub hl [] rfl)
end
