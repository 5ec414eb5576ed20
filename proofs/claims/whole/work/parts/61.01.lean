section
variable {G : Gt} {p : Program} {l : Launch} {e : Env} {R : Room} {s : State} {m : MethodId} {args : Array Value} {below : List Frame} {meth : Method} {c : Code} {cells slots : Nat} {Q : State → Prop}
set_option maxRecDepth 20000 in
set_option maxHeartbeats 4000000 in
theorem c_X3_goalHolds {G : Gt} {l : Launch} {v0 : Nat} (h0 : kd v0 = 3) {v1 : Int32} {σ : St} {r : Int32} (hf : pf_X3_goalHolds v0 v1 σ = some r) : Ct G l yX3_goalHolds cX3_goalHolds 2 (some .boolean) 2 [.ref (gz G + (v0)), .int (v1)] σ (some (.int r)) σ := by
  refine met_z (by decide +kernel) (Nat.le_of_ble_eq_true rfl) rfl ?_
  intro p e s m args below meth c Q ls X hW hret hl
  have hx := X.1.1
  have hb := X.1.2.1
  have hl : lv_has ls 2 [(0, .ref (gz G + (v0))), (1, .int (v1))] := hl
  have h := hf
  clear hf
  unfold pf_X3_goalHolds at h
  refine lv_aload_n hx hb dX3_goalHolds_0 rfl (lv_at hl 0 rfl) ?_
  refine gf_X3_goal X hW h0 m_1_71 dX3_goalHolds_1 ?_
  refine lv_iload_n hx hb dX3_goalHolds_4 rfl (lv_at hl 1 rfl) ?_
  refine w_lushr hx hb dX3_goalHolds_5 ?_
  refine lv_lconst (v := 1) hx hb dX3_goalHolds_6 (by decide) ?_
  refine lv_land hx hb dX3_goalHolds_7 ?_
  refine lv_lconst (v := 0) hx hb dX3_goalHolds_8 (by decide) ?_
  refine W.lcmp hx hb dX3_goalHolds_9 ?_
  refine lv_if_eq (tgt := 17) hx hb dX3_goalHolds_10 (by decide) (fun hc => ?_) (fun hc => ?_)
  · replace h := if_t (lcmp_eq.mp hc) h
    refine lv_iconst (v := 0) hx hb dX3_goalHolds_17 (by decide) ?_
    exact rz_end0 hret h (by decide) dX3_goalHolds_18 hW
  · replace h := if_f (fun q => hc (lcmp_eq.mpr q)) h
    refine lv_iconst (v := 1) hx hb dX3_goalHolds_13 (by decide) ?_
    refine lv_goto (tgt := 18) hx hb dX3_goalHolds_14 (by decide) ?_
    exact rz_end0 hret h (by decide) dX3_goalHolds_18 hW
set_option maxRecDepth 20000 in
set_option maxHeartbeats 4000000 in
theorem c_X3_isBroken {G : Gt} {l : Launch} {v0 : Nat} (h0 : kd v0 = 3) {v1 : Int32} {σ : St} {r : Int32} (hf : pf_X3_isBroken v0 v1 σ = some r) : Ct G l yX3_isBroken cX3_isBroken 2 (some .boolean) 3 [.ref (gz G + (v0)), .int (v1)] σ (some (.int r)) σ := by
  refine met_z (by decide +kernel) (Nat.le_of_ble_eq_true rfl) rfl ?_
  intro p e s m args below meth c Q ls X hW hret hl
  have hx := X.1.1
  have hb := X.1.2.1
  have hl : lv_has ls 2 [(0, .ref (gz G + (v0))), (1, .int (v1))] := hl
  have h := hf
  clear hf
  unfold pf_X3_isBroken at h
  refine lv_aload_n hx hb dX3_isBroken_0 rfl (lv_at hl 0 rfl) ?_
  refine gf_X3_fails X hW h0 m_1_81 dX3_isBroken_1 ?_
  refine lv_iload_n hx hb dX3_isBroken_4 rfl (lv_at hl 1 rfl) ?_
  obtain ⟨r_1, hcl, h⟩ := bind_el h
  refine call_SN1 X hW m_2_155 m_2_132 mv_X10_at (c_X10_at (kf_X3_fails h0) hcl) (by decide) rfl rfl (Nat.le_of_ble_eq_true rfl) hl.1 dX3_isBroken_5 ?_
  clear hW hcl; intro H locs hW
  refine lv_aload_n hx hb dX3_isBroken_8 rfl (lv_at hl 0 rfl) ?_
  refine gf_X3_limit X hW h0 m_1_78 dX3_isBroken_9 ?_
  refine lv_iload_n hx hb dX3_isBroken_12 rfl (lv_at hl 1 rfl) ?_
  obtain ⟨r_2, hcl, h⟩ := bind_el h
  refine call_SN1 X hW m_2_155 m_2_132 mv_X10_at (c_X10_at (kf_X3_limit h0) hcl) (by decide) rfl rfl (Nat.le_of_ble_eq_true rfl) hl.1 dX3_isBroken_13 ?_
  clear hW hcl; intro H locs hW
  refine lv_icmp_lt (tgt := 23) hx hb dX3_isBroken_16 (by decide) (fun hc => ?_) (fun hc => ?_)
  · replace h := if_t hc h
    refine lv_iconst (v := 0) hx hb dX3_isBroken_23 (by decide) ?_
    exact rz_end0 hret h (by decide) dX3_isBroken_24 hW
  · replace h := if_f hc h
    refine lv_iconst (v := 1) hx hb dX3_isBroken_19 (by decide) ?_
    refine lv_goto (tgt := 24) hx hb dX3_isBroken_20 (by decide) ?_
    exact rz_end0 hret h (by decide) dX3_isBroken_24 hW
set_option maxRecDepth 20000 in
set_option maxHeartbeats 4000000 in
theorem c_X3_isDone {G : Gt} {l : Launch} {v0 : Nat} (h0 : kd v0 = 3) {v1 : Int32} {σ : St} {r : Int32} (hf : pf_X3_isDone v0 v1 σ = some r) : Ct G l yX3_isDone cX3_isDone 2 (some .boolean) 2 [.ref (gz G + (v0)), .int (v1)] σ (some (.int r)) σ := by
  refine met_z (by decide +kernel) (Nat.le_of_ble_eq_true rfl) rfl ?_
  intro p e s m args below meth c Q ls X hW hret hl
  have hx := X.1.1
  have hb := X.1.2.1
  have hl : lv_has ls 2 [(0, .ref (gz G + (v0))), (1, .int (v1))] := hl
  have h := hf
  clear hf
  unfold pf_X3_isDone at h
  refine lv_aload_n hx hb dX3_isDone_0 rfl (lv_at hl 0 rfl) ?_
  refine gf_X3_done X hW h0 m_1_59 dX3_isDone_1 ?_
  refine lv_iload_n hx hb dX3_isDone_4 rfl (lv_at hl 1 rfl) ?_
  refine w_iushr hx hb dX3_isDone_5 ?_
  refine lv_iconst (v := 1) hx hb dX3_isDone_6 (by decide) ?_
  refine lv_iand hx hb dX3_isDone_7 ?_
  refine lv_if_eq (tgt := 15) hx hb dX3_isDone_8 (by decide) (fun hc => ?_) (fun hc => ?_)
  · replace h := if_t hc h
    refine lv_iconst (v := 0) hx hb dX3_isDone_15 (by decide) ?_
    exact rz_end0 hret h (by decide) dX3_isDone_16 hW
  · replace h := if_f hc h
    refine lv_iconst (v := 1) hx hb dX3_isDone_11 (by decide) ?_
    refine lv_goto (tgt := 16) hx hb dX3_isDone_12 (by decide) ?_
    exact rz_end0 hret h (by decide) dX3_isDone_16 hW
set_option maxRecDepth 20000 in
set_option maxHeartbeats 4000000 in
theorem bl_X3_canStillHold_b47 {σ : St} (X : Cx G p R s m args c cells slots cX3_canStillHold 3 RX3 4) {r : Int32} (hret : R_Z G p l e R s m args below meth c cells slots Q cX3_canStillHold r σ) {k4 : Nat → Int32 → Int32 → (Option (Int32))}
    (hk4 : ∀ (v0 : Nat) (h0 : kd v0 = 3) (v1 : Int32) (v2 : Int32) (_ : k4 v0 v1 v2 = some r) (H : Heap) (locs : List Loc) (ls : Array Slot) (_ : GW G σ s H locs) (_ : lv_has ls 3 [(0, .ref (gz G + (v0))), (1, .int (v1)), (2, .int (v2))]), W p l e R s m args below meth c H locs cells slots Q (F0 m 4 ls [])) :
    ∀ (v0 : Nat) (h0 : kd v0 = 3) (v1 : Int32) (v2 : Int32) (_ : pf_X3_canStillHold_b47 σ k4 v0 v1 v2 = some r) (H : Heap) (locs : List Loc) (ls : Array Slot) (_ : GW G σ s H locs) (_ : lv_has ls 3 [(0, .ref (gz G + (v0))), (1, .int (v1)), (2, .int (v2))]), W p l e R s m args below meth c H locs cells slots Q (F0 m 47 ls []) := by
  have hx := X.1.1
  have hb := X.1.2.1
  intro v0 h0 v1 v2 h H locs ls hW hl
  unfold pf_X3_canStillHold_b47 at h
  refine w_iinc (v := 1) (lv' := fun y => [(2, .int (y)), (0, .ref (gz G + (v0))), (1, .int (v1))]) hx hb dX3_canStillHold_47 hl (k := 2) rfl (by decide) (by decide) (fun _ => rfl) h ?_
  clear h hl; intro v2_1 h ls hl
  refine lv_goto (tgt := 4) hx hb dX3_canStillHold_50 (by decide) ?_
  exact hk4 v0 h0 v1 v2_1 h _ _ _ hW (lv_sub hl [1, 2, 0] rfl)
set_option maxRecDepth 20000 in
set_option maxHeartbeats 4000000 in
theorem bl_X3_canStillHold_b41 {σ : St} (X : Cx G p R s m args c cells slots cX3_canStillHold 3 RX3 4) {r : Int32} (hret : R_Z G p l e R s m args below meth c cells slots Q cX3_canStillHold r σ) {k4 : Nat → Int32 → Int32 → (Option (Int32))}
    (hk4 : ∀ (v0 : Nat) (h0 : kd v0 = 3) (v1 : Int32) (v2 : Int32) (_ : k4 v0 v1 v2 = some r) (H : Heap) (locs : List Loc) (ls : Array Slot) (_ : GW G σ s H locs) (_ : lv_has ls 3 [(0, .ref (gz G + (v0))), (1, .int (v1)), (2, .int (v2))]), W p l e R s m args below meth c H locs cells slots Q (F0 m 4 ls [])) :
    ∀ (v0 : Nat) (h0 : kd v0 = 3) (v1 : Int32) (v2 : Int32) (_ : pf_X3_canStillHold_b41 σ k4 v0 v1 v2 = some r) (H : Heap) (locs : List Loc) (ls : Array Slot) (_ : GW G σ s H locs) (_ : lv_has ls 3 [(0, .ref (gz G + (v0))), (1, .int (v1)), (2, .int (v2))]), W p l e R s m args below meth c H locs cells slots Q (F0 m 41 ls []) := by
  have hx := X.1.1
  have hb := X.1.2.1
  intro v0 h0 v1 v2 h H locs ls hW hl
  unfold pf_X3_canStillHold_b41 at h
  refine lv_iload_n hx hb dX3_canStillHold_41 rfl (lv_at hl 1 rfl) ?_
  refine lv_iconst (v := 1) hx hb dX3_canStillHold_42 (by decide) ?_
  refine lv_iload_n hx hb dX3_canStillHold_43 rfl (lv_at hl 2 rfl) ?_
  refine w_ishl hx hb dX3_canStillHold_44 ?_
  refine lv_ior hx hb dX3_canStillHold_45 ?_
  refine nm_i h ?_
  clear h; intro v1_1 h
  refine lv_istore_n (lv' := [(1, .int (v1_1)), (0, .ref (gz G + (v0))), (2, .int (v2))]) hx hb dX3_canStillHold_46 rfl hl (by decide) rfl ?_
  clear hl; intro ls hl
  exact bl_X3_canStillHold_b47 X hret hk4 v0 h0 v1_1 v2 h _ _ _ hW (lv_sub hl [1, 0, 2] rfl)
set_option maxRecDepth 20000 in
set_option maxHeartbeats 4000000 in
theorem bl_X3_canStillHold_b53 {σ : St} (X : Cx G p R s m args c cells slots cX3_canStillHold 3 RX3 4) {r : Int32} (hret : R_Z G p l e R s m args below meth c cells slots Q cX3_canStillHold r σ) :
    ∀ (v0 : Nat) (h0 : kd v0 = 3) (v1 : Int32) (_ : pf_X3_canStillHold_b53 σ v0 v1 = some r) (H : Heap) (locs : List Loc) (ls : Array Slot) (_ : GW G σ s H locs) (_ : lv_has ls 3 [(0, .ref (gz G + (v0))), (1, .int (v1))]), W p l e R s m args below meth c H locs cells slots Q (F0 m 53 ls []) := by
  have hx := X.1.1
  have hb := X.1.2.1
  intro v0 h0 v1 h H locs ls hW hl
  unfold pf_X3_canStillHold_b53 at h
  refine lv_aload_n hx hb dX3_canStillHold_53 rfl (lv_at hl 0 rfl) ?_
  refine lv_bipush (v := 63) hx hb dX3_canStillHold_54 (by decide) ?_
  refine lv_iload_n hx hb dX3_canStillHold_56 rfl (lv_at hl 1 rfl) ?_
  refine lv_iconst (v := (-1)) hx hb dX3_canStillHold_57 (by decide) ?_
  refine lv_ixor hx hb dX3_canStillHold_58 ?_
  refine lv_iand hx hb dX3_canStillHold_59 ?_
  obtain ⟨r_1, hcl, h⟩ := bind_el h
  refine call_V1 X hW (kC_X3 h0) m_5_190 m_2_144 m_2_145 mv_X3_goalHolds (c_X3_goalHolds h0 hcl) (by decide) rfl rfl (Nat.le_of_ble_eq_true rfl) hl.1 dX3_canStillHold_60 ?_
  clear hW hcl; intro H locs hW
  obtain ⟨hz, h⟩ := ckZ_el h
  exact rz_end0 hret h hz dX3_canStillHold_63 hW
set_option maxRecDepth 20000 in
set_option maxHeartbeats 4000000 in
theorem bl_X3_canStillHold_L4 {σ : St} (X : Cx G p R s m args c cells slots cX3_canStillHold 3 RX3 4) {r : Int32} (hret : R_Z G p l e R s m args below meth c cells slots Q cX3_canStillHold r σ) {k53 : Nat → Int32 → (Option (Int32))}
    (hk53 : ∀ (v0 : Nat) (h0 : kd v0 = 3) (v1 : Int32) (_ : k53 v0 v1 = some r) (H : Heap) (locs : List Loc) (ls : Array Slot) (_ : GW G σ s H locs) (_ : lv_has ls 3 [(0, .ref (gz G + (v0))), (1, .int (v1))]), W p l e R s m args below meth c H locs cells slots Q (F0 m 53 ls [])) :
    ∀ (n : Nat), ∀ (v0 : Nat) (h0 : kd v0 = 3) (v1 : Int32) (v2 : Int32) (_ : pf_X3_canStillHold_L4 σ k53 n v0 v1 v2 = some r) (H : Heap) (locs : List Loc) (ls : Array Slot) (_ : GW G σ s H locs) (_ : lv_has ls 3 [(0, .ref (gz G + (v0))), (1, .int (v1)), (2, .int (v2))]), W p l e R s m args below meth c H locs cells slots Q (F0 m 4 ls []) := by
  have hx := X.1.1
  have hb := X.1.2.1
  intro n
  induction n with
  | zero => intro v0 h0 v1 v2 h H locs ls hW hl; cases h
  | succ n ih =>
    intro v0 h0 v1 v2 h H locs ls hW hl
    rw [pf_X3_canStillHold_L4.eq_2] at h
    refine lv_iload_n hx hb dX3_canStillHold_4 rfl (lv_at hl 2 rfl) ?_
    refine lv_aload_n hx hb dX3_canStillHold_5 rfl (lv_at hl 0 rfl) ?_
    refine gf_X3_stepCount X hW h0 m_1_51 dX3_canStillHold_6 ?_
    refine lv_icmp_ge (tgt := 53) hx hb dX3_canStillHold_9 (by decide) (fun hc => ?_) (fun hc => ?_)
    · replace h := if_t hc h
      exact hk53 v0 h0 v1 h _ _ _ hW (lv_sub hl [0, 1] rfl)
    · replace h := if_f hc h
      refine lv_aload_n hx hb dX3_canStillHold_12 rfl (lv_at hl 0 rfl) ?_
      refine lv_iload_n hx hb dX3_canStillHold_13 rfl (lv_at hl 2 rfl) ?_
      obtain ⟨r_1, hcl, h⟩ := bind_el h
      refine call_V1 X hW (kC_X3 h0) m_5_189 m_3_154 m_3_155 mv_X3_isDone (c_X3_isDone h0 hcl) (by decide) rfl rfl (Nat.le_of_ble_eq_true rfl) hl.1 dX3_canStillHold_14 ?_
      clear hW hcl; intro H locs hW
      refine lv_if_ne (tgt := 47) hx hb dX3_canStillHold_17 (by decide) (fun hc => ?_) (fun hc => ?_)
      · replace h := if_f hc h
        exact bl_X3_canStillHold_b47 X hret ih v0 h0 v1 v2 h _ _ _ hW (lv_sub hl [0, 1, 2] rfl)
      · replace h := if_t hc h
        refine lv_aload_n hx hb dX3_canStillHold_20 rfl (lv_at hl 0 rfl) ?_
        refine lv_iload_n hx hb dX3_canStillHold_21 rfl (lv_at hl 2 rfl) ?_
        obtain ⟨r_2, hcl, h⟩ := bind_el h
        refine call_V1 X hW (kC_X3 h0) m_2_151 m_2_153 m_0_4 mv_X3_isBroken (c_X3_isBroken h0 hcl) (by decide) rfl rfl (Nat.le_of_ble_eq_true rfl) hl.1 dX3_canStillHold_22 ?_
        clear hW hcl; intro H locs hW
        refine lv_if_ne (tgt := 41) hx hb dX3_canStillHold_25 (by decide) (fun hc => ?_) (fun hc => ?_)
        · replace h := if_f hc h
          exact bl_X3_canStillHold_b41 X hret ih v0 h0 v1 v2 h _ _ _ hW (lv_sub hl [0, 1, 2] rfl)
        · replace h := if_t hc h
          refine lv_aload_n hx hb dX3_canStillHold_28 rfl (lv_at hl 0 rfl) ?_
          refine gf_X3_ahead X hW h0 m_1_84 dX3_canStillHold_29 ?_
          refine lv_iload_n hx hb dX3_canStillHold_32 rfl (lv_at hl 2 rfl) ?_
          obtain ⟨r_3, hcl, h⟩ := bind_el h
          refine call_SN1 X hW m_2_155 m_2_132 mv_X10_at (c_X10_at (kf_X3_ahead h0) hcl) (by decide) rfl rfl (Nat.le_of_ble_eq_true rfl) hl.1 dX3_canStillHold_33 ?_
          clear hW hcl; intro H locs hW
          refine lv_iload_n hx hb dX3_canStillHold_36 rfl (lv_at hl 1 rfl) ?_
          refine lv_iand hx hb dX3_canStillHold_37 ?_
          refine lv_if_eq (tgt := 47) hx hb dX3_canStillHold_38 (by decide) (fun hc => ?_) (fun hc => ?_)
          · replace h := if_t hc h
            exact bl_X3_canStillHold_b47 X hret ih v0 h0 v1 v2 h _ _ _ hW (lv_sub hl [0, 1, 2] rfl)
          · replace h := if_f hc h
            exact bl_X3_canStillHold_b41 X hret ih v0 h0 v1 v2 h _ _ _ hW (lv_sub hl [0, 1, 2] rfl)
set_option maxRecDepth 20000 in
set_option maxHeartbeats 4000000 in
theorem c_X3_canStillHold {G : Gt} {l : Launch} {v0 : Nat} (h0 : kd v0 = 3) {σ : St} {r : Int32} (hf : pf_X3_canStillHold v0 σ = some r) : Ct G l yX3_canStillHold cX3_canStillHold 3 (some .boolean) 4 [.ref (gz G + (v0))] σ (some (.int r)) σ := by
  refine met_z (by decide +kernel) (Nat.le_of_ble_eq_true rfl) rfl ?_
  intro p e s m args below meth c Q ls X hW hret hl
  have hx := X.1.1
  have hb := X.1.2.1
  have hl : lv_has ls 3 [(0, .ref (gz G + (v0)))] := hl
  have h := hf
  clear hf
  unfold pf_X3_canStillHold at h
  refine lv_iconst (v := 0) hx hb dX3_canStillHold_0 (by decide) ?_
  refine lv_istore_n (lv' := [(1, .int (0)), (0, .ref (gz G + (v0)))]) hx hb dX3_canStillHold_1 rfl hl (by decide) rfl ?_
  clear hl; intro ls hl
  refine lv_iconst (v := 0) hx hb dX3_canStillHold_2 (by decide) ?_
  refine lv_istore_n (lv' := [(2, .int (0)), (1, .int (0)), (0, .ref (gz G + (v0)))]) hx hb dX3_canStillHold_3 rfl hl (by decide) rfl ?_
  clear hl; intro ls hl
  exact bl_X3_canStillHold_L4 X hret (bl_X3_canStillHold_b53 X hret) FU v0 h0 0 0 h _ _ _ hW (lv_sub hl [2, 1, 0] rfl)
set_option maxRecDepth 20000 in
set_option maxHeartbeats 4000000 in
theorem bl_X2_fail_b40 (X : Cx G p R s m args c cells slots cX2_fail 3 RX2 5) {σ' : St} (hret : R_V G p l e R s m args below meth c cells slots Q cX2_fail σ') :
    ∀ (v1 : Nat) (h1 : kd v1 = 3) (σ : St) (_ : pf_X2_fail_b40 v1 σ = some σ') (H : Heap) (locs : List Loc) (ls : Array Slot) (_ : GW G σ s H locs) (_ : lv_has ls 3 [(1, .ref (gz G + (v1)))]), W p l e R s m args below meth c H locs cells slots Q (F0 m 40 ls []) := by
  have hx := X.1.1
  have hb := X.1.2.1
  intro v1 h1 σ h H locs ls hW hl
  unfold pf_X2_fail_b40 at h
  refine lv_aload_n hx hb dX2_fail_40 rfl (lv_at hl 0 rfl) ?_
  obtain ⟨r_1, hcl, h⟩ := bind_el h
  refine call_V1 X hW (kC_X3 h1) m_5_185 m_5_186 m_5_187 mv_X3_canStillHold (c_X3_canStillHold h1 hcl) (by decide) rfl rfl (Nat.le_of_ble_eq_true rfl) hl.1 dX2_fail_41 ?_
  clear hW hcl; intro H locs hW
  refine lv_if_ne (tgt := 52) hx hb dX2_fail_44 (by decide) (fun hc => ?_) (fun hc => ?_)
  · replace h := if_f hc h
    exact rv_end hret h dX2_fail_52 hW
  · replace h := if_t hc h
    refine lv_aload_n hx hb dX2_fail_47 rfl (lv_at hl 0 rfl) ?_
    refine lv_iconst (v := 2) hx hb dX2_fail_48 (by decide) ?_
    refine sf_X3_status X hW h1 m_1_57 dX2_fail_49 ?_
    clear hW; intro H locs hW
    refine nm_s hW h ?_
    clear hW h; intro σ_2 hW h
    exact rv_end hret h dX2_fail_52 hW
set_option maxRecDepth 20000 in
set_option maxHeartbeats 4000000 in
theorem c_X2_fail {G : Gt} {l : Launch} {v0 : Nat} (h0 : kd v0 = 2) {v1 : Nat} (h1 : kd v1 = 3) {v2 : Int32} {σ : St} {σ' : St} (hf : pf_X2_fail v0 v1 v2 σ = some σ') : Ct G l yX2_fail cX2_fail 3 none 5 [.ref (gz G + (v0)), .ref (gz G + (v1)), .int (v2)] σ none σ' := by
  refine met_v (by decide +kernel) (Nat.le_of_ble_eq_true rfl) rfl ?_
  intro p e s m args below meth c Q ls X hW hret hl
  have hx := X.1.1
  have hb := X.1.2.1
  have hl : lv_has ls 3 [(0, .ref (gz G + (v0))), (1, .ref (gz G + (v1))), (2, .int (v2))] := hl
  have h := hf
  clear hf
  unfold pf_X2_fail at h
  refine lv_aload_n hx hb dX2_fail_0 rfl (lv_at hl 1 rfl) ?_
  refine gf_X3_fails X hW h1 m_1_82 dX2_fail_1 ?_
  refine lv_iload_n hx hb dX2_fail_4 rfl (lv_at hl 2 rfl) ?_
  refine lv_aload_n hx hb dX2_fail_5 rfl (lv_at hl 1 rfl) ?_
  refine gf_X3_fails X hW h1 m_1_82 dX2_fail_6 ?_
  refine lv_iload_n hx hb dX2_fail_9 rfl (lv_at hl 2 rfl) ?_
  obtain ⟨r_1, hcl, h⟩ := bind_el h
  refine call_SN1 X hW m_2_190 m_2_132 mv_X10_at (c_X10_at (kf_X3_fails h1) hcl) (by decide) rfl rfl (Nat.le_of_ble_eq_true rfl) hl.1 dX2_fail_10 ?_
  clear hW hcl; intro H locs hW
  refine lv_iconst (v := 1) hx hb dX2_fail_13 (by decide) ?_
  refine lv_iadd hx hb dX2_fail_14 ?_
  obtain ⟨σ_2, hcl, h⟩ := bind_el h
  refine call_SN0 X hW m_2_192 m_2_98 mv_X10_put (c_X10_put (kf_X3_fails h1) hcl) (by decide) rfl rfl (Nat.le_of_ble_eq_true rfl) hl.1 dX2_fail_15 ?_
  clear hW hcl; intro H locs hW
  refine lv_aload_n hx hb dX2_fail_18 rfl (lv_at hl 1 rfl) ?_
  refine gf_X3_costly X hW h1 m_1_88 dX2_fail_19 ?_
  refine lv_iload_n hx hb dX2_fail_22 rfl (lv_at hl 2 rfl) ?_
  obtain ⟨r_3, hcl, h⟩ := bind_el h
  refine call_SN1 X hW m_2_190 m_2_132 mv_X10_at (c_X10_at (kf_X3_costly h1) hcl) (by decide) rfl rfl (Nat.le_of_ble_eq_true rfl) hl.1 dX2_fail_23 ?_
  clear hW hcl; intro H locs hW
  refine lv_iconst (v := 1) hx hb dX2_fail_26 (by decide) ?_
  refine lv_icmp_ne (tgt := 40) hx hb dX2_fail_27 (by decide) (fun hc => ?_) (fun hc => ?_)
  · replace h := if_f hc h
    exact bl_X2_fail_b40 X hret v1 h1 σ_2 h _ _ _ hW (lv_sub hl [1] rfl)
  · replace h := if_t hc h
    refine lv_aload_n hx hb dX2_fail_30 rfl (lv_at hl 0 rfl) ?_
    refine lv_aload_n hx hb dX2_fail_31 rfl (lv_at hl 1 rfl) ?_
    refine gf_X3_uses X hW h1 m_1_93 dX2_fail_32 ?_
    refine lv_iload_n hx hb dX2_fail_35 rfl (lv_at hl 2 rfl) ?_
    refine lv_iconst (v := (-1)) hx hb dX2_fail_36 (by decide) ?_
    obtain ⟨σ_4, hcl, h⟩ := bind_el h
    refine call_V0 X hW (kC_X2 h0) m_2_186 m_2_188 m_0_8 mv_X2_change (c_X2_change h0 (kf_X3_uses h1) hcl) (by decide) rfl rfl (Nat.le_of_ble_eq_true rfl) hl.1 dX2_fail_37 ?_
    clear hW hcl; intro H locs hW
    exact bl_X2_fail_b40 X hret v1 h1 σ_4 h _ _ _ hW (lv_sub hl [1] rfl)
set_option maxRecDepth 20000 in
set_option maxHeartbeats 4000000 in
theorem c_X2_succeed {G : Gt} {l : Launch} {v0 : Nat} (h0 : kd v0 = 2) {v1 : Nat} (h1 : kd v1 = 3) {v2 : Int32} {σ : St} {σ' : St} (hf : pf_X2_succeed v0 v1 v2 σ = some σ') : Ct G l yX2_succeed cX2_succeed 3 none 4 [.ref (gz G + (v0)), .ref (gz G + (v1)), .int (v2)] σ none σ' := by
  refine met_v (by decide +kernel) (Nat.le_of_ble_eq_true rfl) rfl ?_
  intro p e s m args below meth c Q ls X hW hret hl
  have hx := X.1.1
  have hb := X.1.2.1
  have hl : lv_has ls 3 [(0, .ref (gz G + (v0))), (1, .ref (gz G + (v1))), (2, .int (v2))] := hl
  have h := hf
  clear hf
  unfold pf_X2_succeed at h
  refine lv_aload_n hx hb dX2_succeed_0 rfl (lv_at hl 0 rfl) ?_
  refine lv_aload_n hx hb dX2_succeed_1 rfl (lv_at hl 1 rfl) ?_
  refine gf_X3_uses X hW h1 m_1_93 dX2_succeed_2 ?_
  refine lv_iload_n hx hb dX2_succeed_5 rfl (lv_at hl 2 rfl) ?_
  refine lv_iconst (v := (-1)) hx hb dX2_succeed_6 (by decide) ?_
  obtain ⟨σ_1, hcl, h⟩ := bind_el h
  refine call_V0 X hW (kC_X2 h0) m_2_186 m_2_188 m_0_8 mv_X2_change (c_X2_change h0 (kf_X3_uses h1) hcl) (by decide) rfl rfl (Nat.le_of_ble_eq_true rfl) hl.1 dX2_succeed_7 ?_
  clear hW hcl; intro H locs hW
  refine lv_aload_n hx hb dX2_succeed_10 rfl (lv_at hl 0 rfl) ?_
  refine lv_aload_n hx hb dX2_succeed_11 rfl (lv_at hl 1 rfl) ?_
  refine gf_X3_gives X hW h1 m_1_101 dX2_succeed_12 ?_
  refine lv_iload_n hx hb dX2_succeed_15 rfl (lv_at hl 2 rfl) ?_
  refine lv_iconst (v := 1) hx hb dX2_succeed_16 (by decide) ?_
  obtain ⟨σ_2, hcl, h⟩ := bind_el h
  refine call_V0 X hW (kC_X2 h0) m_2_186 m_2_188 m_0_8 mv_X2_change (c_X2_change h0 (kf_X3_gives h1) hcl) (by decide) rfl rfl (Nat.le_of_ble_eq_true rfl) hl.1 dX2_succeed_17 ?_
  clear hW hcl; intro H locs hW
  refine lv_aload_n hx hb dX2_succeed_20 rfl (lv_at hl 1 rfl) ?_
  refine lv_dup hx hb dX2_succeed_21 rfl ?_
  refine gf_X3_done X hW h1 m_1_62 dX2_succeed_22 ?_
  refine lv_iconst (v := 1) hx hb dX2_succeed_25 (by decide) ?_
  refine lv_iload_n hx hb dX2_succeed_26 rfl (lv_at hl 2 rfl) ?_
  refine w_ishl hx hb dX2_succeed_27 ?_
  refine lv_ior hx hb dX2_succeed_28 ?_
  refine sf_X3_done X hW h1 m_1_62 dX2_succeed_29 ?_
  clear hW; intro H locs hW
  refine nm_s hW h ?_
  clear hW h; intro σ_3 hW h
  refine lv_aload_n hx hb dX2_succeed_32 rfl (lv_at hl 1 rfl) ?_
  refine lv_aload_n hx hb dX2_succeed_33 rfl (lv_at hl 1 rfl) ?_
  refine gf_X3_done X hW h1 m_1_62 dX2_succeed_34 ?_
  obtain ⟨r_4, hcl, h⟩ := bind_el h
  refine call_V1 X hW (kC_X3 h1) m_2_191 m_2_144 m_2_145 mv_X3_goalHolds (c_X3_goalHolds h1 hcl) (by decide) rfl rfl (Nat.le_of_ble_eq_true rfl) hl.1 dX2_succeed_37 ?_
  clear hW hcl; intro H locs hW
  refine lv_if_eq (tgt := 75) hx hb dX2_succeed_40 (by decide) (fun hc => ?_) (fun hc => ?_)
  · replace h := if_t hc h
    exact rv_end hret h dX2_succeed_75 hW
  · replace h := if_f hc h
    refine lv_aload_n hx hb dX2_succeed_43 rfl (lv_at hl 1 rfl) ?_
    refine lv_iconst (v := 1) hx hb dX2_succeed_44 (by decide) ?_
    refine sf_X3_status X hW h1 m_1_57 dX2_succeed_45 ?_
    clear hW; intro H locs hW
    refine nm_s hW h ?_
    clear hW h; intro σ_5 hW h
    refine lv_aload_n hx hb dX2_succeed_48 rfl (lv_at hl 0 rfl) ?_
    refine gf_X2_stock X hW h0 m_1_134 dX2_succeed_49 ?_
    refine lv_aload_n hx hb dX2_succeed_52 rfl (lv_at hl 1 rfl) ?_
    refine gf_X3_rewardItem X hW h1 m_1_64 dX2_succeed_53 ?_
    refine lv_aload_n hx hb dX2_succeed_56 rfl (lv_at hl 0 rfl) ?_
    refine gf_X2_stock X hW h0 m_1_134 dX2_succeed_57 ?_
    refine lv_aload_n hx hb dX2_succeed_60 rfl (lv_at hl 1 rfl) ?_
    refine gf_X3_rewardItem X hW h1 m_1_64 dX2_succeed_61 ?_
    obtain ⟨r_6, hcl, h⟩ := bind_el h
    refine call_SN1 X hW m_2_190 m_2_132 mv_X10_at (c_X10_at (kf_X2_stock h0) hcl) (by decide) rfl rfl (Nat.le_of_ble_eq_true rfl) hl.1 dX2_succeed_64 ?_
    clear hW hcl; intro H locs hW
    refine lv_aload_n hx hb dX2_succeed_67 rfl (lv_at hl 1 rfl) ?_
    refine gf_X3_rewardAmount X hW h1 m_1_68 dX2_succeed_68 ?_
    refine lv_iadd hx hb dX2_succeed_71 ?_
    obtain ⟨σ_7, hcl, h⟩ := bind_el h
    refine call_SN0 X hW m_2_192 m_2_98 mv_X10_put (c_X10_put (kf_X2_stock h0) hcl) (by decide) rfl rfl (Nat.le_of_ble_eq_true rfl) hl.1 dX2_succeed_72 ?_
    clear hW hcl; intro H locs hW
    exact rv_end hret h dX2_succeed_75 hW
set_option maxRecDepth 20000 in
set_option maxHeartbeats 4000000 in
theorem c_X2_tryStep {G : Gt} {l : Launch} {v0 : Nat} (h0 : kd v0 = 2) {v1 : Nat} (h1 : kd v1 = 3) {v2 : Int32} {σ : St} {r : Int32} {σ' : St} (hf : pf_X2_tryStep v0 v1 v2 σ = some (r, σ')) : Ct G l yX2_tryStep cX2_tryStep 3 (some .int) 6 [.ref (gz G + (v0)), .ref (gz G + (v1)), .int (v2)] σ (some (.int r)) σ' := by
  refine met_i (by decide +kernel) (Nat.le_of_ble_eq_true rfl) rfl ?_
  intro p e s m args below meth c Q ls X hW hret hl
  have hx := X.1.1
  have hb := X.1.2.1
  have hl : lv_has ls 3 [(0, .ref (gz G + (v0))), (1, .ref (gz G + (v1))), (2, .int (v2))] := hl
  have h := hf
  clear hf
  unfold pf_X2_tryStep at h
  refine lv_aload_n hx hb dX2_tryStep_0 rfl (lv_at hl 0 rfl) ?_
  obtain ⟨r_1, σ_1, hcl, h⟩ := bnd2_el h
  refine call_V1 X hW (kC_X2 h0) m_5_175 m_5_176 m_5_177 mv_X2_draw (c_X2_draw h0 hcl) (by decide) rfl rfl (Nat.le_of_ble_eq_true rfl) hl.1 dX2_tryStep_1 ?_
  clear hW hcl; intro H locs hW
  refine lv_aload_n hx hb dX2_tryStep_4 rfl (lv_at hl 1 rfl) ?_
  refine gf_X3_risk X hW h1 m_1_75 dX2_tryStep_5 ?_
  refine lv_iload_n hx hb dX2_tryStep_8 rfl (lv_at hl 2 rfl) ?_
  obtain ⟨r_2, hcl, h⟩ := bind_el h
  refine call_SN1 X hW m_2_190 m_2_132 mv_X10_at (c_X10_at (kf_X3_risk h1) hcl) (by decide) rfl rfl (Nat.le_of_ble_eq_true rfl) hl.1 dX2_tryStep_9 ?_
  clear hW hcl; intro H locs hW
  refine lv_icmp_lt (tgt := 35) hx hb dX2_tryStep_12 (by decide) (fun hc => ?_) (fun hc => ?_)
  · replace h := if_t hc h
    refine lv_aload_n hx hb dX2_tryStep_35 rfl (lv_at hl 0 rfl) ?_
    refine lv_aload_n hx hb dX2_tryStep_36 rfl (lv_at hl 1 rfl) ?_
    refine lv_iload_n hx hb dX2_tryStep_37 rfl (lv_at hl 2 rfl) ?_
    obtain ⟨σ_3, hcl, h⟩ := bind_el h
    refine call_V0 X hW (kC_X2 h0) m_5_181 m_5_183 m_0_37 mv_X2_fail (c_X2_fail h0 h1 hcl) (by decide) rfl rfl (Nat.le_of_ble_eq_true rfl) hl.1 dX2_tryStep_38 ?_
    clear hW hcl; intro H locs hW
    refine lv_aload_n hx hb dX2_tryStep_41 rfl (lv_at hl 1 rfl) ?_
    refine gf_X3_status X hW h1 m_1_57 dX2_tryStep_42 ?_
    refine lv_iconst (v := 2) hx hb dX2_tryStep_45 (by decide) ?_
    refine lv_icmp_ne (tgt := 53) hx hb dX2_tryStep_46 (by decide) (fun hc => ?_) (fun hc => ?_)
    · replace h := if_f hc h
      refine lv_iconst (v := 0) hx hb dX2_tryStep_53 (by decide) ?_
      exact ri_end hret h dX2_tryStep_54 hW
    · replace h := if_t hc h
      refine lv_iconst (v := 3) hx hb dX2_tryStep_49 (by decide) ?_
      refine lv_goto (tgt := 54) hx hb dX2_tryStep_50 (by decide) ?_
      exact ri_end hret h dX2_tryStep_54 hW
  · replace h := if_f hc h
    refine lv_aload_n hx hb dX2_tryStep_15 rfl (lv_at hl 0 rfl) ?_
    refine lv_aload_n hx hb dX2_tryStep_16 rfl (lv_at hl 1 rfl) ?_
    refine lv_iload_n hx hb dX2_tryStep_17 rfl (lv_at hl 2 rfl) ?_
    obtain ⟨σ_4, hcl, h⟩ := bind_el h
    refine call_V0 X hW (kC_X2 h0) m_5_180 m_2_183 m_2_184 mv_X2_succeed (c_X2_succeed h0 h1 hcl) (by decide) rfl rfl (Nat.le_of_ble_eq_true rfl) hl.1 dX2_tryStep_18 ?_
    clear hW hcl; intro H locs hW
    refine lv_aload_n hx hb dX2_tryStep_21 rfl (lv_at hl 1 rfl) ?_
    refine gf_X3_status X hW h1 m_1_57 dX2_tryStep_22 ?_
    refine lv_iconst (v := 1) hx hb dX2_tryStep_25 (by decide) ?_
    refine lv_icmp_ne (tgt := 33) hx hb dX2_tryStep_26 (by decide) (fun hc => ?_) (fun hc => ?_)
    · replace h := if_f hc h
      refine lv_iconst (v := 1) hx hb dX2_tryStep_33 (by decide) ?_
      exact ri_end hret h dX2_tryStep_34 hW
    · replace h := if_t hc h
      refine lv_iconst (v := 2) hx hb dX2_tryStep_29 (by decide) ?_
      refine lv_goto (tgt := 34) hx hb dX2_tryStep_30 (by decide) ?_
      exact ri_end hret h dX2_tryStep_34 hW
set_option maxRecDepth 20000 in
set_option maxHeartbeats 4000000 in
theorem c_X3_beginAnew {G : Gt} {l : Launch} {v0 : Nat} (h0 : kd v0 = 3) {σ : St} {σ' : St} (hf : pf_X3_beginAnew v0 σ = some σ') : Ct G l yX3_beginAnew cX3_beginAnew 1 none 3 [.ref (gz G + (v0))] σ none σ' := by
  refine met_v (by decide +kernel) (Nat.le_of_ble_eq_true rfl) rfl ?_
  intro p e s m args below meth c Q ls X hW hret hl
  have hx := X.1.1
  have hb := X.1.2.1
  have hl : lv_has ls 1 [(0, .ref (gz G + (v0)))] := hl
  have h := hf
  clear hf
  unfold pf_X3_beginAnew at h
  refine lv_aload_n hx hb dX3_beginAnew_0 rfl (lv_at hl 0 rfl) ?_
  refine lv_iconst (v := 0) hx hb dX3_beginAnew_1 (by decide) ?_
  refine sf_X3_status X hW h0 m_1_55 dX3_beginAnew_2 ?_
  clear hW; intro H locs hW
  refine nm_s hW h ?_
  clear hW h; intro σ_1 hW h
  refine lv_aload_n hx hb dX3_beginAnew_5 rfl (lv_at hl 0 rfl) ?_
  refine lv_iconst (v := 0) hx hb dX3_beginAnew_6 (by decide) ?_
  refine sf_X3_done X hW h0 m_1_59 dX3_beginAnew_7 ?_
  clear hW; intro H locs hW
  refine nm_s hW h ?_
  clear hW h; intro σ_2 hW h
  refine lv_aload_n hx hb dX3_beginAnew_10 rfl (lv_at hl 0 rfl) ?_
  refine gf_X3_fails X hW h0 m_1_81 dX3_beginAnew_11 ?_
  refine lv_iconst (v := 0) hx hb dX3_beginAnew_14 (by decide) ?_
  obtain ⟨σ_3, hcl, h⟩ := bind_el h
  refine call_S0 X hW m_4_139 m_2_129 mv_J7_fill_53178 (c_J7_fill_53178 (kf_X3_fails h0) hcl) (by decide) rfl rfl (Nat.le_of_ble_eq_true rfl) hl.1 dX3_beginAnew_15 ?_
  clear hW hcl; intro H locs hW
  exact rv_end hret h dX3_beginAnew_18 hW
set_option maxRecDepth 20000 in
set_option maxHeartbeats 4000000 in
theorem c_X3_clear {G : Gt} {l : Launch} {v0 : Nat} (h0 : kd v0 = 3) {σ : St} {σ' : St} (hf : pf_X3_clear v0 σ = some σ') : Ct G l yX3_clear cX3_clear 1 none 4 [.ref (gz G + (v0))] σ none σ' := by
  refine met_v (by decide +kernel) (Nat.le_of_ble_eq_true rfl) rfl ?_
  intro p e s m args below meth c Q ls X hW hret hl
  have hx := X.1.1
  have hb := X.1.2.1
  have hl : lv_has ls 1 [(0, .ref (gz G + (v0)))] := hl
  have h := hf
  clear hf
  unfold pf_X3_clear at h
  refine lv_aload_n hx hb dX3_clear_0 rfl (lv_at hl 0 rfl) ?_
  refine lv_iconst (v := 0) hx hb dX3_clear_1 (by decide) ?_
  refine sf_X3_stepCount X hW h0 m_1_51 dX3_clear_2 ?_
  clear hW; intro H locs hW
  refine nm_s hW h ?_
  clear hW h; intro σ_1 hW h
  refine lv_aload_n hx hb dX3_clear_5 rfl (lv_at hl 0 rfl) ?_
  obtain ⟨σ_2, hcl, h⟩ := bind_el h
  refine call_V0 X hW (kC_X3 h0) m_4_135 m_4_136 m_4_137 mv_X3_beginAnew (c_X3_beginAnew h0 hcl) (by decide) rfl rfl (Nat.le_of_ble_eq_true rfl) hl.1 dX3_clear_6 ?_
  clear hW hcl; intro H locs hW
  refine lv_aload_n hx hb dX3_clear_9 rfl (lv_at hl 0 rfl) ?_
  refine gf_X3_ahead X hW h0 m_1_84 dX3_clear_10 ?_
  refine lv_iconst (v := 0) hx hb dX3_clear_13 (by decide) ?_
  obtain ⟨σ_3, hcl, h⟩ := bind_el h
  refine call_S0 X hW m_4_139 m_2_129 mv_J7_fill_53178 (c_J7_fill_53178 (kf_X3_ahead h0) hcl) (by decide) rfl rfl (Nat.le_of_ble_eq_true rfl) hl.1 dX3_clear_14 ?_
  clear hW hcl; intro H locs hW
  refine lv_aload_n hx hb dX3_clear_17 rfl (lv_at hl 0 rfl) ?_
  refine gf_X3_costly X hW h0 m_1_87 dX3_clear_18 ?_
  refine lv_iconst (v := 0) hx hb dX3_clear_21 (by decide) ?_
  obtain ⟨σ_4, hcl, h⟩ := bind_el h
  refine call_S0 X hW m_4_139 m_2_129 mv_J7_fill_53178 (c_J7_fill_53178 (kf_X3_costly h0) hcl) (by decide) rfl rfl (Nat.le_of_ble_eq_true rfl) hl.1 dX3_clear_22 ?_
  clear hW hcl; intro H locs hW
  refine lv_aload_n hx hb dX3_clear_25 rfl (lv_at hl 0 rfl) ?_
  refine gf_X3_uses X hW h0 m_1_91 dX3_clear_26 ?_
  refine lv_iconst (v := 0) hx hb dX3_clear_29 (by decide) ?_
  obtain ⟨σ_5, hcl, h⟩ := bind_el h
  refine call_S0 X hW m_4_139 m_2_129 mv_J7_fill_53178 (c_J7_fill_53178 (kf_X3_uses h0) hcl) (by decide) rfl rfl (Nat.le_of_ble_eq_true rfl) hl.1 dX3_clear_30 ?_
  clear hW hcl; intro H locs hW
  refine lv_aload_n hx hb dX3_clear_33 rfl (lv_at hl 0 rfl) ?_
  refine gf_X3_needs X hW h0 m_1_96 dX3_clear_34 ?_
  refine lv_iconst (v := 0) hx hb dX3_clear_37 (by decide) ?_
  obtain ⟨σ_6, hcl, h⟩ := bind_el h
  refine call_S0 X hW m_4_139 m_2_129 mv_J7_fill_53178 (c_J7_fill_53178 (kf_X3_needs h0) hcl) (by decide) rfl rfl (Nat.le_of_ble_eq_true rfl) hl.1 dX3_clear_38 ?_
  clear hW hcl; intro H locs hW
  refine lv_aload_n hx hb dX3_clear_41 rfl (lv_at hl 0 rfl) ?_
  refine gf_X3_gives X hW h0 m_1_99 dX3_clear_42 ?_
  refine lv_iconst (v := 0) hx hb dX3_clear_45 (by decide) ?_
  obtain ⟨σ_7, hcl, h⟩ := bind_el h
  refine call_S0 X hW m_4_139 m_2_129 mv_J7_fill_53178 (c_J7_fill_53178 (kf_X3_gives h0) hcl) (by decide) rfl rfl (Nat.le_of_ble_eq_true rfl) hl.1 dX3_clear_46 ?_
  clear hW hcl; intro H locs hW
  exact rv_end hret h dX3_clear_49 hW
set_option maxRecDepth 20000 in
set_option maxHeartbeats 4000000 in
theorem bl_X3_brokenSteps_b26 {σ : St} (X : Cx G p R s m args c cells slots cX3_brokenSteps 3 RX3 4) {r : Int32} (hret : R_I G p l e R s m args below meth c cells slots Q cX3_brokenSteps r σ) {k4 : Nat → Int32 → Int32 → (Option (Int32))}
    (hk4 : ∀ (v0 : Nat) (h0 : kd v0 = 3) (v1 : Int32) (v2 : Int32) (_ : k4 v0 v1 v2 = some r) (H : Heap) (locs : List Loc) (ls : Array Slot) (_ : GW G σ s H locs) (_ : lv_has ls 3 [(0, .ref (gz G + (v0))), (1, .int (v1)), (2, .int (v2))]), W p l e R s m args below meth c H locs cells slots Q (F0 m 4 ls [])) :
    ∀ (v0 : Nat) (h0 : kd v0 = 3) (v1 : Int32) (v2 : Int32) (_ : pf_X3_brokenSteps_b26 σ k4 v0 v1 v2 = some r) (H : Heap) (locs : List Loc) (ls : Array Slot) (_ : GW G σ s H locs) (_ : lv_has ls 3 [(0, .ref (gz G + (v0))), (1, .int (v1)), (2, .int (v2))]), W p l e R s m args below meth c H locs cells slots Q (F0 m 26 ls []) := by
  have hx := X.1.1
  have hb := X.1.2.1
  intro v0 h0 v1 v2 h H locs ls hW hl
  unfold pf_X3_brokenSteps_b26 at h
  refine w_iinc (v := 1) (lv' := fun y => [(2, .int (y)), (0, .ref (gz G + (v0))), (1, .int (v1))]) hx hb dX3_brokenSteps_26 hl (k := 2) rfl (by decide) (by decide) (fun _ => rfl) h ?_
  clear h hl; intro v2_1 h ls hl
  refine lv_goto (tgt := 4) hx hb dX3_brokenSteps_29 (by decide) ?_
  exact hk4 v0 h0 v1 v2_1 h _ _ _ hW (lv_sub hl [1, 2, 0] rfl)
set_option maxRecDepth 20000 in
set_option maxHeartbeats 4000000 in
theorem bl_X3_brokenSteps_L4 {σ : St} (X : Cx G p R s m args c cells slots cX3_brokenSteps 3 RX3 4) {r : Int32} (hret : R_I G p l e R s m args below meth c cells slots Q cX3_brokenSteps r σ) :
    ∀ (n : Nat), ∀ (v0 : Nat) (h0 : kd v0 = 3) (v1 : Int32) (v2 : Int32) (_ : pf_X3_brokenSteps_L4 σ n v0 v1 v2 = some r) (H : Heap) (locs : List Loc) (ls : Array Slot) (_ : GW G σ s H locs) (_ : lv_has ls 3 [(0, .ref (gz G + (v0))), (1, .int (v1)), (2, .int (v2))]), W p l e R s m args below meth c H locs cells slots Q (F0 m 4 ls []) := by
  have hx := X.1.1
  have hb := X.1.2.1
  intro n
  induction n with
  | zero => intro v0 h0 v1 v2 h H locs ls hW hl; cases h
  | succ n ih =>
    intro v0 h0 v1 v2 h H locs ls hW hl
    rw [pf_X3_brokenSteps_L4.eq_2] at h
    refine lv_iload_n hx hb dX3_brokenSteps_4 rfl (lv_at hl 2 rfl) ?_
    refine lv_aload_n hx hb dX3_brokenSteps_5 rfl (lv_at hl 0 rfl) ?_
    refine gf_X3_stepCount X hW h0 m_1_51 dX3_brokenSteps_6 ?_
    refine lv_icmp_ge (tgt := 32) hx hb dX3_brokenSteps_9 (by decide) (fun hc => ?_) (fun hc => ?_)
    · replace h := if_t hc h
      refine lv_iload_n hx hb dX3_brokenSteps_32 rfl (lv_at hl 1 rfl) ?_
      exact ri_end0 hret h dX3_brokenSteps_33 hW
    · replace h := if_f hc h
      refine lv_aload_n hx hb dX3_brokenSteps_12 rfl (lv_at hl 0 rfl) ?_
      refine lv_iload_n hx hb dX3_brokenSteps_13 rfl (lv_at hl 2 rfl) ?_
      obtain ⟨r_1, hcl, h⟩ := bind_el h
      refine call_V1 X hW (kC_X3 h0) m_2_151 m_2_153 m_0_4 mv_X3_isBroken (c_X3_isBroken h0 hcl) (by decide) rfl rfl (Nat.le_of_ble_eq_true rfl) hl.1 dX3_brokenSteps_14 ?_
      clear hW hcl; intro H locs hW
      refine lv_if_eq (tgt := 26) hx hb dX3_brokenSteps_17 (by decide) (fun hc => ?_) (fun hc => ?_)
      · replace h := if_t hc h
        exact bl_X3_brokenSteps_b26 X hret ih v0 h0 v1 v2 h _ _ _ hW (lv_sub hl [0, 1, 2] rfl)
      · replace h := if_f hc h
        refine lv_iload_n hx hb dX3_brokenSteps_20 rfl (lv_at hl 1 rfl) ?_
        refine lv_iconst (v := 1) hx hb dX3_brokenSteps_21 (by decide) ?_
        refine lv_iload_n hx hb dX3_brokenSteps_22 rfl (lv_at hl 2 rfl) ?_
        refine w_ishl hx hb dX3_brokenSteps_23 ?_
        refine lv_ior hx hb dX3_brokenSteps_24 ?_
        refine nm_i h ?_
        clear h; intro v1_2 h
        refine lv_istore_n (lv' := [(1, .int (v1_2)), (0, .ref (gz G + (v0))), (2, .int (v2))]) hx hb dX3_brokenSteps_25 rfl hl (by decide) rfl ?_
        clear hl; intro ls hl
        exact bl_X3_brokenSteps_b26 X hret ih v0 h0 v1_2 v2 h _ _ _ hW (lv_sub hl [1, 0, 2] rfl)
set_option maxRecDepth 20000 in
set_option maxHeartbeats 4000000 in
theorem c_X3_brokenSteps {G : Gt} {l : Launch} {v0 : Nat} (h0 : kd v0 = 3) {σ : St} {r : Int32} (hf : pf_X3_brokenSteps v0 σ = some r) : Ct G l yX3_brokenSteps cX3_brokenSteps 3 (some .int) 4 [.ref (gz G + (v0))] σ (some (.int r)) σ := by
  refine met_i (by decide +kernel) (Nat.le_of_ble_eq_true rfl) rfl ?_
  intro p e s m args below meth c Q ls X hW hret hl
  have hx := X.1.1
  have hb := X.1.2.1
  have hl : lv_has ls 3 [(0, .ref (gz G + (v0)))] := hl
  have h := hf
  clear hf
  unfold pf_X3_brokenSteps at h
  refine lv_iconst (v := 0) hx hb dX3_brokenSteps_0 (by decide) ?_
  refine lv_istore_n (lv' := [(1, .int (0)), (0, .ref (gz G + (v0)))]) hx hb dX3_brokenSteps_1 rfl hl (by decide) rfl ?_
  clear hl; intro ls hl
  refine lv_iconst (v := 0) hx hb dX3_brokenSteps_2 (by decide) ?_
  refine lv_istore_n (lv' := [(2, .int (0)), (1, .int (0)), (0, .ref (gz G + (v0)))]) hx hb dX3_brokenSteps_3 rfl hl (by decide) rfl ?_
  clear hl; intro ls hl
  exact bl_X3_brokenSteps_L4 X hret FU v0 h0 0 0 h _ _ _ hW (lv_sub hl [2, 1, 0] rfl)
set_option maxRecDepth 20000 in
set_option maxHeartbeats 4000000 in
theorem bl_X3_sumOfFails_L4 {σ : St} (X : Cx G p R s m args c cells slots cX3_sumOfFails 3 RX3 3) {r : Int32} (hret : R_I G p l e R s m args below meth c cells slots Q cX3_sumOfFails r σ) :
    ∀ (n : Nat), ∀ (v0 : Nat) (h0 : kd v0 = 3) (v1 : Int32) (v2 : Int32) (_ : pf_X3_sumOfFails_L4 σ n v0 v1 v2 = some r) (H : Heap) (locs : List Loc) (ls : Array Slot) (_ : GW G σ s H locs) (_ : lv_has ls 3 [(0, .ref (gz G + (v0))), (1, .int (v1)), (2, .int (v2))]), W p l e R s m args below meth c H locs cells slots Q (F0 m 4 ls []) := by
  have hx := X.1.1
  have hb := X.1.2.1
  intro n
  induction n with
  | zero => intro v0 h0 v1 v2 h H locs ls hW hl; cases h
  | succ n ih =>
    intro v0 h0 v1 v2 h H locs ls hW hl
    rw [pf_X3_sumOfFails_L4.eq_2] at h
    refine lv_iload_n hx hb dX3_sumOfFails_4 rfl (lv_at hl 2 rfl) ?_
    refine lv_aload_n hx hb dX3_sumOfFails_5 rfl (lv_at hl 0 rfl) ?_
    refine gf_X3_stepCount X hW h0 m_1_51 dX3_sumOfFails_6 ?_
    refine lv_icmp_ge (tgt := 29) hx hb dX3_sumOfFails_9 (by decide) (fun hc => ?_) (fun hc => ?_)
    · replace h := if_t hc h
      refine lv_iload_n hx hb dX3_sumOfFails_29 rfl (lv_at hl 1 rfl) ?_
      exact ri_end0 hret h dX3_sumOfFails_30 hW
    · replace h := if_f hc h
      refine lv_iload_n hx hb dX3_sumOfFails_12 rfl (lv_at hl 1 rfl) ?_
      refine lv_aload_n hx hb dX3_sumOfFails_13 rfl (lv_at hl 0 rfl) ?_
      refine gf_X3_fails X hW h0 m_1_81 dX3_sumOfFails_14 ?_
      refine lv_iload_n hx hb dX3_sumOfFails_17 rfl (lv_at hl 2 rfl) ?_
      obtain ⟨r_1, hcl, h⟩ := bind_el h
      refine call_SN1 X hW m_2_155 m_2_132 mv_X10_at (c_X10_at (kf_X3_fails h0) hcl) (by decide) rfl rfl (Nat.le_of_ble_eq_true rfl) hl.1 dX3_sumOfFails_18 ?_
      clear hW hcl; intro H locs hW
      refine lv_iadd hx hb dX3_sumOfFails_21 ?_
      refine nm_i h ?_
      clear h; intro v1_2 h
      refine lv_istore_n (lv' := [(1, .int (v1_2)), (0, .ref (gz G + (v0))), (2, .int (v2))]) hx hb dX3_sumOfFails_22 rfl hl (by decide) rfl ?_
      clear hl; intro ls hl
      refine w_iinc (v := 1) (lv' := fun y => [(2, .int (y)), (1, .int (v1_2)), (0, .ref (gz G + (v0)))]) hx hb dX3_sumOfFails_23 hl (k := 2) rfl (by decide) (by decide) (fun _ => rfl) h ?_
      clear h hl; intro v2_3 h ls hl
      refine lv_goto (tgt := 4) hx hb dX3_sumOfFails_26 (by decide) ?_
      exact ih v0 h0 v1_2 v2_3 h _ _ _ hW (lv_sub hl [2, 1, 0] rfl)
set_option maxRecDepth 20000 in
set_option maxHeartbeats 4000000 in
theorem c_X3_sumOfFails {G : Gt} {l : Launch} {v0 : Nat} (h0 : kd v0 = 3) {σ : St} {r : Int32} (hf : pf_X3_sumOfFails v0 σ = some r) : Ct G l yX3_sumOfFails cX3_sumOfFails 3 (some .int) 3 [.ref (gz G + (v0))] σ (some (.int r)) σ := by
  refine met_i (by decide +kernel) (Nat.le_of_ble_eq_true rfl) rfl ?_
  intro p e s m args below meth c Q ls X hW hret hl
  have hx := X.1.1
  have hb := X.1.2.1
  have hl : lv_has ls 3 [(0, .ref (gz G + (v0)))] := hl
  have h := hf
  clear hf
  unfold pf_X3_sumOfFails at h
  refine lv_iconst (v := 0) hx hb dX3_sumOfFails_0 (by decide) ?_
  refine lv_istore_n (lv' := [(1, .int (0)), (0, .ref (gz G + (v0)))]) hx hb dX3_sumOfFails_1 rfl hl (by decide) rfl ?_
  clear hl; intro ls hl
  refine lv_iconst (v := 0) hx hb dX3_sumOfFails_2 (by decide) ?_
  refine lv_istore_n (lv' := [(2, .int (0)), (1, .int (0)), (0, .ref (gz G + (v0)))]) hx hb dX3_sumOfFails_3 rfl hl (by decide) rfl ?_
  clear hl; intro ls hl
  exact bl_X3_sumOfFails_L4 X hret FU v0 h0 0 0 h _ _ _ hW (lv_sub hl [2, 1, 0] rfl)
set_option maxRecDepth 20000 in
set_option maxHeartbeats 4000000 in
theorem bl_X3_riskOf_b31 {σ : St} (X : Cx G p R s m args c cells slots cX3_riskOf 4 RX3 3) {r : Int32} (hret : R_I G p l e R s m args below meth c cells slots Q cX3_riskOf r σ) {k4 : Nat → Int32 → Int32 → Int32 → (Option (Int32))}
    (hk4 : ∀ (v0 : Nat) (h0 : kd v0 = 3) (v1 : Int32) (v2 : Int32) (v3 : Int32) (_ : k4 v0 v1 v2 v3 = some r) (H : Heap) (locs : List Loc) (ls : Array Slot) (_ : GW G σ s H locs) (_ : lv_has ls 4 [(0, .ref (gz G + (v0))), (1, .int (v1)), (2, .int (v2)), (3, .int (v3))]), W p l e R s m args below meth c H locs cells slots Q (F0 m 4 ls [])) :
    ∀ (v0 : Nat) (h0 : kd v0 = 3) (v1 : Int32) (v2 : Int32) (v3 : Int32) (_ : pf_X3_riskOf_b31 σ k4 v0 v1 v2 v3 = some r) (H : Heap) (locs : List Loc) (ls : Array Slot) (_ : GW G σ s H locs) (_ : lv_has ls 4 [(0, .ref (gz G + (v0))), (1, .int (v1)), (2, .int (v2)), (3, .int (v3))]), W p l e R s m args below meth c H locs cells slots Q (F0 m 31 ls []) := by
  have hx := X.1.1
  have hb := X.1.2.1
  intro v0 h0 v1 v2 v3 h H locs ls hW hl
  unfold pf_X3_riskOf_b31 at h
  refine w_iinc (v := 1) (lv' := fun y => [(3, .int (y)), (0, .ref (gz G + (v0))), (1, .int (v1)), (2, .int (v2))]) hx hb dX3_riskOf_31 hl (k := 3) rfl (by decide) (by decide) (fun _ => rfl) h ?_
  clear h hl; intro v3_1 h ls hl
  refine lv_goto (tgt := 4) hx hb dX3_riskOf_34 (by decide) ?_
  exact hk4 v0 h0 v1 v2 v3_1 h _ _ _ hW (lv_sub hl [1, 2, 3, 0] rfl)
set_option maxRecDepth 20000 in
set_option maxHeartbeats 4000000 in
theorem bl_X3_riskOf_L4 {σ : St} (X : Cx G p R s m args c cells slots cX3_riskOf 4 RX3 3) {r : Int32} (hret : R_I G p l e R s m args below meth c cells slots Q cX3_riskOf r σ) :
    ∀ (n : Nat), ∀ (v0 : Nat) (h0 : kd v0 = 3) (v1 : Int32) (v2 : Int32) (v3 : Int32) (_ : pf_X3_riskOf_L4 σ n v0 v1 v2 v3 = some r) (H : Heap) (locs : List Loc) (ls : Array Slot) (_ : GW G σ s H locs) (_ : lv_has ls 4 [(0, .ref (gz G + (v0))), (1, .int (v1)), (2, .int (v2)), (3, .int (v3))]), W p l e R s m args below meth c H locs cells slots Q (F0 m 4 ls []) := by
  have hx := X.1.1
  have hb := X.1.2.1
  intro n
  induction n with
  | zero => intro v0 h0 v1 v2 v3 h H locs ls hW hl; cases h
  | succ n ih =>
    intro v0 h0 v1 v2 v3 h H locs ls hW hl
    rw [pf_X3_riskOf_L4.eq_2] at h
    refine lv_iload_n hx hb dX3_riskOf_4 rfl (lv_at hl 3 rfl) ?_
    refine lv_aload_n hx hb dX3_riskOf_5 rfl (lv_at hl 0 rfl) ?_
    refine gf_X3_stepCount X hW h0 m_1_51 dX3_riskOf_6 ?_
    refine lv_icmp_ge (tgt := 37) hx hb dX3_riskOf_9 (by decide) (fun hc => ?_) (fun hc => ?_)
    · replace h := if_t hc h
      refine lv_iload_n hx hb dX3_riskOf_37 rfl (lv_at hl 2 rfl) ?_
      exact ri_end0 hret h dX3_riskOf_38 hW
    · replace h := if_f hc h
      refine lv_iload_n hx hb dX3_riskOf_12 rfl (lv_at hl 1 rfl) ?_
      refine lv_iload_n hx hb dX3_riskOf_13 rfl (lv_at hl 3 rfl) ?_
      refine w_iushr hx hb dX3_riskOf_14 ?_
      refine lv_iconst (v := 1) hx hb dX3_riskOf_15 (by decide) ?_
      refine lv_iand hx hb dX3_riskOf_16 ?_
      refine lv_if_eq (tgt := 31) hx hb dX3_riskOf_17 (by decide) (fun hc => ?_) (fun hc => ?_)
      · replace h := if_t hc h
        exact bl_X3_riskOf_b31 X hret ih v0 h0 v1 v2 v3 h _ _ _ hW (lv_sub hl [0, 1, 2, 3] rfl)
      · replace h := if_f hc h
        refine lv_iload_n hx hb dX3_riskOf_20 rfl (lv_at hl 2 rfl) ?_
        refine lv_aload_n hx hb dX3_riskOf_21 rfl (lv_at hl 0 rfl) ?_
        refine gf_X3_risk X hW h0 m_1_74 dX3_riskOf_22 ?_
        refine lv_iload_n hx hb dX3_riskOf_25 rfl (lv_at hl 3 rfl) ?_
        obtain ⟨r_1, hcl, h⟩ := bind_el h
        refine call_SN1 X hW m_2_155 m_2_132 mv_X10_at (c_X10_at (kf_X3_risk h0) hcl) (by decide) rfl rfl (Nat.le_of_ble_eq_true rfl) hl.1 dX3_riskOf_26 ?_
        clear hW hcl; intro H locs hW
        refine lv_iadd hx hb dX3_riskOf_29 ?_
        refine nm_i h ?_
        clear h; intro v2_2 h
        refine lv_istore_n (lv' := [(2, .int (v2_2)), (0, .ref (gz G + (v0))), (1, .int (v1)), (3, .int (v3))]) hx hb dX3_riskOf_30 rfl hl (by decide) rfl ?_
        clear hl; intro ls hl
        exact bl_X3_riskOf_b31 X hret ih v0 h0 v1 v2_2 v3 h _ _ _ hW (lv_sub hl [1, 2, 0, 3] rfl)
set_option maxRecDepth 20000 in
set_option maxHeartbeats 4000000 in
theorem c_X3_riskOf {G : Gt} {l : Launch} {v0 : Nat} (h0 : kd v0 = 3) {v1 : Int32} {σ : St} {r : Int32} (hf : pf_X3_riskOf v0 v1 σ = some r) : Ct G l yX3_riskOf cX3_riskOf 4 (some .int) 3 [.ref (gz G + (v0)), .int (v1)] σ (some (.int r)) σ := by
  refine met_i (by decide +kernel) (Nat.le_of_ble_eq_true rfl) rfl ?_
  intro p e s m args below meth c Q ls X hW hret hl
  have hx := X.1.1
  have hb := X.1.2.1
  have hl : lv_has ls 4 [(0, .ref (gz G + (v0))), (1, .int (v1))] := hl
  have h := hf
  clear hf
  unfold pf_X3_riskOf at h
  refine lv_iconst (v := 0) hx hb dX3_riskOf_0 (by decide) ?_
  refine lv_istore_n (lv' := [(2, .int (0)), (0, .ref (gz G + (v0))), (1, .int (v1))]) hx hb dX3_riskOf_1 rfl hl (by decide) rfl ?_
  clear hl; intro ls hl
  refine lv_iconst (v := 0) hx hb dX3_riskOf_2 (by decide) ?_
  refine lv_istore_n (lv' := [(3, .int (0)), (2, .int (0)), (0, .ref (gz G + (v0))), (1, .int (v1))]) hx hb dX3_riskOf_3 rfl hl (by decide) rfl ?_
  clear hl; intro ls hl
  exact bl_X3_riskOf_L4 X hret FU v0 h0 v1 0 0 h _ _ _ hW (lv_sub hl [2, 3, 1, 0] rfl)
set_option maxRecDepth 20000 in
set_option maxHeartbeats 4000000 in
theorem c_J9_max_7cf53 {G : Gt} {l : Launch} {v0 : Int32} {v1 : Int32} {σ : St} {r : Int32} (hf : pf_J9_max_7cf53 v0 v1 σ = some r) : Ct G l yJ9_max_7cf53 cJ9_max_7cf53 2 (some .int) 2 [.int (v0), .int (v1)] σ (some (.int r)) σ := by
  refine met_i (by decide +kernel) (Nat.le_of_ble_eq_true rfl) rfl ?_
  intro p e s m args below meth c Q ls X hW hret hl
  have hx := X.1.1
  have hb := X.1.2.1
  have hl : lv_has ls 2 [(0, .int (v0)), (1, .int (v1))] := hl
  have h := hf
  clear hf
  unfold pf_J9_max_7cf53 at h
  refine lv_iload_n hx hb dJ9_max_7cf53_0 rfl (lv_at hl 0 rfl) ?_
  refine lv_iload_n hx hb dJ9_max_7cf53_1 rfl (lv_at hl 1 rfl) ?_
  refine lv_icmp_lt (tgt := 9) hx hb dJ9_max_7cf53_2 (by decide) (fun hc => ?_) (fun hc => ?_)
  · replace h := if_t hc h
    refine lv_iload_n hx hb dJ9_max_7cf53_9 rfl (lv_at hl 1 rfl) ?_
    exact ri_end0 hret h dJ9_max_7cf53_10 hW
  · replace h := if_f hc h
    refine lv_iload_n hx hb dJ9_max_7cf53_5 rfl (lv_at hl 0 rfl) ?_
    refine lv_goto (tgt := 10) hx hb dJ9_max_7cf53_6 (by decide) ?_
    exact ri_end0 hret h dJ9_max_7cf53_10 hW
set_option maxRecDepth 20000 in
set_option maxHeartbeats 4000000 in
theorem bl_X3_hindranceBehind_L40 {σ : St} (X : Cx G p R s m args c cells slots cX3_hindranceBehind 7 RX3 4) {r : Int32} (hret : R_I G p l e R s m args below meth c cells slots Q cX3_hindranceBehind r σ) :
    ∀ (n : Nat), ∀ (v0 : Nat) (h0 : kd v0 = 3) (v2 : Int32) (v3 : Nat) (h3 : kd v3 = 11) (v4 : Int32) (v5 : Int32) (_ : pf_X3_hindranceBehind_L40 σ n v0 v2 v3 v4 v5 = some r) (H : Heap) (locs : List Loc) (ls : Array Slot) (_ : GW G σ s H locs) (_ : lv_has ls 7 [(0, .ref (gz G + (v0))), (2, .int (v2)), (3, .ref (gz G + (v3))), (4, .int (v4)), (5, .int (v5))]), W p l e R s m args below meth c H locs cells slots Q (F0 m 40 ls []) := by
  have hx := X.1.1
  have hb := X.1.2.1
  intro n
  induction n with
  | zero => intro v0 h0 v2 v3 h3 v4 v5 h H locs ls hW hl; cases h
  | succ n ih =>
    intro v0 h0 v2 v3 h3 v4 v5 h H locs ls hW hl
    rw [pf_X3_hindranceBehind_L40.eq_2] at h
    refine lv_iload hx hb dX3_hindranceBehind_40 (lv_at hl 4 rfl) ?_
    refine lv_bipush (v := 8) hx hb dX3_hindranceBehind_42 (by decide) ?_
    refine lv_icmp_ge (tgt := 97) hx hb dX3_hindranceBehind_44 (by decide) (fun hc => ?_) (fun hc => ?_)
    · replace h := if_t hc h
      refine lv_iconst (v := 0) hx hb dX3_hindranceBehind_97 (by decide) ?_
      exact ri_end0 hret h dX3_hindranceBehind_98 hW
    · replace h := if_f hc h
      refine lv_iload_n hx hb dX3_hindranceBehind_47 rfl (lv_at hl 1 rfl) ?_
      refine lv_bipush (v := 8) hx hb dX3_hindranceBehind_48 (by decide) ?_
      refine lv_imul hx hb dX3_hindranceBehind_50 ?_
      refine lv_iload hx hb dX3_hindranceBehind_51 (lv_at hl 4 rfl) ?_
      refine lv_iadd hx hb dX3_hindranceBehind_53 ?_
      refine nm_i h ?_
      clear h; intro v6_1 h
      refine lv_istore (lv' := [(6, .int (v6_1)), (0, .ref (gz G + (v0))), (2, .int (v2)), (3, .ref (gz G + (v3))), (4, .int (v4)), (5, .int (v5))]) hx hb dX3_hindranceBehind_54 hl (by decide) rfl ?_
      clear hl; intro ls hl
      refine lv_aload_n hx hb dX3_hindranceBehind_56 rfl (lv_at hl 3 rfl) ?_
      refine lv_iload hx hb dX3_hindranceBehind_57 (lv_at hl 4 rfl) ?_
      refine lv_iload hx hb dX3_hindranceBehind_59 (lv_at hl 5 rfl) ?_
      refine lv_iadd hx hb dX3_hindranceBehind_61 ?_
      obtain ⟨r_2, hcl, h⟩ := bind_el h
      refine call_SN1 X hW m_2_155 m_2_132 mv_X10_at (c_X10_at h3 hcl) (by decide) rfl rfl (Nat.le_of_ble_eq_true rfl) hl.1 dX3_hindranceBehind_62 ?_
      clear hW hcl; intro H locs hW
      refine lv_aload_n hx hb dX3_hindranceBehind_65 rfl (lv_at hl 1 rfl) ?_
      refine gf_X3_uses X hW h0 m_1_91 dX3_hindranceBehind_66 ?_
      refine lv_iload hx hb dX3_hindranceBehind_69 (lv_at hl 0 rfl) ?_
      obtain ⟨r_3, hcl, h⟩ := bind_el h
      refine call_SN1 X hW m_2_155 m_2_132 mv_X10_at (c_X10_at (kf_X3_uses h0) hcl) (by decide) rfl rfl (Nat.le_of_ble_eq_true rfl) hl.1 dX3_hindranceBehind_71 ?_
      clear hW hcl; intro H locs hW
      refine lv_aload_n hx hb dX3_hindranceBehind_74 rfl (lv_at hl 1 rfl) ?_
      refine gf_X3_needs X hW h0 m_1_96 dX3_hindranceBehind_75 ?_
      refine lv_iload hx hb dX3_hindranceBehind_78 (lv_at hl 0 rfl) ?_
      obtain ⟨r_4, hcl, h⟩ := bind_el h
      refine call_SN1 X hW m_2_155 m_2_132 mv_X10_at (c_X10_at (kf_X3_needs h0) hcl) (by decide) rfl rfl (Nat.le_of_ble_eq_true rfl) hl.1 dX3_hindranceBehind_80 ?_
      clear hW hcl; intro H locs hW
      obtain ⟨r_5, hcl, h⟩ := bind_el h
      refine call_S1 X hW m_2_156 m_2_157 mv_J9_max_7cf53 (c_J9_max_7cf53 hcl) (by decide) rfl rfl (Nat.le_of_ble_eq_true rfl) hl.1 dX3_hindranceBehind_83 ?_
      clear hW hcl; intro H locs hW
      refine lv_icmp_ge (tgt := 91) hx hb dX3_hindranceBehind_86 (by decide) (fun hc => ?_) (fun hc => ?_)
      · replace h := if_t hc h
        refine w_iinc (v := 1) (lv' := fun y => [(5, .int (y)), (6, .int (v6_1)), (0, .ref (gz G + (v0))), (2, .int (v2)), (3, .ref (gz G + (v3))), (4, .int (v4))]) hx hb dX3_hindranceBehind_91 hl (k := 5) rfl (by decide) (by decide) (fun _ => rfl) h ?_
        clear h hl; intro v5_6 h ls hl
        refine lv_goto (tgt := 40) hx hb dX3_hindranceBehind_94 (by decide) ?_
        exact ih v0 h0 v2 v3 h3 v4 v5_6 h _ _ _ hW (lv_sub hl [2, 3, 4, 5, 0] rfl)
      · replace h := if_f hc h
        refine lv_iconst (v := 5) hx hb dX3_hindranceBehind_89 (by decide) ?_
        exact ri_end0 hret h dX3_hindranceBehind_90 hW
set_option maxRecDepth 20000 in
set_option maxHeartbeats 4000000 in
theorem c_X3_hindranceBehind {G : Gt} {l : Launch} {v0 : Nat} (h0 : kd v0 = 3) {v1 : Int32} {v2 : Int32} {v3 : Nat} (h3 : kd v3 = 11) {v4 : Int32} {σ : St} {r : Int32} (hf : pf_X3_hindranceBehind v0 v1 v2 v3 v4 σ = some r) : Ct G l yX3_hindranceBehind cX3_hindranceBehind 7 (some .int) 4 [.ref (gz G + (v0)), .int (v1), .int (v2), .ref (gz G + (v3)), .int (v4)] σ (some (.int r)) σ := by
  refine met_i (by decide +kernel) (Nat.le_of_ble_eq_true rfl) rfl ?_
  intro p e s m args below meth c Q ls X hW hret hl
  have hx := X.1.1
  have hb := X.1.2.1
  have hl : lv_has ls 7 [(0, .ref (gz G + (v0))), (1, .int (v1)), (2, .int (v2)), (3, .ref (gz G + (v3))), (4, .int (v4))] := hl
  have h := hf
  clear hf
  unfold pf_X3_hindranceBehind at h
  refine lv_iload_n hx hb dX3_hindranceBehind_0 rfl (lv_at hl 1 rfl) ?_
  refine lv_iload_n hx hb dX3_hindranceBehind_1 rfl (lv_at hl 2 rfl) ?_
  refine w_iushr hx hb dX3_hindranceBehind_2 ?_
  refine lv_iconst (v := 1) hx hb dX3_hindranceBehind_3 (by decide) ?_
  refine lv_iand hx hb dX3_hindranceBehind_4 ?_
  refine lv_if_eq (tgt := 10) hx hb dX3_hindranceBehind_5 (by decide) (fun hc => ?_) (fun hc => ?_)
  · replace h := if_t hc h
    refine lv_aload_n hx hb dX3_hindranceBehind_10 rfl (lv_at hl 0 rfl) ?_
    refine lv_iload_n hx hb dX3_hindranceBehind_11 rfl (lv_at hl 2 rfl) ?_
    obtain ⟨r_1, hcl, h⟩ := bind_el h
    refine call_V1 X hW (kC_X3 h0) m_2_151 m_2_153 m_0_4 mv_X3_isBroken (c_X3_isBroken h0 hcl) (by decide) rfl rfl (Nat.le_of_ble_eq_true rfl) hl.1 dX3_hindranceBehind_12 ?_
    clear hW hcl; intro H locs hW
    refine lv_if_eq (tgt := 20) hx hb dX3_hindranceBehind_15 (by decide) (fun hc => ?_) (fun hc => ?_)
    · replace h := if_t hc h
      refine lv_aload_n hx hb dX3_hindranceBehind_20 rfl (lv_at hl 0 rfl) ?_
      refine gf_X3_ahead X hW h0 m_1_84 dX3_hindranceBehind_21 ?_
      refine lv_iload_n hx hb dX3_hindranceBehind_24 rfl (lv_at hl 2 rfl) ?_
      obtain ⟨r_2, hcl, h⟩ := bind_el h
      refine call_SN1 X hW m_2_155 m_2_132 mv_X10_at (c_X10_at (kf_X3_ahead h0) hcl) (by decide) rfl rfl (Nat.le_of_ble_eq_true rfl) hl.1 dX3_hindranceBehind_25 ?_
      clear hW hcl; intro H locs hW
      refine lv_iload_n hx hb dX3_hindranceBehind_28 rfl (lv_at hl 1 rfl) ?_
      refine lv_iconst (v := (-1)) hx hb dX3_hindranceBehind_29 (by decide) ?_
      refine lv_ixor hx hb dX3_hindranceBehind_30 ?_
      refine lv_iand hx hb dX3_hindranceBehind_31 ?_
      refine lv_if_eq (tgt := 37) hx hb dX3_hindranceBehind_32 (by decide) (fun hc => ?_) (fun hc => ?_)
      · replace h := if_t hc h
        refine lv_iconst (v := 0) hx hb dX3_hindranceBehind_37 (by decide) ?_
        refine lv_istore (lv' := [(5, .int (0)), (0, .ref (gz G + (v0))), (1, .int (v1)), (2, .int (v2)), (3, .ref (gz G + (v3))), (4, .int (v4))]) hx hb dX3_hindranceBehind_38 hl (by decide) rfl ?_
        clear hl; intro ls hl
        exact bl_X3_hindranceBehind_L40 X hret FU v0 h0 v2 v3 h3 v4 0 h _ _ _ hW (lv_sub hl [1, 3, 4, 5, 0] rfl)
      · replace h := if_f hc h
        refine lv_iconst (v := 4) hx hb dX3_hindranceBehind_35 (by decide) ?_
        exact ri_end0 hret h dX3_hindranceBehind_36 hW
    · replace h := if_f hc h
      refine lv_iconst (v := 3) hx hb dX3_hindranceBehind_18 (by decide) ?_
      exact ri_end0 hret h dX3_hindranceBehind_19 hW
  · replace h := if_f hc h
    refine lv_iconst (v := 2) hx hb dX3_hindranceBehind_8 (by decide) ?_
    exact ri_end0 hret h dX3_hindranceBehind_9 hW
set_option maxRecDepth 20000 in
set_option maxHeartbeats 4000000 in
theorem c_X3_hindrance {G : Gt} {l : Launch} {v0 : Nat} (h0 : kd v0 = 3) {v1 : Int32} {v2 : Nat} (h2 : kd v2 = 11) {σ : St} {r : Int32} (hf : pf_X3_hindrance v0 v1 v2 σ = some r) : Ct G l yX3_hindrance cX3_hindrance 3 (some .int) 5 [.ref (gz G + (v0)), .int (v1), .ref (gz G + (v2))] σ (some (.int r)) σ := by
  refine met_i (by decide +kernel) (Nat.le_of_ble_eq_true rfl) rfl ?_
  intro p e s m args below meth c Q ls X hW hret hl
  have hx := X.1.1
  have hb := X.1.2.1
  have hl : lv_has ls 3 [(0, .ref (gz G + (v0))), (1, .int (v1)), (2, .ref (gz G + (v2)))] := hl
  have h := hf
  clear hf
  unfold pf_X3_hindrance at h
  refine lv_aload_n hx hb dX3_hindrance_0 rfl (lv_at hl 0 rfl) ?_
  refine gf_X3_status X hW h0 m_1_55 dX3_hindrance_1 ?_
  refine lv_if_ne (tgt := 21) hx hb dX3_hindrance_4 (by decide) (fun hc => ?_) (fun hc => ?_)
  · replace h := if_f hc h
    refine lv_iconst (v := 1) hx hb dX3_hindrance_21 (by decide) ?_
    exact ri_end0 hret h dX3_hindrance_22 hW
  · replace h := if_t hc h
    refine lv_aload_n hx hb dX3_hindrance_7 rfl (lv_at hl 0 rfl) ?_
    refine lv_aload_n hx hb dX3_hindrance_8 rfl (lv_at hl 0 rfl) ?_
    refine gf_X3_done X hW h0 m_1_59 dX3_hindrance_9 ?_
    refine lv_iload_n hx hb dX3_hindrance_12 rfl (lv_at hl 1 rfl) ?_
    refine lv_aload_n hx hb dX3_hindrance_13 rfl (lv_at hl 2 rfl) ?_
    refine lv_iconst (v := 0) hx hb dX3_hindrance_14 (by decide) ?_
    obtain ⟨r_1, hcl, h⟩ := bind_el h
    refine call_V1 X hW (kC_X3 h0) m_3_144 m_2_148 m_2_149 mv_X3_hindranceBehind (c_X3_hindranceBehind h0 h2 hcl) (by decide) rfl rfl (Nat.le_of_ble_eq_true rfl) hl.1 dX3_hindrance_15 ?_
    clear hW hcl; intro H locs hW
    refine lv_goto (tgt := 22) hx hb dX3_hindrance_18 (by decide) ?_
    exact ri_end0 hret h dX3_hindrance_22 hW
set_option maxRecDepth 20000 in
set_option maxHeartbeats 4000000 in
theorem bl_X3_stepsToTry_b27 {σ : St} (X : Cx G p R s m args c cells slots cX3_stepsToTry 4 RX3 6) {r : Int32} (hret : R_I G p l e R s m args below meth c cells slots Q cX3_stepsToTry r σ) {k4 : Nat → Nat → Int32 → Int32 → (Option (Int32))}
    (hk4 : ∀ (v0 : Nat) (h0 : kd v0 = 3) (v1 : Nat) (h1 : kd v1 = 11) (v2 : Int32) (v3 : Int32) (_ : k4 v0 v1 v2 v3 = some r) (H : Heap) (locs : List Loc) (ls : Array Slot) (_ : GW G σ s H locs) (_ : lv_has ls 4 [(0, .ref (gz G + (v0))), (1, .ref (gz G + (v1))), (2, .int (v2)), (3, .int (v3))]), W p l e R s m args below meth c H locs cells slots Q (F0 m 4 ls [])) :
    ∀ (v0 : Nat) (h0 : kd v0 = 3) (v1 : Nat) (h1 : kd v1 = 11) (v2 : Int32) (v3 : Int32) (_ : pf_X3_stepsToTry_b27 σ k4 v0 v1 v2 v3 = some r) (H : Heap) (locs : List Loc) (ls : Array Slot) (_ : GW G σ s H locs) (_ : lv_has ls 4 [(0, .ref (gz G + (v0))), (1, .ref (gz G + (v1))), (2, .int (v2)), (3, .int (v3))]), W p l e R s m args below meth c H locs cells slots Q (F0 m 27 ls []) := by
  have hx := X.1.1
  have hb := X.1.2.1
  intro v0 h0 v1 h1 v2 v3 h H locs ls hW hl
  unfold pf_X3_stepsToTry_b27 at h
  refine w_iinc (v := 1) (lv' := fun y => [(3, .int (y)), (0, .ref (gz G + (v0))), (1, .ref (gz G + (v1))), (2, .int (v2))]) hx hb dX3_stepsToTry_27 hl (k := 3) rfl (by decide) (by decide) (fun _ => rfl) h ?_
  clear h hl; intro v3_1 h ls hl
  refine lv_goto (tgt := 4) hx hb dX3_stepsToTry_30 (by decide) ?_
  exact hk4 v0 h0 v1 h1 v2 v3_1 h _ _ _ hW (lv_sub hl [1, 2, 3, 0] rfl)
set_option maxRecDepth 20000 in
set_option maxHeartbeats 4000000 in
theorem bl_X3_stepsToTry_L4 {σ : St} (X : Cx G p R s m args c cells slots cX3_stepsToTry 4 RX3 6) {r : Int32} (hret : R_I G p l e R s m args below meth c cells slots Q cX3_stepsToTry r σ) :
    ∀ (n : Nat), ∀ (v0 : Nat) (h0 : kd v0 = 3) (v1 : Nat) (h1 : kd v1 = 11) (v2 : Int32) (v3 : Int32) (_ : pf_X3_stepsToTry_L4 σ n v0 v1 v2 v3 = some r) (H : Heap) (locs : List Loc) (ls : Array Slot) (_ : GW G σ s H locs) (_ : lv_has ls 4 [(0, .ref (gz G + (v0))), (1, .ref (gz G + (v1))), (2, .int (v2)), (3, .int (v3))]), W p l e R s m args below meth c H locs cells slots Q (F0 m 4 ls []) := by
  have hx := X.1.1
  have hb := X.1.2.1
  intro n
  induction n with
  | zero => intro v0 h0 v1 h1 v2 v3 h H locs ls hW hl; cases h
  | succ n ih =>
    intro v0 h0 v1 h1 v2 v3 h H locs ls hW hl
    rw [pf_X3_stepsToTry_L4.eq_2] at h
    refine lv_iload_n hx hb dX3_stepsToTry_4 rfl (lv_at hl 3 rfl) ?_
    refine lv_aload_n hx hb dX3_stepsToTry_5 rfl (lv_at hl 0 rfl) ?_
    refine gf_X3_stepCount X hW h0 m_1_51 dX3_stepsToTry_6 ?_
    refine lv_icmp_ge (tgt := 33) hx hb dX3_stepsToTry_9 (by decide) (fun hc => ?_) (fun hc => ?_)
    · replace h := if_t hc h
      refine lv_iload_n hx hb dX3_stepsToTry_33 rfl (lv_at hl 2 rfl) ?_
      exact ri_end0 hret h dX3_stepsToTry_34 hW
    · replace h := if_f hc h
      refine lv_aload_n hx hb dX3_stepsToTry_12 rfl (lv_at hl 0 rfl) ?_
      refine lv_iload_n hx hb dX3_stepsToTry_13 rfl (lv_at hl 3 rfl) ?_
      refine lv_aload_n hx hb dX3_stepsToTry_14 rfl (lv_at hl 1 rfl) ?_
      obtain ⟨r_1, hcl, h⟩ := bind_el h
      refine call_V1 X hW (kC_X3 h0) m_3_140 m_3_141 m_3_142 mv_X3_hindrance (c_X3_hindrance h0 h1 hcl) (by decide) rfl rfl (Nat.le_of_ble_eq_true rfl) hl.1 dX3_stepsToTry_15 ?_
      clear hW hcl; intro H locs hW
      refine lv_if_ne (tgt := 27) hx hb dX3_stepsToTry_18 (by decide) (fun hc => ?_) (fun hc => ?_)
      · replace h := if_f hc h
        exact bl_X3_stepsToTry_b27 X hret ih v0 h0 v1 h1 v2 v3 h _ _ _ hW (lv_sub hl [0, 1, 2, 3] rfl)
      · replace h := if_t hc h
        refine lv_iload_n hx hb dX3_stepsToTry_21 rfl (lv_at hl 2 rfl) ?_
        refine lv_iconst (v := 1) hx hb dX3_stepsToTry_22 (by decide) ?_
        refine lv_iload_n hx hb dX3_stepsToTry_23 rfl (lv_at hl 3 rfl) ?_
        refine w_ishl hx hb dX3_stepsToTry_24 ?_
        refine lv_ior hx hb dX3_stepsToTry_25 ?_
        refine nm_i h ?_
        clear h; intro v2_2 h
        refine lv_istore_n (lv' := [(2, .int (v2_2)), (0, .ref (gz G + (v0))), (1, .ref (gz G + (v1))), (3, .int (v3))]) hx hb dX3_stepsToTry_26 rfl hl (by decide) rfl ?_
        clear hl; intro ls hl
        exact bl_X3_stepsToTry_b27 X hret ih v0 h0 v1 h1 v2_2 v3 h _ _ _ hW (lv_sub hl [1, 2, 0, 3] rfl)
set_option maxRecDepth 20000 in
set_option maxHeartbeats 4000000 in
theorem c_X3_stepsToTry {G : Gt} {l : Launch} {v0 : Nat} (h0 : kd v0 = 3) {v1 : Nat} (h1 : kd v1 = 11) {σ : St} {r : Int32} (hf : pf_X3_stepsToTry v0 v1 σ = some r) : Ct G l yX3_stepsToTry cX3_stepsToTry 4 (some .int) 6 [.ref (gz G + (v0)), .ref (gz G + (v1))] σ (some (.int r)) σ := by
  refine met_i (by decide +kernel) (Nat.le_of_ble_eq_true rfl) rfl ?_
  intro p e s m args below meth c Q ls X hW hret hl
  have hx := X.1.1
  have hb := X.1.2.1
  have hl : lv_has ls 4 [(0, .ref (gz G + (v0))), (1, .ref (gz G + (v1)))] := hl
  have h := hf
  clear hf
  unfold pf_X3_stepsToTry at h
  refine lv_iconst (v := 0) hx hb dX3_stepsToTry_0 (by decide) ?_
  refine lv_istore_n (lv' := [(2, .int (0)), (0, .ref (gz G + (v0))), (1, .ref (gz G + (v1)))]) hx hb dX3_stepsToTry_1 rfl hl (by decide) rfl ?_
  clear hl; intro ls hl
  refine lv_iconst (v := 0) hx hb dX3_stepsToTry_2 (by decide) ?_
  refine lv_istore_n (lv' := [(3, .int (0)), (2, .int (0)), (0, .ref (gz G + (v0))), (1, .ref (gz G + (v1)))]) hx hb dX3_stepsToTry_3 rfl hl (by decide) rfl ?_
  clear hl; intro ls hl
  exact bl_X3_stepsToTry_L4 X hret FU v0 h0 v1 h1 0 0 h _ _ _ hW (lv_sub hl [2, 3, 1, 0] rfl)
set_option maxRecDepth 20000 in
set_option maxHeartbeats 4000000 in
theorem c_X4_offsetOfError {G : Gt} {l : Launch} {v0 : Nat} (h0 : kd v0 = 4) {σ : St} {r : Int32} (hf : pf_X4_offsetOfError v0 σ = some r) : Ct G l yX4_offsetOfError cX4_offsetOfError 1 (some .int) 2 [.ref (gz G + (v0))] σ (some (.int r)) σ := by
  refine met_i (by decide +kernel) (Nat.le_of_ble_eq_true rfl) rfl ?_
  intro p e s m args below meth c Q ls X hW hret hl
  have hx := X.1.1
  have hb := X.1.2.1
  have hl : lv_has ls 1 [(0, .ref (gz G + (v0)))] := hl
  have h := hf
  clear hf
  unfold pf_X4_offsetOfError at h
  refine lv_aload_n hx hb dX4_offsetOfError_0 rfl (lv_at hl 0 rfl) ?_
  refine gf_X4_tokens X hW h0 m_2_7 dX4_offsetOfError_1 ?_
  refine gfN_X6_errorOffset X hW (kf_X4_tokens h0) m_1_213 dX4_offsetOfError_4 ?_
  exact ri_end0 hret h dX4_offsetOfError_7 hW
set_option maxRecDepth 20000 in
set_option maxHeartbeats 4000000 in
theorem c_X4_begin {G : Gt} {l : Launch} {v0 : Nat} (h0 : kd v0 = 4) {v1 : Nat} (h1 : kd v1 = 2) {σ : St} {σ' : St} (hf : pf_X4_begin v0 v1 σ = some σ') : Ct G l yX4_begin cX4_begin 2 none 4 [.ref (gz G + (v0)), .ref (gz G + (v1))] σ none σ' := by
  refine met_v (by decide +kernel) (Nat.le_of_ble_eq_true rfl) rfl ?_
  intro p e s m args below meth c Q ls X hW hret hl
  have hx := X.1.1
  have hb := X.1.2.1
  have hl : lv_has ls 2 [(0, .ref (gz G + (v0))), (1, .ref (gz G + (v1)))] := hl
  have h := hf
  clear hf
  unfold pf_X4_begin at h
  refine lv_aload_n hx hb dX4_begin_0 rfl (lv_at hl 1 rfl) ?_
  obtain ⟨σ_1, hcl, h⟩ := bind_el h
  refine call_V0 X hW (kC_X2 h1) m_4_20 m_4_21 m_4_22 mv_X2_clear (c_X2_clear h1 hcl) (by decide) rfl rfl (Nat.le_of_ble_eq_true rfl) hl.1 dX4_begin_1 ?_
  clear hW hcl; intro H locs hW
  refine lv_aload_n hx hb dX4_begin_4 rfl (lv_at hl 1 rfl) ?_
  refine lv_bipush (v := (-5)) hx hb dX4_begin_5 (by decide) ?_
  obtain ⟨σ_2, hcl, h⟩ := bind_el h
  refine call_V0 X hW (kC_X2 h1) m_4_25 m_4_26 m_4_27 mv_X2_appendCode (c_X2_appendCode h1 hcl) (by decide) rfl rfl (Nat.le_of_ble_eq_true rfl) hl.1 dX4_begin_7 ?_
  clear hW hcl; intro H locs hW
  refine lv_aload_n hx hb dX4_begin_10 rfl (lv_at hl 0 rfl) ?_
  refine lv_iconst (v := 0) hx hb dX4_begin_11 (by decide) ?_
  refine sf_X4_stockTold X hW h0 m_2_10 dX4_begin_12 ?_
  clear hW; intro H locs hW
  refine nm_s hW h ?_
  clear hW h; intro σ_3 hW h
  refine lv_aload_n hx hb dX4_begin_15 rfl (lv_at hl 0 rfl) ?_
  refine lv_iconst (v := 0) hx hb dX4_begin_16 (by decide) ?_
  refine sf_X4_seedTold X hW (by decide) h0 m_2_11 dX4_begin_17 ?_
  clear hW; intro H locs hW
  refine nm_s hW h ?_
  clear hW h; intro σ_4 hW h
  refine lv_aload_n hx hb dX4_begin_20 rfl (lv_at hl 0 rfl) ?_
  refine lv_iconst (v := 0) hx hb dX4_begin_21 (by decide) ?_
  refine sf_X4_worthTold X hW (by decide) h0 m_2_12 dX4_begin_22 ?_
  clear hW; intro H locs hW
  refine nm_s hW h ?_
  clear hW h; intro σ_5 hW h
  exact rv_end hret h dX4_begin_25 hW
set_option maxRecDepth 20000 in
set_option maxHeartbeats 4000000 in
theorem c_X6_ahead {G : Gt} {l : Launch} {v0 : Nat} (h0 : kd v0 = 5) {σ : St} {r : Option Nat} (hf : pf_X6_ahead v0 σ = some r) : Ct G l yX6_ahead cX6_ahead 1 (some (.object "QuestLedger$Token")) 2 [.ref (gz G + (v0))] σ (some (va_re (gad G) r)) σ := by
  refine met_a (by decide +kernel) (Nat.le_of_ble_eq_true rfl) rfl (Or.inl ⟨_, rfl⟩) (va_re_or _ _) ?_
  intro p e s m args below meth c Q ls X hW hret hl
  have hx := X.1.1
  have hb := X.1.2.1
  have hl : lv_has ls 1 [(0, .ref (gz G + (v0)))] := hl
  have h := hf
  clear hf
  unfold pf_X6_ahead at h
  refine lv_aload_n hx hb dX6_ahead_0 rfl (lv_at hl 0 rfl) ?_
  refine gf_X6_error X hW h0 m_1_210 dX6_ahead_1 ?_
  refine lv_if_ne (tgt := 35) hx hb dX6_ahead_4 (by decide) (fun hc => ?_) (fun hc => ?_)
  · replace h := if_f hc h
    refine r_gtok (k := 3) X hW (by decide) m_4_39 dX6_ahead_35 ?_
    exact rt_end hret h dX6_ahead_38 hW
  · replace h := if_t hc h
    refine lv_aload_n hx hb dX6_ahead_7 rfl (lv_at hl 0 rfl) ?_
    refine gf_X6_place X hW h0 m_1_209 dX6_ahead_8 ?_
    refine lv_if_lt (tgt := 35) hx hb dX6_ahead_11 (by decide) (fun hc => ?_) (fun hc => ?_)
    · replace h := if_t hc h
      refine r_gtok (k := 3) X hW (by decide) m_4_39 dX6_ahead_35 ?_
      exact rt_end hret h dX6_ahead_38 hW
    · replace h := if_f hc h
      refine lv_aload_n hx hb dX6_ahead_14 rfl (lv_at hl 0 rfl) ?_
      refine gf_X6_place X hW h0 m_1_209 dX6_ahead_15 ?_
      refine lv_aload_n hx hb dX6_ahead_18 rfl (lv_at hl 0 rfl) ?_
      refine gf_X6_count X hW h0 m_1_208 dX6_ahead_19 ?_
      refine lv_icmp_ge (tgt := 35) hx hb dX6_ahead_22 (by decide) (fun hc => ?_) (fun hc => ?_)
      · replace h := if_t hc h
        refine r_gtok (k := 3) X hW (by decide) m_4_39 dX6_ahead_35 ?_
        exact rt_end hret h dX6_ahead_38 hW
      · replace h := if_f hc h
        refine lv_aload_n hx hb dX6_ahead_25 rfl (lv_at hl 0 rfl) ?_
        refine gf_X6_place X hW h0 m_1_209 dX6_ahead_26 ?_
        refine lv_sipush (v := 800) hx hb dX6_ahead_29 (by decide) ?_
        refine lv_icmp_le (tgt := 39) hx hb dX6_ahead_32 (by decide) (fun hc => ?_) (fun hc => ?_)
        · replace h := if_t hc h
          refine lv_aload_n hx hb dX6_ahead_39 rfl (lv_at hl 0 rfl) ?_
          refine gf_X6_kinds X hW h0 m_1_205 dX6_ahead_40 ?_
          refine lv_aload_n hx hb dX6_ahead_43 rfl (lv_at hl 0 rfl) ?_
          refine gf_X6_place X hW h0 m_1_209 dX6_ahead_44 ?_
          obtain ⟨hi1, h⟩ := ckI_el h
          refine r_tald X hW (kf_X6_kinds h0) hi1 dX6_ahead_47 ?_
          exact rt_end hret h dX6_ahead_48 hW
        · replace h := if_f hc h
          refine r_gtok (k := 3) X hW (by decide) m_4_39 dX6_ahead_35 ?_
          exact rt_end hret h dX6_ahead_38 hW
set_option maxRecDepth 20000 in
set_option maxHeartbeats 4000000 in
theorem c_X6_fail {G : Gt} {l : Launch} {v0 : Nat} (h0 : kd v0 = 5) {v1 : Int32} {v2 : Int32} {σ : St} {σ' : St} (hf : pf_X6_fail v0 v1 v2 σ = some σ') : Ct G l yX6_fail cX6_fail 3 none 2 [.ref (gz G + (v0)), .int (v1), .int (v2)] σ none σ' := by
  refine met_v (by decide +kernel) (Nat.le_of_ble_eq_true rfl) rfl ?_
  intro p e s m args below meth c Q ls X hW hret hl
  have hx := X.1.1
  have hb := X.1.2.1
  have hl : lv_has ls 3 [(0, .ref (gz G + (v0))), (1, .int (v1)), (2, .int (v2))] := hl
  have h := hf
  clear hf
  unfold pf_X6_fail at h
  refine lv_aload_n hx hb dX6_fail_0 rfl (lv_at hl 0 rfl) ?_
  refine gf_X6_error X hW h0 m_1_210 dX6_fail_1 ?_
  refine lv_if_ne (tgt := 17) hx hb dX6_fail_4 (by decide) (fun hc => ?_) (fun hc => ?_)
  · replace h := if_f hc h
    exact rv_end hret h dX6_fail_17 hW
  · replace h := if_t hc h
    refine lv_aload_n hx hb dX6_fail_7 rfl (lv_at hl 0 rfl) ?_
    refine lv_iload_n hx hb dX6_fail_8 rfl (lv_at hl 1 rfl) ?_
    refine sf_X6_error X hW h0 m_1_210 dX6_fail_9 ?_
    clear hW; intro H locs hW
    refine nm_s hW h ?_
    clear hW h; intro σ_1 hW h
    refine lv_aload_n hx hb dX6_fail_12 rfl (lv_at hl 0 rfl) ?_
    refine lv_iload_n hx hb dX6_fail_13 rfl (lv_at hl 2 rfl) ?_
    refine sf_X6_errorOffset X hW h0 m_1_212 dX6_fail_14 ?_
    clear hW; intro H locs hW
    refine nm_s hW h ?_
    clear hW h; intro σ_2 hW h
    exact rv_end hret h dX6_fail_17 hW
set_option maxRecDepth 20000 in
set_option maxHeartbeats 4000000 in
theorem bl_X6_start_b29 {σ : St} (X : Cx G p R s m args c cells slots cX6_start 1 RX6 2) {r : Int32} (hret : R_I G p l e R s m args below meth c cells slots Q cX6_start r σ) :
    ∀ (_ : pf_X6_start_b29 σ = some r) (H : Heap) (locs : List Loc) (ls : Array Slot) (_ : GW G σ s H locs) (_ : lv_has ls 1 []), W p l e R s m args below meth c H locs cells slots Q (F0 m 29 ls []) := by
  have hx := X.1.1
  have hb := X.1.2.1
  intro h H locs ls hW hl
  unfold pf_X6_start_b29 at h
  refine lv_iconst (v := 0) hx hb dX6_start_29 (by decide) ?_
  exact ri_end0 hret h dX6_start_30 hW
set_option maxRecDepth 20000 in
set_option maxHeartbeats 4000000 in
theorem c_X6_start {G : Gt} {l : Launch} {v0 : Nat} (h0 : kd v0 = 5) {σ : St} {r : Int32} (hf : pf_X6_start v0 σ = some r) : Ct G l yX6_start cX6_start 1 (some .int) 2 [.ref (gz G + (v0))] σ (some (.int r)) σ := by
  refine met_i (by decide +kernel) (Nat.le_of_ble_eq_true rfl) rfl ?_
  intro p e s m args below meth c Q ls X hW hret hl
  have hx := X.1.1
  have hb := X.1.2.1
  have hl : lv_has ls 1 [(0, .ref (gz G + (v0)))] := hl
  have h := hf
  clear hf
  unfold pf_X6_start at h
  refine lv_aload_n hx hb dX6_start_0 rfl (lv_at hl 0 rfl) ?_
  refine gf_X6_place X hW h0 m_1_209 dX6_start_1 ?_
  refine lv_if_lt (tgt := 29) hx hb dX6_start_4 (by decide) (fun hc => ?_) (fun hc => ?_)
  · replace h := if_t hc h
    exact bl_X6_start_b29 X hret h _ _ _ hW (lv_sub hl [] rfl)
  · replace h := if_f hc h
    refine lv_aload_n hx hb dX6_start_7 rfl (lv_at hl 0 rfl) ?_
    refine gf_X6_place X hW h0 m_1_209 dX6_start_8 ?_
    refine lv_sipush (v := 800) hx hb dX6_start_11 (by decide) ?_
    refine lv_icmp_gt (tgt := 29) hx hb dX6_start_14 (by decide) (fun hc => ?_) (fun hc => ?_)
    · replace h := if_t hc h
      exact bl_X6_start_b29 X hret h _ _ _ hW (lv_sub hl [] rfl)
    · replace h := if_f hc h
      refine lv_aload_n hx hb dX6_start_17 rfl (lv_at hl 0 rfl) ?_
      refine gf_X6_starts X hW h0 m_1_206 dX6_start_18 ?_
      refine lv_aload_n hx hb dX6_start_21 rfl (lv_at hl 0 rfl) ?_
      refine gf_X6_place X hW h0 m_1_209 dX6_start_22 ?_
      obtain ⟨hi1, h⟩ := ckI_el h
      refine r_iald X hW (kf_X6_starts h0) hi1 dX6_start_25 ?_
      refine lv_goto (tgt := 30) hx hb dX6_start_26 (by decide) ?_
      exact ri_end0 hret h dX6_start_30 hW
set_option maxRecDepth 20000 in
set_option maxHeartbeats 4000000 in
theorem c_X6_expect {G : Gt} {l : Launch} {v0 : Nat} (h0 : kd v0 = 5) {v1 : Option Nat} {σ : St} {σ' : St} (hf : pf_X6_expect v0 v1 σ = some σ') : Ct G l yX6_expect cX6_expect 2 none 3 [.ref (gz G + (v0)), va_re (gad G) (v1)] σ none σ' := by
  refine met_v (by decide +kernel) (by cases v1 <;> exact Nat.le_of_ble_eq_true rfl) rfl ?_
  intro p e s m args below meth c Q ls X hW hret hl
  have hx := X.1.1
  have hb := X.1.2.1
  have hl : lv_has ls 2 [(0, .ref (gz G + (v0))), (1, va_re (gad G) (v1))] := hl
  have h := hf
  clear hf
  unfold pf_X6_expect at h
  refine lv_aload_n hx hb dX6_expect_0 rfl (lv_at hl 0 rfl) ?_
  obtain ⟨r_1, hcl, h⟩ := bind_el h
  refine call_V1 X hW (kC_X6 h0) m_4_35 m_4_36 m_4_37 mv_X6_ahead (c_X6_ahead h0 hcl) (by decide) rfl rfl (Nat.le_of_ble_eq_true rfl) hl.1 dX6_expect_1 ?_
  clear hW hcl; intro H locs hW
  refine lv_aload_nT hx hb dX6_expect_4 rfl (lv_at hl 1 rfl) ?_
  refine r_acmp_ne (a := r_1) (b := v1) (tgt := 21) X hx hb dX6_expect_5 (by decide) (fun hc => ?_) (fun hc => ?_)
  · replace h := if_f hc h
    refine lv_aload_n hx hb dX6_expect_21 rfl (lv_at hl 0 rfl) ?_
    refine lv_bipush (v := (-2)) hx hb dX6_expect_22 (by decide) ?_
    refine lv_aload_n hx hb dX6_expect_24 rfl (lv_at hl 0 rfl) ?_
    obtain ⟨r_3, hcl, h⟩ := bind_el h
    refine call_V1 X hW (kC_X6 h0) m_4_41 m_4_42 m_4_43 mv_X6_start (c_X6_start h0 hcl) (by decide) rfl rfl (Nat.le_of_ble_eq_true rfl) hl.1 dX6_expect_25 ?_
    clear hW hcl; intro H locs hW
    obtain ⟨σ_4, hcl, h⟩ := bind_el h
    refine call_V0 X hW (kC_X6 h0) m_4_45 m_4_46 m_4_47 mv_X6_fail (c_X6_fail h0 hcl) (by decide) rfl rfl (Nat.le_of_ble_eq_true rfl) hl.1 dX6_expect_28 ?_
    clear hW hcl; intro H locs hW
    exact rv_end hret h dX6_expect_31 hW
  · replace h := if_t hc h
    refine lv_aload_n hx hb dX6_expect_8 rfl (lv_at hl 0 rfl) ?_
    refine lv_dup hx hb dX6_expect_9 rfl ?_
    refine gf_X6_place X hW h0 m_1_209 dX6_expect_10 ?_
    refine lv_iconst (v := 1) hx hb dX6_expect_13 (by decide) ?_
    refine lv_iadd hx hb dX6_expect_14 ?_
    refine sf_X6_place X hW h0 m_1_209 dX6_expect_15 ?_
    clear hW; intro H locs hW
    refine nm_s hW h ?_
    clear hW h; intro σ_2 hW h
    refine lv_goto (tgt := 31) hx hb dX6_expect_18 (by decide) ?_
    exact rv_end hret h dX6_expect_31 hW
end
