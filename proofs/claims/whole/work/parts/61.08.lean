section
variable {G : Gt} {p : Program} {l : Launch} {e : Env} {R : Room} {s : State} {m : MethodId} {args : Array Value} {below : List Frame} {meth : Method} {c : Code} {cells slots : Nat} {Q : State → Prop}
set_option maxRecDepth 20000 in
set_option maxHeartbeats 4000000 in
theorem c_X11_thrown {G : Gt} {l : Launch} {v0 : Nat} (h0 : kd v0 = 10) {σ : St} {r : Int32} (hf : pf_X11_thrown v0 σ = some r) : Ct G l yX11_thrown cX11_thrown 1 (some .int) 2 [.ref (gz G + (v0))] σ (some (.int r)) σ := by
  refine met_i (by decide +kernel) (Nat.le_of_ble_eq_true rfl) rfl ?_
  intro p e s m args below meth c Q ls X hW hret hl
  have hx := X.1.1
  have hb := X.1.2.1
  have hl : lv_has ls 1 [(0, .ref (gz G + (v0)))] := hl
  have h := hf
  clear hf
  unfold pf_X11_thrown at h
  refine lv_aload_n hx hb dX11_thrown_0 rfl (lv_at hl 0 rfl) ?_
  refine gf_X11_thrown X hW h0 m_6_6 dX11_thrown_1 ?_
  exact ri_end0 hret h dX11_thrown_4 hW
set_option maxRecDepth 20000 in
set_option maxHeartbeats 4000000 in
theorem c_X11_isIn {G : Gt} {l : Launch} {v0 : Int32} {v1 : Int32} {v2 : Int32} {σ : St} {r : Int32} (hf : pf_X11_isIn v0 v1 v2 σ = some r) : Ct G l yX11_isIn cX11_isIn 3 (some .boolean) 2 [.int (v0), .int (v1), .int (v2)] σ (some (.int r)) σ := by
  refine met_z (by decide +kernel) (Nat.le_of_ble_eq_true rfl) rfl ?_
  intro p e s m args below meth c Q ls X hW hret hl
  have hx := X.1.1
  have hb := X.1.2.1
  have hl : lv_has ls 3 [(0, .int (v0)), (1, .int (v1)), (2, .int (v2))] := hl
  have h := hf
  clear hf
  unfold pf_X11_isIn at h
  refine lv_iload_n hx hb dX11_isIn_0 rfl (lv_at hl 0 rfl) ?_
  refine lv_iload_n hx hb dX11_isIn_1 rfl (lv_at hl 1 rfl) ?_
  refine lv_icmp_lt (tgt := 14) hx hb dX11_isIn_2 (by decide) (fun hc => ?_) (fun hc => ?_)
  · replace h := if_t hc h
    refine lv_iconst (v := 0) hx hb dX11_isIn_14 (by decide) ?_
    exact rz_end0 hret h (by decide) dX11_isIn_15 hW
  · replace h := if_f hc h
    refine lv_iload_n hx hb dX11_isIn_5 rfl (lv_at hl 0 rfl) ?_
    refine lv_iload_n hx hb dX11_isIn_6 rfl (lv_at hl 2 rfl) ?_
    refine lv_icmp_gt (tgt := 14) hx hb dX11_isIn_7 (by decide) (fun hc => ?_) (fun hc => ?_)
    · replace h := if_t hc h
      refine lv_iconst (v := 0) hx hb dX11_isIn_14 (by decide) ?_
      exact rz_end0 hret h (by decide) dX11_isIn_15 hW
    · replace h := if_f hc h
      refine lv_iconst (v := 1) hx hb dX11_isIn_10 (by decide) ?_
      refine lv_goto (tgt := 15) hx hb dX11_isIn_11 (by decide) ?_
      exact rz_end0 hret h (by decide) dX11_isIn_15 hW
set_option maxRecDepth 20000 in
set_option maxHeartbeats 4000000 in
theorem c_X11_get {G : Gt} {l : Launch} {v0 : Nat} (h0 : kd v0 = 10) {v1 : Int32} {σ : St} {r : Int32} (hf : pf_X11_get v0 v1 σ = some r) : Ct G l yX11_get cX11_get 2 (some .int) 2 [.ref (gz G + (v0)), .int (v1)] σ (some (.int r)) σ := by
  refine met_i (by decide +kernel) (Nat.le_of_ble_eq_true rfl) rfl ?_
  intro p e s m args below meth c Q ls X hW hret hl
  have hx := X.1.1
  have hb := X.1.2.1
  have hl : lv_has ls 2 [(0, .ref (gz G + (v0))), (1, .int (v1))] := hl
  have h := hf
  clear hf
  unfold pf_X11_get at h
  refine lv_aload_n hx hb dX11_get_0 rfl (lv_at hl 0 rfl) ?_
  refine gf_X11_rows X hW h0 m_6_7 dX11_get_1 ?_
  refine lv_sipush (v := 4370) hx hb dX11_get_4 (by decide) ?_
  refine lv_aload_n hx hb dX11_get_7 rfl (lv_at hl 0 rfl) ?_
  refine gf_X11_now X hW h0 m_6_9 dX11_get_8 ?_
  refine lv_imul hx hb dX11_get_11 ?_
  refine lv_iload_n hx hb dX11_get_12 rfl (lv_at hl 1 rfl) ?_
  refine lv_iadd hx hb dX11_get_13 ?_
  obtain ⟨hi1, h⟩ := ckI_el h
  refine r_iald X hW (kf_X11_rows h0) hi1 dX11_get_14 ?_
  exact ri_end0 hret h dX11_get_15 hW
set_option maxRecDepth 20000 in
set_option maxHeartbeats 4000000 in
theorem c_X11_put {G : Gt} {l : Launch} {v0 : Nat} (h0 : kd v0 = 10) {v1 : Int32} {v2 : Int32} {σ : St} {σ' : St} (hf : pf_X11_put v0 v1 v2 σ = some σ') : Ct G l yX11_put cX11_put 3 none 2 [.ref (gz G + (v0)), .int (v1), .int (v2)] σ none σ' := by
  refine met_v (by decide +kernel) (Nat.le_of_ble_eq_true rfl) rfl ?_
  intro p e s m args below meth c Q ls X hW hret hl
  have hx := X.1.1
  have hb := X.1.2.1
  have hl : lv_has ls 3 [(0, .ref (gz G + (v0))), (1, .int (v1)), (2, .int (v2))] := hl
  have h := hf
  clear hf
  unfold pf_X11_put at h
  refine lv_aload_n hx hb dX11_put_0 rfl (lv_at hl 0 rfl) ?_
  refine gf_X11_rows X hW h0 m_6_7 dX11_put_1 ?_
  refine lv_sipush (v := 4370) hx hb dX11_put_4 (by decide) ?_
  refine lv_aload_n hx hb dX11_put_7 rfl (lv_at hl 0 rfl) ?_
  refine gf_X11_now X hW h0 m_6_9 dX11_put_8 ?_
  refine lv_imul hx hb dX11_put_11 ?_
  refine lv_iload_n hx hb dX11_put_12 rfl (lv_at hl 1 rfl) ?_
  refine lv_iadd hx hb dX11_put_13 ?_
  refine lv_iload_n hx hb dX11_put_14 rfl (lv_at hl 2 rfl) ?_
  obtain ⟨hi1, h⟩ := ckI_el h
  refine r_iast X hW (kf_X11_rows h0) hi1 dX11_put_15 ?_
  clear hW; intro H locs hW
  refine nm_s hW h ?_
  clear hW h; intro σ_2 hW h
  exact rv_end hret h dX11_put_16 hW
set_option maxRecDepth 20000 in
set_option maxHeartbeats 4000000 in
theorem bl_X11_change_b70 (X : Cx G p R s m args c cells slots cX11_change 3 RX11 3) {σ' : St} (hret : R_V G p l e R s m args below meth c cells slots Q cX11_change σ') :
    ∀ (s0 : Nat) (hs0 : kd s0 = 10) (s1 : Int32) (σ : St) (_ : pf_X11_change_b70 s0 s1 σ = some σ') (H : Heap) (locs : List Loc) (ls : Array Slot) (_ : GW G σ s H locs) (_ : lv_has ls 3 []), W p l e R s m args below meth c H locs cells slots Q (F0 m 70 ls [.int (s1), .ref (gz G + (s0))]) := by
  have hx := X.1.1
  have hb := X.1.2.1
  intro s0 hs0 s1 σ h H locs ls hW hl
  unfold pf_X11_change_b70 at h
  refine sf_X11_undoable X hW hs0 m_6_10 dX11_change_70 ?_
  clear hW; intro H locs hW
  refine nm_s hW h ?_
  clear hW h; intro σ_1 hW h
  exact rv_end hret h dX11_change_73 hW
set_option maxRecDepth 20000 in
set_option maxHeartbeats 4000000 in
theorem bl_X11_change_b42 (X : Cx G p R s m args c cells slots cX11_change 3 RX11 3) {σ' : St} (hret : R_V G p l e R s m args below meth c cells slots Q cX11_change σ') :
    ∀ (v0 : Nat) (h0 : kd v0 = 10) (v1 : Int32) (σ : St) (_ : pf_X11_change_b42 v0 v1 σ = some σ') (H : Heap) (locs : List Loc) (ls : Array Slot) (_ : GW G σ s H locs) (_ : lv_has ls 3 [(0, .ref (gz G + (v0))), (1, .int (v1))]), W p l e R s m args below meth c H locs cells slots Q (F0 m 42 ls []) := by
  have hx := X.1.1
  have hb := X.1.2.1
  intro v0 h0 v1 σ h H locs ls hW hl
  unfold pf_X11_change_b42 at h
  refine lv_aload_n hx hb dX11_change_42 rfl (lv_at hl 0 rfl) ?_
  refine lv_iload_n hx hb dX11_change_43 rfl (lv_at hl 1 rfl) ?_
  refine sf_X11_now X hW h0 m_6_9 dX11_change_44 ?_
  clear hW; intro H locs hW
  refine nm_s hW h ?_
  clear hW h; intro σ_1 hW h
  refine lv_aload_n hx hb dX11_change_47 rfl (lv_at hl 0 rfl) ?_
  refine lv_aload_n hx hb dX11_change_48 rfl (lv_at hl 0 rfl) ?_
  refine gf_X11_undoable X hW h0 m_6_10 dX11_change_49 ?_
  refine lv_bipush (v := 8) hx hb dX11_change_52 (by decide) ?_
  refine lv_icmp_ge (tgt := 66) hx hb dX11_change_54 (by decide) (fun hc => ?_) (fun hc => ?_)
  · replace h := if_t hc h
    refine lv_aload_n hx hb dX11_change_66 rfl (lv_at hl 0 rfl) ?_
    refine gf_X11_undoable X hW h0 m_6_10 dX11_change_67 ?_
    exact bl_X11_change_b70 X hret v0 h0 (gI σ_1 v0 4) σ_1 h _ _ _ hW (lv_sub hl [] rfl)
  · replace h := if_f hc h
    refine lv_aload_n hx hb dX11_change_57 rfl (lv_at hl 0 rfl) ?_
    refine gf_X11_undoable X hW h0 m_6_10 dX11_change_58 ?_
    refine lv_iconst (v := 1) hx hb dX11_change_61 (by decide) ?_
    refine lv_iadd hx hb dX11_change_62 ?_
    refine lv_goto (tgt := 70) hx hb dX11_change_63 (by decide) ?_
    exact bl_X11_change_b70 X hret v0 h0 ((gI σ_1 v0 4) + 1) σ_1 h _ _ _ hW (lv_sub hl [] rfl)
set_option maxRecDepth 20000 in
set_option maxHeartbeats 4000000 in
theorem bl_X11_change_L12 (X : Cx G p R s m args c cells slots cX11_change 3 RX11 3) {σ' : St} (hret : R_V G p l e R s m args below meth c cells slots Q cX11_change σ') {k42 : Nat → Int32 → St → (Option St)}
    (hk42 : ∀ (v0 : Nat) (h0 : kd v0 = 10) (v1 : Int32) (σ : St) (_ : k42 v0 v1 σ = some σ') (H : Heap) (locs : List Loc) (ls : Array Slot) (_ : GW G σ s H locs) (_ : lv_has ls 3 [(0, .ref (gz G + (v0))), (1, .int (v1))]), W p l e R s m args below meth c H locs cells slots Q (F0 m 42 ls [])) :
    ∀ (n : Nat), ∀ (v0 : Nat) (h0 : kd v0 = 10) (v1 : Int32) (v2 : Int32) (σ : St) (_ : pf_X11_change_L12 k42 n v0 v1 v2 σ = some σ') (H : Heap) (locs : List Loc) (ls : Array Slot) (_ : GW G σ s H locs) (_ : lv_has ls 3 [(0, .ref (gz G + (v0))), (1, .int (v1)), (2, .int (v2))]), W p l e R s m args below meth c H locs cells slots Q (F0 m 12 ls []) := by
  have hx := X.1.1
  have hb := X.1.2.1
  intro n
  induction n with
  | zero => intro v0 h0 v1 v2 σ h H locs ls hW hl; cases h
  | succ n ih =>
    intro v0 h0 v1 v2 σ h H locs ls hW hl
    rw [pf_X11_change_L12.eq_2] at h
    refine lv_iload_n hx hb dX11_change_12 rfl (lv_at hl 2 rfl) ?_
    refine lv_sipush (v := 4370) hx hb dX11_change_13 (by decide) ?_
    refine lv_icmp_ge (tgt := 42) hx hb dX11_change_16 (by decide) (fun hc => ?_) (fun hc => ?_)
    · replace h := if_t hc h
      exact hk42 v0 h0 v1 σ h _ _ _ hW (lv_sub hl [0, 1] rfl)
    · replace h := if_f hc h
      refine lv_aload_n hx hb dX11_change_19 rfl (lv_at hl 0 rfl) ?_
      refine gf_X11_rows X hW h0 m_6_7 dX11_change_20 ?_
      refine lv_sipush (v := 4370) hx hb dX11_change_23 (by decide) ?_
      refine lv_iload_n hx hb dX11_change_26 rfl (lv_at hl 1 rfl) ?_
      refine lv_imul hx hb dX11_change_27 ?_
      refine lv_iload_n hx hb dX11_change_28 rfl (lv_at hl 2 rfl) ?_
      refine lv_iadd hx hb dX11_change_29 ?_
      refine lv_aload_n hx hb dX11_change_30 rfl (lv_at hl 0 rfl) ?_
      refine lv_iload_n hx hb dX11_change_31 rfl (lv_at hl 2 rfl) ?_
      obtain ⟨r_1, hcl, h⟩ := bind_el h
      refine call_V1 X hW (kC_X11 h0) m_7_17 m_7_19 m_0_68 mv_X11_get (c_X11_get h0 hcl) (by decide) rfl rfl (Nat.le_of_ble_eq_true rfl) hl.1 dX11_change_32 ?_
      clear hW hcl; intro H locs hW
      obtain ⟨hi2, h⟩ := ckI_el h
      refine r_iast X hW (kf_X11_rows h0) hi2 dX11_change_35 ?_
      clear hW; intro H locs hW
      refine nm_s hW h ?_
      clear hW h; intro σ_3 hW h
      refine w_iinc (v := 1) (lv' := fun y => [(2, .int (y)), (0, .ref (gz G + (v0))), (1, .int (v1))]) hx hb dX11_change_36 hl (k := 2) rfl (by decide) (by decide) (fun _ => rfl) h ?_
      clear h hl; intro v2_4 h ls hl
      refine lv_goto (tgt := 12) hx hb dX11_change_39 (by decide) ?_
      exact ih v0 h0 v1 v2_4 σ_3 h _ _ _ hW (lv_sub hl [1, 2, 0] rfl)
set_option maxRecDepth 20000 in
set_option maxHeartbeats 4000000 in
theorem c_X11_change {G : Gt} {l : Launch} {v0 : Nat} (h0 : kd v0 = 10) {σ : St} {σ' : St} (hf : pf_X11_change v0 σ = some σ') : Ct G l yX11_change cX11_change 3 none 3 [.ref (gz G + (v0))] σ none σ' := by
  refine met_v (by decide +kernel) (Nat.le_of_ble_eq_true rfl) rfl ?_
  intro p e s m args below meth c Q ls X hW hret hl
  have hx := X.1.1
  have hb := X.1.2.1
  have hl : lv_has ls 3 [(0, .ref (gz G + (v0)))] := hl
  have h := hf
  clear hf
  unfold pf_X11_change at h
  refine lv_aload_n hx hb dX11_change_0 rfl (lv_at hl 0 rfl) ?_
  refine gf_X11_now X hW h0 m_6_9 dX11_change_1 ?_
  refine lv_iconst (v := 1) hx hb dX11_change_4 (by decide) ?_
  refine lv_iadd hx hb dX11_change_5 ?_
  refine lv_bipush (v := 9) hx hb dX11_change_6 (by decide) ?_
  refine w_irem hx hb dX11_change_8 (by decide) ?_
  refine nm_i h ?_
  clear h; intro v1_1 h
  refine lv_istore_n (lv' := [(1, .int (v1_1)), (0, .ref (gz G + (v0)))]) hx hb dX11_change_9 rfl hl (by decide) rfl ?_
  clear hl; intro ls hl
  refine lv_iconst (v := 0) hx hb dX11_change_10 (by decide) ?_
  refine lv_istore_n (lv' := [(2, .int (0)), (1, .int (v1_1)), (0, .ref (gz G + (v0)))]) hx hb dX11_change_11 rfl hl (by decide) rfl ?_
  clear hl; intro ls hl
  exact bl_X11_change_L12 X hret (bl_X11_change_b42 X hret) FU v0 h0 v1_1 0 σ h _ _ _ hW (lv_sub hl [2, 1, 0] rfl)
set_option maxRecDepth 20000 in
set_option maxHeartbeats 4000000 in
theorem bl_X11_right_b16 (X : Cx G p R s m args c cells slots cX11_right 3 RX11 2) {r : Int32} {σ' : St} (hret : R_Z G p l e R s m args below meth c cells slots Q cX11_right r σ') :
    ∀ (v0 : Nat) (h0 : kd v0 = 10) (σ : St) (_ : pf_X11_right_b16 v0 σ = some (r, σ')) (H : Heap) (locs : List Loc) (ls : Array Slot) (_ : GW G σ s H locs) (_ : lv_has ls 3 [(0, .ref (gz G + (v0)))]), W p l e R s m args below meth c H locs cells slots Q (F0 m 16 ls []) := by
  have hx := X.1.1
  have hb := X.1.2.1
  intro v0 h0 σ h H locs ls hW hl
  unfold pf_X11_right_b16 at h
  refine lv_aload_n hx hb dX11_right_16 rfl (lv_at hl 0 rfl) ?_
  refine gf_X11_thrown X hW h0 m_6_6 dX11_right_17 ?_
  refine lv_if_ne (tgt := 27) hx hb dX11_right_20 (by decide) (fun hc => ?_) (fun hc => ?_)
  · replace h := if_f hc h
    refine lv_iconst (v := 0) hx hb dX11_right_27 (by decide) ?_
    exact rz_end hret h (by decide) dX11_right_28 hW
  · replace h := if_t hc h
    refine lv_iconst (v := 1) hx hb dX11_right_23 (by decide) ?_
    refine lv_goto (tgt := 28) hx hb dX11_right_24 (by decide) ?_
    exact rz_end hret h (by decide) dX11_right_28 hW
set_option maxRecDepth 20000 in
set_option maxHeartbeats 4000000 in
theorem c_X11_right {G : Gt} {l : Launch} {v0 : Nat} (h0 : kd v0 = 10) {v1 : Int32} {v2 : Int32} {σ : St} {r : Int32} {σ' : St} (hf : pf_X11_right v0 v1 v2 σ = some (r, σ')) : Ct G l yX11_right cX11_right 3 (some .boolean) 2 [.ref (gz G + (v0)), .int (v1), .int (v2)] σ (some (.int r)) σ' := by
  refine met_z (by decide +kernel) (Nat.le_of_ble_eq_true rfl) rfl ?_
  intro p e s m args below meth c Q ls X hW hret hl
  have hx := X.1.1
  have hb := X.1.2.1
  have hl : lv_has ls 3 [(0, .ref (gz G + (v0))), (1, .int (v1)), (2, .int (v2))] := hl
  have h := hf
  clear hf
  unfold pf_X11_right at h
  refine lv_aload_n hx hb dX11_right_0 rfl (lv_at hl 0 rfl) ?_
  refine gf_X11_thrown X hW h0 m_6_6 dX11_right_1 ?_
  refine lv_if_ne (tgt := 16) hx hb dX11_right_4 (by decide) (fun hc => ?_) (fun hc => ?_)
  · replace h := if_f hc h
    exact bl_X11_right_b16 X hret v0 h0 σ h _ _ _ hW (lv_sub hl [0] rfl)
  · replace h := if_t hc h
    refine lv_iload_n hx hb dX11_right_7 rfl (lv_at hl 1 rfl) ?_
    refine lv_if_ne (tgt := 16) hx hb dX11_right_8 (by decide) (fun hc => ?_) (fun hc => ?_)
    · replace h := if_f hc h
      exact bl_X11_right_b16 X hret v0 h0 σ h _ _ _ hW (lv_sub hl [0] rfl)
    · replace h := if_t hc h
      refine lv_aload_n hx hb dX11_right_11 rfl (lv_at hl 0 rfl) ?_
      refine lv_iload_n hx hb dX11_right_12 rfl (lv_at hl 2 rfl) ?_
      refine sf_X11_thrown X hW h0 m_6_6 dX11_right_13 ?_
      clear hW; intro H locs hW
      refine nm_s hW h ?_
      clear hW h; intro σ_1 hW h
      exact bl_X11_right_b16 X hret v0 h0 σ_1 h _ _ _ hW (lv_sub hl [0] rfl)
set_option maxRecDepth 20000 in
set_option maxHeartbeats 4000000 in
theorem c_X11_ofQuest {G : Gt} {l : Launch} {v0 : Nat} (h0 : kd v0 = 10) {v1 : Int32} {v2 : Int32} {σ : St} {r : Int32} (hf : pf_X11_ofQuest v0 v1 v2 σ = some r) : Ct G l yX11_ofQuest cX11_ofQuest 3 (some .int) 3 [.ref (gz G + (v0)), .int (v1), .int (v2)] σ (some (.int r)) σ := by
  refine met_i (by decide +kernel) (Nat.le_of_ble_eq_true rfl) rfl ?_
  intro p e s m args below meth c Q ls X hW hret hl
  have hx := X.1.1
  have hb := X.1.2.1
  have hl : lv_has ls 3 [(0, .ref (gz G + (v0))), (1, .int (v1)), (2, .int (v2))] := hl
  have h := hf
  clear hf
  unfold pf_X11_ofQuest at h
  refine lv_aload_n hx hb dX11_ofQuest_0 rfl (lv_at hl 0 rfl) ?_
  refine lv_bipush (v := 53) hx hb dX11_ofQuest_1 (by decide) ?_
  refine lv_sipush (v := 186) hx hb dX11_ofQuest_3 (by decide) ?_
  refine lv_iload_n hx hb dX11_ofQuest_6 rfl (lv_at hl 1 rfl) ?_
  refine lv_imul hx hb dX11_ofQuest_7 ?_
  refine lv_iadd hx hb dX11_ofQuest_8 ?_
  refine lv_iload_n hx hb dX11_ofQuest_9 rfl (lv_at hl 2 rfl) ?_
  refine lv_iadd hx hb dX11_ofQuest_10 ?_
  obtain ⟨r_1, hcl, h⟩ := bind_el h
  refine call_V1 X hW (kC_X11 h0) m_7_17 m_7_19 m_0_68 mv_X11_get (c_X11_get h0 hcl) (by decide) rfl rfl (Nat.le_of_ble_eq_true rfl) hl.1 dX11_ofQuest_11 ?_
  clear hW hcl; intro H locs hW
  exact ri_end0 hret h dX11_ofQuest_14 hW
set_option maxRecDepth 20000 in
set_option maxHeartbeats 4000000 in
theorem c_X11_putQuest {G : Gt} {l : Launch} {v0 : Nat} (h0 : kd v0 = 10) {v1 : Int32} {v2 : Int32} {v3 : Int32} {σ : St} {σ' : St} (hf : pf_X11_putQuest v0 v1 v2 v3 σ = some σ') : Ct G l yX11_putQuest cX11_putQuest 4 none 3 [.ref (gz G + (v0)), .int (v1), .int (v2), .int (v3)] σ none σ' := by
  refine met_v (by decide +kernel) (Nat.le_of_ble_eq_true rfl) rfl ?_
  intro p e s m args below meth c Q ls X hW hret hl
  have hx := X.1.1
  have hb := X.1.2.1
  have hl : lv_has ls 4 [(0, .ref (gz G + (v0))), (1, .int (v1)), (2, .int (v2)), (3, .int (v3))] := hl
  have h := hf
  clear hf
  unfold pf_X11_putQuest at h
  refine lv_aload_n hx hb dX11_putQuest_0 rfl (lv_at hl 0 rfl) ?_
  refine lv_bipush (v := 53) hx hb dX11_putQuest_1 (by decide) ?_
  refine lv_sipush (v := 186) hx hb dX11_putQuest_3 (by decide) ?_
  refine lv_iload_n hx hb dX11_putQuest_6 rfl (lv_at hl 1 rfl) ?_
  refine lv_imul hx hb dX11_putQuest_7 ?_
  refine lv_iadd hx hb dX11_putQuest_8 ?_
  refine lv_iload_n hx hb dX11_putQuest_9 rfl (lv_at hl 2 rfl) ?_
  refine lv_iadd hx hb dX11_putQuest_10 ?_
  refine lv_iload_n hx hb dX11_putQuest_11 rfl (lv_at hl 3 rfl) ?_
  obtain ⟨σ_1, hcl, h⟩ := bind_el h
  refine call_V0 X hW (kC_X11 h0) m_7_21 m_7_23 m_0_69 mv_X11_put (c_X11_put h0 hcl) (by decide) rfl rfl (Nat.le_of_ble_eq_true rfl) hl.1 dX11_putQuest_12 ?_
  clear hW hcl; intro H locs hW
  exact rv_end hret h dX11_putQuest_15 hW
set_option maxRecDepth 20000 in
set_option maxHeartbeats 4000000 in
theorem c_X11_placeOf {G : Gt} {l : Launch} {v0 : Int32} {v1 : Int32} {σ : St} {r : Int32} (hf : pf_X11_placeOf v0 v1 σ = some r) : Ct G l yX11_placeOf cX11_placeOf 2 (some .int) 2 [.int (v0), .int (v1)] σ (some (.int r)) σ := by
  refine met_i (by decide +kernel) (Nat.le_of_ble_eq_true rfl) rfl ?_
  intro p e s m args below meth c Q ls X hW hret hl
  have hx := X.1.1
  have hb := X.1.2.1
  have hl : lv_has ls 2 [(0, .int (v0)), (1, .int (v1))] := hl
  have h := hf
  clear hf
  unfold pf_X11_placeOf at h
  refine lv_bipush (v := 53) hx hb dX11_placeOf_0 (by decide) ?_
  refine lv_sipush (v := 186) hx hb dX11_placeOf_2 (by decide) ?_
  refine lv_iload_n hx hb dX11_placeOf_5 rfl (lv_at hl 0 rfl) ?_
  refine lv_imul hx hb dX11_placeOf_6 ?_
  refine lv_iadd hx hb dX11_placeOf_7 ?_
  refine lv_bipush (v := 6) hx hb dX11_placeOf_8 (by decide) ?_
  refine lv_iadd hx hb dX11_placeOf_10 ?_
  refine lv_bipush (v := 30) hx hb dX11_placeOf_11 (by decide) ?_
  refine lv_iload_n hx hb dX11_placeOf_13 rfl (lv_at hl 1 rfl) ?_
  refine lv_imul hx hb dX11_placeOf_14 ?_
  refine lv_iadd hx hb dX11_placeOf_15 ?_
  exact ri_end0 hret h dX11_placeOf_16 hW
set_option maxRecDepth 20000 in
set_option maxHeartbeats 4000000 in
theorem c_X11_ofStep {G : Gt} {l : Launch} {v0 : Nat} (h0 : kd v0 = 10) {v1 : Int32} {v2 : Int32} {v3 : Int32} {σ : St} {r : Int32} (hf : pf_X11_ofStep v0 v1 v2 v3 σ = some r) : Ct G l yX11_ofStep cX11_ofStep 4 (some .int) 3 [.ref (gz G + (v0)), .int (v1), .int (v2), .int (v3)] σ (some (.int r)) σ := by
  refine met_i (by decide +kernel) (Nat.le_of_ble_eq_true rfl) rfl ?_
  intro p e s m args below meth c Q ls X hW hret hl
  have hx := X.1.1
  have hb := X.1.2.1
  have hl : lv_has ls 4 [(0, .ref (gz G + (v0))), (1, .int (v1)), (2, .int (v2)), (3, .int (v3))] := hl
  have h := hf
  clear hf
  unfold pf_X11_ofStep at h
  refine lv_aload_n hx hb dX11_ofStep_0 rfl (lv_at hl 0 rfl) ?_
  refine lv_iload_n hx hb dX11_ofStep_1 rfl (lv_at hl 1 rfl) ?_
  refine lv_iload_n hx hb dX11_ofStep_2 rfl (lv_at hl 2 rfl) ?_
  obtain ⟨r_1, hcl, h⟩ := bind_el h
  refine call_S1 X hW m_7_54 m_7_55 mv_X11_placeOf (c_X11_placeOf hcl) (by decide) rfl rfl (Nat.le_of_ble_eq_true rfl) hl.1 dX11_ofStep_3 ?_
  clear hW hcl; intro H locs hW
  refine lv_iload_n hx hb dX11_ofStep_6 rfl (lv_at hl 3 rfl) ?_
  refine lv_iadd hx hb dX11_ofStep_7 ?_
  obtain ⟨r_2, hcl, h⟩ := bind_el h
  refine call_V1 X hW (kC_X11 h0) m_7_17 m_7_19 m_0_68 mv_X11_get (c_X11_get h0 hcl) (by decide) rfl rfl (Nat.le_of_ble_eq_true rfl) hl.1 dX11_ofStep_8 ?_
  clear hW hcl; intro H locs hW
  exact ri_end0 hret h dX11_ofStep_11 hW
set_option maxRecDepth 20000 in
set_option maxHeartbeats 4000000 in
theorem c_X11_putStep {G : Gt} {l : Launch} {v0 : Nat} (h0 : kd v0 = 10) {v1 : Int32} {v2 : Int32} {v3 : Int32} {v4 : Int32} {σ : St} {σ' : St} (hf : pf_X11_putStep v0 v1 v2 v3 v4 σ = some σ') : Ct G l yX11_putStep cX11_putStep 5 none 3 [.ref (gz G + (v0)), .int (v1), .int (v2), .int (v3), .int (v4)] σ none σ' := by
  refine met_v (by decide +kernel) (Nat.le_of_ble_eq_true rfl) rfl ?_
  intro p e s m args below meth c Q ls X hW hret hl
  have hx := X.1.1
  have hb := X.1.2.1
  have hl : lv_has ls 5 [(0, .ref (gz G + (v0))), (1, .int (v1)), (2, .int (v2)), (3, .int (v3)), (4, .int (v4))] := hl
  have h := hf
  clear hf
  unfold pf_X11_putStep at h
  refine lv_aload_n hx hb dX11_putStep_0 rfl (lv_at hl 0 rfl) ?_
  refine lv_iload_n hx hb dX11_putStep_1 rfl (lv_at hl 1 rfl) ?_
  refine lv_iload_n hx hb dX11_putStep_2 rfl (lv_at hl 2 rfl) ?_
  obtain ⟨r_1, hcl, h⟩ := bind_el h
  refine call_S1 X hW m_7_54 m_7_55 mv_X11_placeOf (c_X11_placeOf hcl) (by decide) rfl rfl (Nat.le_of_ble_eq_true rfl) hl.1 dX11_putStep_3 ?_
  clear hW hcl; intro H locs hW
  refine lv_iload_n hx hb dX11_putStep_6 rfl (lv_at hl 3 rfl) ?_
  refine lv_iadd hx hb dX11_putStep_7 ?_
  refine lv_iload hx hb dX11_putStep_8 (lv_at hl 4 rfl) ?_
  obtain ⟨σ_2, hcl, h⟩ := bind_el h
  refine call_V0 X hW (kC_X11 h0) m_7_21 m_7_23 m_0_69 mv_X11_put (c_X11_put h0 hcl) (by decide) rfl rfl (Nat.le_of_ble_eq_true rfl) hl.1 dX11_putStep_10 ?_
  clear hW hcl; intro H locs hW
  exact rv_end hret h dX11_putStep_13 hW
set_option maxRecDepth 20000 in
set_option maxHeartbeats 4000000 in
theorem c_X11_stepsOf {G : Gt} {l : Launch} {v0 : Nat} (h0 : kd v0 = 10) {v1 : Int32} {σ : St} {r : Int32} (hf : pf_X11_stepsOf v0 v1 σ = some r) : Ct G l yX11_stepsOf cX11_stepsOf 2 (some .int) 4 [.ref (gz G + (v0)), .int (v1)] σ (some (.int r)) σ := by
  refine met_i (by decide +kernel) (Nat.le_of_ble_eq_true rfl) rfl ?_
  intro p e s m args below meth c Q ls X hW hret hl
  have hx := X.1.1
  have hb := X.1.2.1
  have hl : lv_has ls 2 [(0, .ref (gz G + (v0))), (1, .int (v1))] := hl
  have h := hf
  clear hf
  unfold pf_X11_stepsOf at h
  refine lv_aload_n hx hb dX11_stepsOf_0 rfl (lv_at hl 0 rfl) ?_
  refine lv_iload_n hx hb dX11_stepsOf_1 rfl (lv_at hl 1 rfl) ?_
  refine lv_iconst (v := 0) hx hb dX11_stepsOf_2 (by decide) ?_
  obtain ⟨r_1, hcl, h⟩ := bind_el h
  refine call_V1 X hW (kC_X11 h0) m_7_42 m_7_44 m_0_73 mv_X11_ofQuest (c_X11_ofQuest h0 hcl) (by decide) rfl rfl (Nat.le_of_ble_eq_true rfl) hl.1 dX11_stepsOf_3 ?_
  clear hW hcl; intro H locs hW
  exact ri_end0 hret h dX11_stepsOf_6 hW
set_option maxRecDepth 20000 in
set_option maxHeartbeats 4000000 in
theorem c_X11_isBroken {G : Gt} {l : Launch} {v0 : Nat} (h0 : kd v0 = 10) {v1 : Int32} {v2 : Int32} {σ : St} {r : Int32} (hf : pf_X11_isBroken v0 v1 v2 σ = some r) : Ct G l yX11_isBroken cX11_isBroken 3 (some .boolean) 4 [.ref (gz G + (v0)), .int (v1), .int (v2)] σ (some (.int r)) σ := by
  refine met_z (by decide +kernel) (Nat.le_of_ble_eq_true rfl) rfl ?_
  intro p e s m args below meth c Q ls X hW hret hl
  have hx := X.1.1
  have hb := X.1.2.1
  have hl : lv_has ls 3 [(0, .ref (gz G + (v0))), (1, .int (v1)), (2, .int (v2))] := hl
  have h := hf
  clear hf
  unfold pf_X11_isBroken at h
  refine lv_aload_n hx hb dX11_isBroken_0 rfl (lv_at hl 0 rfl) ?_
  refine lv_iload_n hx hb dX11_isBroken_1 rfl (lv_at hl 1 rfl) ?_
  refine lv_iload_n hx hb dX11_isBroken_2 rfl (lv_at hl 2 rfl) ?_
  refine lv_iconst (v := 2) hx hb dX11_isBroken_3 (by decide) ?_
  obtain ⟨r_1, hcl, h⟩ := bind_el h
  refine call_V1 X hW (kC_X11 h0) m_7_50 m_7_52 m_0_75 mv_X11_ofStep (c_X11_ofStep h0 hcl) (by decide) rfl rfl (Nat.le_of_ble_eq_true rfl) hl.1 dX11_isBroken_4 ?_
  clear hW hcl; intro H locs hW
  refine lv_aload_n hx hb dX11_isBroken_7 rfl (lv_at hl 0 rfl) ?_
  refine lv_iload_n hx hb dX11_isBroken_8 rfl (lv_at hl 1 rfl) ?_
  refine lv_iload_n hx hb dX11_isBroken_9 rfl (lv_at hl 2 rfl) ?_
  refine lv_iconst (v := 1) hx hb dX11_isBroken_10 (by decide) ?_
  obtain ⟨r_2, hcl, h⟩ := bind_el h
  refine call_V1 X hW (kC_X11 h0) m_7_50 m_7_52 m_0_75 mv_X11_ofStep (c_X11_ofStep h0 hcl) (by decide) rfl rfl (Nat.le_of_ble_eq_true rfl) hl.1 dX11_isBroken_11 ?_
  clear hW hcl; intro H locs hW
  refine lv_icmp_ne (tgt := 21) hx hb dX11_isBroken_14 (by decide) (fun hc => ?_) (fun hc => ?_)
  · replace h := if_f hc h
    refine lv_iconst (v := 0) hx hb dX11_isBroken_21 (by decide) ?_
    exact rz_end0 hret h (by decide) dX11_isBroken_22 hW
  · replace h := if_t hc h
    refine lv_iconst (v := 1) hx hb dX11_isBroken_17 (by decide) ?_
    refine lv_goto (tgt := 22) hx hb dX11_isBroken_18 (by decide) ?_
    exact rz_end0 hret h (by decide) dX11_isBroken_22 hW
set_option maxRecDepth 20000 in
set_option maxHeartbeats 4000000 in
theorem bl_X11_doneSet_L4 {σ : St} (X : Cx G p R s m args c cells slots cX11_doneSet 4 RX11 5) {r : Int32} (hret : R_I G p l e R s m args below meth c cells slots Q cX11_doneSet r σ) :
    ∀ (n : Nat), ∀ (v0 : Nat) (h0 : kd v0 = 10) (v1 : Int32) (v2 : Int32) (v3 : Int32) (_ : pf_X11_doneSet_L4 σ n v0 v1 v2 v3 = some r) (H : Heap) (locs : List Loc) (ls : Array Slot) (_ : GW G σ s H locs) (_ : lv_has ls 4 [(0, .ref (gz G + (v0))), (1, .int (v1)), (2, .int (v2)), (3, .int (v3))]), W p l e R s m args below meth c H locs cells slots Q (F0 m 4 ls []) := by
  have hx := X.1.1
  have hb := X.1.2.1
  intro n
  induction n with
  | zero => intro v0 h0 v1 v2 v3 h H locs ls hW hl; cases h
  | succ n ih =>
    intro v0 h0 v1 v2 v3 h H locs ls hW hl
    rw [pf_X11_doneSet_L4.eq_2] at h
    refine lv_iload_n hx hb dX11_doneSet_4 rfl (lv_at hl 3 rfl) ?_
    refine lv_aload_n hx hb dX11_doneSet_5 rfl (lv_at hl 0 rfl) ?_
    refine lv_iload_n hx hb dX11_doneSet_6 rfl (lv_at hl 1 rfl) ?_
    obtain ⟨r_1, hcl, h⟩ := bind_el h
    refine call_V1 X hW (kC_X11 h0) m_7_38 m_7_40 m_0_72 mv_X11_stepsOf (c_X11_stepsOf h0 hcl) (by decide) rfl rfl (Nat.le_of_ble_eq_true rfl) hl.1 dX11_doneSet_7 ?_
    clear hW hcl; intro H locs hW
    refine lv_icmp_ge (tgt := 31) hx hb dX11_doneSet_10 (by decide) (fun hc => ?_) (fun hc => ?_)
    · replace h := if_t hc h
      refine lv_iload_n hx hb dX11_doneSet_31 rfl (lv_at hl 2 rfl) ?_
      exact ri_end0 hret h dX11_doneSet_32 hW
    · replace h := if_f hc h
      refine lv_iload_n hx hb dX11_doneSet_13 rfl (lv_at hl 2 rfl) ?_
      refine lv_aload_n hx hb dX11_doneSet_14 rfl (lv_at hl 0 rfl) ?_
      refine lv_iload_n hx hb dX11_doneSet_15 rfl (lv_at hl 1 rfl) ?_
      refine lv_iload_n hx hb dX11_doneSet_16 rfl (lv_at hl 3 rfl) ?_
      refine lv_iconst (v := 3) hx hb dX11_doneSet_17 (by decide) ?_
      obtain ⟨r_2, hcl, h⟩ := bind_el h
      refine call_V1 X hW (kC_X11 h0) m_7_50 m_7_52 m_0_75 mv_X11_ofStep (c_X11_ofStep h0 hcl) (by decide) rfl rfl (Nat.le_of_ble_eq_true rfl) hl.1 dX11_doneSet_18 ?_
      clear hW hcl; intro H locs hW
      refine lv_iload_n hx hb dX11_doneSet_21 rfl (lv_at hl 3 rfl) ?_
      refine w_ishl hx hb dX11_doneSet_22 ?_
      refine lv_ior hx hb dX11_doneSet_23 ?_
      refine nm_i h ?_
      clear h; intro v2_3 h
      refine lv_istore_n (lv' := [(2, .int (v2_3)), (0, .ref (gz G + (v0))), (1, .int (v1)), (3, .int (v3))]) hx hb dX11_doneSet_24 rfl hl (by decide) rfl ?_
      clear hl; intro ls hl
      refine w_iinc (v := 1) (lv' := fun y => [(3, .int (y)), (2, .int (v2_3)), (0, .ref (gz G + (v0))), (1, .int (v1))]) hx hb dX11_doneSet_25 hl (k := 3) rfl (by decide) (by decide) (fun _ => rfl) h ?_
      clear h hl; intro v3_4 h ls hl
      refine lv_goto (tgt := 4) hx hb dX11_doneSet_28 (by decide) ?_
      exact ih v0 h0 v1 v2_3 v3_4 h _ _ _ hW (lv_sub hl [2, 3, 1, 0] rfl)
set_option maxRecDepth 20000 in
set_option maxHeartbeats 4000000 in
theorem c_X11_doneSet {G : Gt} {l : Launch} {v0 : Nat} (h0 : kd v0 = 10) {v1 : Int32} {σ : St} {r : Int32} (hf : pf_X11_doneSet v0 v1 σ = some r) : Ct G l yX11_doneSet cX11_doneSet 4 (some .int) 5 [.ref (gz G + (v0)), .int (v1)] σ (some (.int r)) σ := by
  refine met_i (by decide +kernel) (Nat.le_of_ble_eq_true rfl) rfl ?_
  intro p e s m args below meth c Q ls X hW hret hl
  have hx := X.1.1
  have hb := X.1.2.1
  have hl : lv_has ls 4 [(0, .ref (gz G + (v0))), (1, .int (v1))] := hl
  have h := hf
  clear hf
  unfold pf_X11_doneSet at h
  refine lv_iconst (v := 0) hx hb dX11_doneSet_0 (by decide) ?_
  refine lv_istore_n (lv' := [(2, .int (0)), (0, .ref (gz G + (v0))), (1, .int (v1))]) hx hb dX11_doneSet_1 rfl hl (by decide) rfl ?_
  clear hl; intro ls hl
  refine lv_iconst (v := 0) hx hb dX11_doneSet_2 (by decide) ?_
  refine lv_istore_n (lv' := [(3, .int (0)), (2, .int (0)), (0, .ref (gz G + (v0))), (1, .int (v1))]) hx hb dX11_doneSet_3 rfl hl (by decide) rfl ?_
  clear hl; intro ls hl
  exact bl_X11_doneSet_L4 X hret FU v0 h0 v1 0 0 h _ _ _ hW (lv_sub hl [2, 3, 1, 0] rfl)
set_option maxRecDepth 20000 in
set_option maxHeartbeats 4000000 in
theorem bl_X11_brokenSet_b30 {σ : St} (X : Cx G p R s m args c cells slots cX11_brokenSet 4 RX11 5) {r : Int32} (hret : R_I G p l e R s m args below meth c cells slots Q cX11_brokenSet r σ) {k4 : Nat → Int32 → Int32 → Int32 → (Option (Int32))}
    (hk4 : ∀ (v0 : Nat) (h0 : kd v0 = 10) (v1 : Int32) (v2 : Int32) (v3 : Int32) (_ : k4 v0 v1 v2 v3 = some r) (H : Heap) (locs : List Loc) (ls : Array Slot) (_ : GW G σ s H locs) (_ : lv_has ls 4 [(0, .ref (gz G + (v0))), (1, .int (v1)), (2, .int (v2)), (3, .int (v3))]), W p l e R s m args below meth c H locs cells slots Q (F0 m 4 ls [])) :
    ∀ (v0 : Nat) (h0 : kd v0 = 10) (v1 : Int32) (v3 : Int32) (s0 : Int32) (s1 : Int32) (_ : pf_X11_brokenSet_b30 σ k4 v0 v1 v3 s0 s1 = some r) (H : Heap) (locs : List Loc) (ls : Array Slot) (_ : GW G σ s H locs) (_ : lv_has ls 4 [(0, .ref (gz G + (v0))), (1, .int (v1)), (3, .int (v3))]), W p l e R s m args below meth c H locs cells slots Q (F0 m 30 ls [.int (s1), .int (s0)]) := by
  have hx := X.1.1
  have hb := X.1.2.1
  intro v0 h0 v1 v3 s0 s1 h H locs ls hW hl
  unfold pf_X11_brokenSet_b30 at h
  refine lv_ior hx hb dX11_brokenSet_30 ?_
  refine nm_i h ?_
  clear h; intro v2_1 h
  refine lv_istore_n (lv' := [(2, .int (v2_1)), (0, .ref (gz G + (v0))), (1, .int (v1)), (3, .int (v3))]) hx hb dX11_brokenSet_31 rfl hl (by decide) rfl ?_
  clear hl; intro ls hl
  refine w_iinc (v := 1) (lv' := fun y => [(3, .int (y)), (2, .int (v2_1)), (0, .ref (gz G + (v0))), (1, .int (v1))]) hx hb dX11_brokenSet_32 hl (k := 3) rfl (by decide) (by decide) (fun _ => rfl) h ?_
  clear h hl; intro v3_2 h ls hl
  refine lv_goto (tgt := 4) hx hb dX11_brokenSet_35 (by decide) ?_
  exact hk4 v0 h0 v1 v2_1 v3_2 h _ _ _ hW (lv_sub hl [2, 3, 1, 0] rfl)
set_option maxRecDepth 20000 in
set_option maxHeartbeats 4000000 in
theorem bl_X11_brokenSet_L4 {σ : St} (X : Cx G p R s m args c cells slots cX11_brokenSet 4 RX11 5) {r : Int32} (hret : R_I G p l e R s m args below meth c cells slots Q cX11_brokenSet r σ) :
    ∀ (n : Nat), ∀ (v0 : Nat) (h0 : kd v0 = 10) (v1 : Int32) (v2 : Int32) (v3 : Int32) (_ : pf_X11_brokenSet_L4 σ n v0 v1 v2 v3 = some r) (H : Heap) (locs : List Loc) (ls : Array Slot) (_ : GW G σ s H locs) (_ : lv_has ls 4 [(0, .ref (gz G + (v0))), (1, .int (v1)), (2, .int (v2)), (3, .int (v3))]), W p l e R s m args below meth c H locs cells slots Q (F0 m 4 ls []) := by
  have hx := X.1.1
  have hb := X.1.2.1
  intro n
  induction n with
  | zero => intro v0 h0 v1 v2 v3 h H locs ls hW hl; cases h
  | succ n ih =>
    intro v0 h0 v1 v2 v3 h H locs ls hW hl
    rw [pf_X11_brokenSet_L4.eq_2] at h
    refine lv_iload_n hx hb dX11_brokenSet_4 rfl (lv_at hl 3 rfl) ?_
    refine lv_aload_n hx hb dX11_brokenSet_5 rfl (lv_at hl 0 rfl) ?_
    refine lv_iload_n hx hb dX11_brokenSet_6 rfl (lv_at hl 1 rfl) ?_
    obtain ⟨r_1, hcl, h⟩ := bind_el h
    refine call_V1 X hW (kC_X11 h0) m_7_38 m_7_40 m_0_72 mv_X11_stepsOf (c_X11_stepsOf h0 hcl) (by decide) rfl rfl (Nat.le_of_ble_eq_true rfl) hl.1 dX11_brokenSet_7 ?_
    clear hW hcl; intro H locs hW
    refine lv_icmp_ge (tgt := 38) hx hb dX11_brokenSet_10 (by decide) (fun hc => ?_) (fun hc => ?_)
    · replace h := if_t hc h
      refine lv_iload_n hx hb dX11_brokenSet_38 rfl (lv_at hl 2 rfl) ?_
      exact ri_end0 hret h dX11_brokenSet_39 hW
    · replace h := if_f hc h
      refine lv_iload_n hx hb dX11_brokenSet_13 rfl (lv_at hl 2 rfl) ?_
      refine lv_aload_n hx hb dX11_brokenSet_14 rfl (lv_at hl 0 rfl) ?_
      refine lv_iload_n hx hb dX11_brokenSet_15 rfl (lv_at hl 1 rfl) ?_
      refine lv_iload_n hx hb dX11_brokenSet_16 rfl (lv_at hl 3 rfl) ?_
      obtain ⟨r_2, hcl, h⟩ := bind_el h
      refine call_V1 X hW (kC_X11 h0) m_7_83 m_7_85 m_0_82 mv_X11_isBroken (c_X11_isBroken h0 hcl) (by decide) rfl rfl (Nat.le_of_ble_eq_true rfl) hl.1 dX11_brokenSet_17 ?_
      clear hW hcl; intro H locs hW
      refine lv_if_eq (tgt := 29) hx hb dX11_brokenSet_20 (by decide) (fun hc => ?_) (fun hc => ?_)
      · replace h := if_t hc h
        refine lv_iconst (v := 0) hx hb dX11_brokenSet_29 (by decide) ?_
        exact bl_X11_brokenSet_b30 X hret ih v0 h0 v1 v3 v2 0 h _ _ _ hW (lv_sub hl [0, 1, 3] rfl)
      · replace h := if_f hc h
        refine lv_iconst (v := 1) hx hb dX11_brokenSet_23 (by decide) ?_
        refine lv_iload_n hx hb dX11_brokenSet_24 rfl (lv_at hl 3 rfl) ?_
        refine w_ishl hx hb dX11_brokenSet_25 ?_
        refine lv_goto (tgt := 30) hx hb dX11_brokenSet_26 (by decide) ?_
        exact bl_X11_brokenSet_b30 X hret ih v0 h0 v1 v3 v2 (ishl 1 v3) h _ _ _ hW (lv_sub hl [0, 1, 3] rfl)
set_option maxRecDepth 20000 in
set_option maxHeartbeats 4000000 in
theorem c_X11_brokenSet {G : Gt} {l : Launch} {v0 : Nat} (h0 : kd v0 = 10) {v1 : Int32} {σ : St} {r : Int32} (hf : pf_X11_brokenSet v0 v1 σ = some r) : Ct G l yX11_brokenSet cX11_brokenSet 4 (some .int) 5 [.ref (gz G + (v0)), .int (v1)] σ (some (.int r)) σ := by
  refine met_i (by decide +kernel) (Nat.le_of_ble_eq_true rfl) rfl ?_
  intro p e s m args below meth c Q ls X hW hret hl
  have hx := X.1.1
  have hb := X.1.2.1
  have hl : lv_has ls 4 [(0, .ref (gz G + (v0))), (1, .int (v1))] := hl
  have h := hf
  clear hf
  unfold pf_X11_brokenSet at h
  refine lv_iconst (v := 0) hx hb dX11_brokenSet_0 (by decide) ?_
  refine lv_istore_n (lv' := [(2, .int (0)), (0, .ref (gz G + (v0))), (1, .int (v1))]) hx hb dX11_brokenSet_1 rfl hl (by decide) rfl ?_
  clear hl; intro ls hl
  refine lv_iconst (v := 0) hx hb dX11_brokenSet_2 (by decide) ?_
  refine lv_istore_n (lv' := [(3, .int (0)), (2, .int (0)), (0, .ref (gz G + (v0))), (1, .int (v1))]) hx hb dX11_brokenSet_3 rfl hl (by decide) rfl ?_
  clear hl; intro ls hl
  exact bl_X11_brokenSet_L4 X hret FU v0 h0 v1 0 0 h _ _ _ hW (lv_sub hl [2, 3, 1, 0] rfl)
set_option maxRecDepth 20000 in
set_option maxHeartbeats 4000000 in
theorem bl_X11_failsOf_L4 {σ : St} (X : Cx G p R s m args c cells slots cX11_failsOf 4 RX11 5) {r : Int32} (hret : R_I G p l e R s m args below meth c cells slots Q cX11_failsOf r σ) :
    ∀ (n : Nat), ∀ (v0 : Nat) (h0 : kd v0 = 10) (v1 : Int32) (v2 : Int32) (v3 : Int32) (_ : pf_X11_failsOf_L4 σ n v0 v1 v2 v3 = some r) (H : Heap) (locs : List Loc) (ls : Array Slot) (_ : GW G σ s H locs) (_ : lv_has ls 4 [(0, .ref (gz G + (v0))), (1, .int (v1)), (2, .int (v2)), (3, .int (v3))]), W p l e R s m args below meth c H locs cells slots Q (F0 m 4 ls []) := by
  have hx := X.1.1
  have hb := X.1.2.1
  intro n
  induction n with
  | zero => intro v0 h0 v1 v2 v3 h H locs ls hW hl; cases h
  | succ n ih =>
    intro v0 h0 v1 v2 v3 h H locs ls hW hl
    rw [pf_X11_failsOf_L4.eq_2] at h
    refine lv_iload_n hx hb dX11_failsOf_4 rfl (lv_at hl 3 rfl) ?_
    refine lv_aload_n hx hb dX11_failsOf_5 rfl (lv_at hl 0 rfl) ?_
    refine lv_iload_n hx hb dX11_failsOf_6 rfl (lv_at hl 1 rfl) ?_
    obtain ⟨r_1, hcl, h⟩ := bind_el h
    refine call_V1 X hW (kC_X11 h0) m_7_38 m_7_40 m_0_72 mv_X11_stepsOf (c_X11_stepsOf h0 hcl) (by decide) rfl rfl (Nat.le_of_ble_eq_true rfl) hl.1 dX11_failsOf_7 ?_
    clear hW hcl; intro H locs hW
    refine lv_icmp_ge (tgt := 29) hx hb dX11_failsOf_10 (by decide) (fun hc => ?_) (fun hc => ?_)
    · replace h := if_t hc h
      refine lv_iload_n hx hb dX11_failsOf_29 rfl (lv_at hl 2 rfl) ?_
      exact ri_end0 hret h dX11_failsOf_30 hW
    · replace h := if_f hc h
      refine lv_iload_n hx hb dX11_failsOf_13 rfl (lv_at hl 2 rfl) ?_
      refine lv_aload_n hx hb dX11_failsOf_14 rfl (lv_at hl 0 rfl) ?_
      refine lv_iload_n hx hb dX11_failsOf_15 rfl (lv_at hl 1 rfl) ?_
      refine lv_iload_n hx hb dX11_failsOf_16 rfl (lv_at hl 3 rfl) ?_
      refine lv_iconst (v := 2) hx hb dX11_failsOf_17 (by decide) ?_
      obtain ⟨r_2, hcl, h⟩ := bind_el h
      refine call_V1 X hW (kC_X11 h0) m_7_50 m_7_52 m_0_75 mv_X11_ofStep (c_X11_ofStep h0 hcl) (by decide) rfl rfl (Nat.le_of_ble_eq_true rfl) hl.1 dX11_failsOf_18 ?_
      clear hW hcl; intro H locs hW
      refine lv_iadd hx hb dX11_failsOf_21 ?_
      refine nm_i h ?_
      clear h; intro v2_3 h
      refine lv_istore_n (lv' := [(2, .int (v2_3)), (0, .ref (gz G + (v0))), (1, .int (v1)), (3, .int (v3))]) hx hb dX11_failsOf_22 rfl hl (by decide) rfl ?_
      clear hl; intro ls hl
      refine w_iinc (v := 1) (lv' := fun y => [(3, .int (y)), (2, .int (v2_3)), (0, .ref (gz G + (v0))), (1, .int (v1))]) hx hb dX11_failsOf_23 hl (k := 3) rfl (by decide) (by decide) (fun _ => rfl) h ?_
      clear h hl; intro v3_4 h ls hl
      refine lv_goto (tgt := 4) hx hb dX11_failsOf_26 (by decide) ?_
      exact ih v0 h0 v1 v2_3 v3_4 h _ _ _ hW (lv_sub hl [2, 3, 1, 0] rfl)
set_option maxRecDepth 20000 in
set_option maxHeartbeats 4000000 in
theorem c_X11_failsOf {G : Gt} {l : Launch} {v0 : Nat} (h0 : kd v0 = 10) {v1 : Int32} {σ : St} {r : Int32} (hf : pf_X11_failsOf v0 v1 σ = some r) : Ct G l yX11_failsOf cX11_failsOf 4 (some .int) 5 [.ref (gz G + (v0)), .int (v1)] σ (some (.int r)) σ := by
  refine met_i (by decide +kernel) (Nat.le_of_ble_eq_true rfl) rfl ?_
  intro p e s m args below meth c Q ls X hW hret hl
  have hx := X.1.1
  have hb := X.1.2.1
  have hl : lv_has ls 4 [(0, .ref (gz G + (v0))), (1, .int (v1))] := hl
  have h := hf
  clear hf
  unfold pf_X11_failsOf at h
  refine lv_iconst (v := 0) hx hb dX11_failsOf_0 (by decide) ?_
  refine lv_istore_n (lv' := [(2, .int (0)), (0, .ref (gz G + (v0))), (1, .int (v1))]) hx hb dX11_failsOf_1 rfl hl (by decide) rfl ?_
  clear hl; intro ls hl
  refine lv_iconst (v := 0) hx hb dX11_failsOf_2 (by decide) ?_
  refine lv_istore_n (lv' := [(3, .int (0)), (2, .int (0)), (0, .ref (gz G + (v0))), (1, .int (v1))]) hx hb dX11_failsOf_3 rfl hl (by decide) rfl ?_
  clear hl; intro ls hl
  exact bl_X11_failsOf_L4 X hret FU v0 h0 v1 0 0 h _ _ _ hW (lv_sub hl [2, 3, 1, 0] rfl)
set_option maxRecDepth 20000 in
set_option maxHeartbeats 4000000 in
theorem bl_X11_holdsBy_b207 (X : Cx G p R s m args c cells slots cX11_holdsBy 10 RX11 4) {r : Int32} {σ' : St} (hret : R_Z G p l e R s m args below meth c cells slots Q cX11_holdsBy r σ') {k10 : Nat → Int32 → Int32 → Int32 → Int32 → St → (Option (Int32 × St))}
    (hk10 : ∀ (v0 : Nat) (h0 : kd v0 = 10) (v1 : Int32) (v2 : Int32) (v3 : Int32) (v4 : Int32) (σ : St) (_ : k10 v0 v1 v2 v3 v4 σ = some (r, σ')) (H : Heap) (locs : List Loc) (ls : Array Slot) (_ : GW G σ s H locs) (_ : lv_has ls 10 [(0, .ref (gz G + (v0))), (1, .int (v1)), (2, .int (v2)), (3, .int (v3)), (4, .int (v4))]), W p l e R s m args below meth c H locs cells slots Q (F0 m 10 ls [])) :
    ∀ (v0 : Nat) (h0 : kd v0 = 10) (v1 : Int32) (v2 : Int32) (v3 : Int32) (v4 : Int32) (σ : St) (_ : pf_X11_holdsBy_b207 k10 v0 v1 v2 v3 v4 σ = some (r, σ')) (H : Heap) (locs : List Loc) (ls : Array Slot) (_ : GW G σ s H locs) (_ : lv_has ls 10 [(0, .ref (gz G + (v0))), (1, .int (v1)), (2, .int (v2)), (3, .int (v3)), (4, .int (v4))]), W p l e R s m args below meth c H locs cells slots Q (F0 m 207 ls []) := by
  have hx := X.1.1
  have hb := X.1.2.1
  intro v0 h0 v1 v2 v3 v4 σ h H locs ls hW hl
  unfold pf_X11_holdsBy_b207 at h
  refine w_iinc (v := 1) (lv' := fun y => [(4, .int (y)), (0, .ref (gz G + (v0))), (1, .int (v1)), (2, .int (v2)), (3, .int (v3))]) hx hb dX11_holdsBy_207 hl (k := 4) rfl (by decide) (by decide) (fun _ => rfl) h ?_
  clear h hl; intro v4_1 h ls hl
  refine lv_goto (tgt := 10) hx hb dX11_holdsBy_210 (by decide) ?_
  exact hk10 v0 h0 v1 v2 v3 v4_1 σ h _ _ _ hW (lv_sub hl [1, 2, 3, 4, 0] rfl)
set_option maxRecDepth 20000 in
set_option maxHeartbeats 4000000 in
theorem bl_X11_holdsBy_b153 (X : Cx G p R s m args c cells slots cX11_holdsBy 10 RX11 4) {r : Int32} {σ' : St} (hret : R_Z G p l e R s m args below meth c cells slots Q cX11_holdsBy r σ') {k10 : Nat → Int32 → Int32 → Int32 → Int32 → St → (Option (Int32 × St))}
    (hk10 : ∀ (v0 : Nat) (h0 : kd v0 = 10) (v1 : Int32) (v2 : Int32) (v3 : Int32) (v4 : Int32) (σ : St) (_ : k10 v0 v1 v2 v3 v4 σ = some (r, σ')) (H : Heap) (locs : List Loc) (ls : Array Slot) (_ : GW G σ s H locs) (_ : lv_has ls 10 [(0, .ref (gz G + (v0))), (1, .int (v1)), (2, .int (v2)), (3, .int (v3)), (4, .int (v4))]), W p l e R s m args below meth c H locs cells slots Q (F0 m 10 ls [])) :
    ∀ (v0 : Nat) (h0 : kd v0 = 10) (v1 : Int32) (v2 : Int32) (v3 : Int32) (v4 : Int32) (s0 : Nat) (hs0 : kd s0 = 11) (s1 : Int32) (s2 : Int32) (σ : St) (_ : pf_X11_holdsBy_b153 k10 v0 v1 v2 v3 v4 s0 s1 s2 σ = some (r, σ')) (H : Heap) (locs : List Loc) (ls : Array Slot) (_ : GW G σ s H locs) (_ : lv_has ls 10 [(0, .ref (gz G + (v0))), (1, .int (v1)), (2, .int (v2)), (3, .int (v3)), (4, .int (v4))]), W p l e R s m args below meth c H locs cells slots Q (F0 m 153 ls [.int (s2), .int (s1), .ref (gz G + (s0))]) := by
  have hx := X.1.1
  have hb := X.1.2.1
  intro v0 h0 v1 v2 v3 v4 s0 hs0 s1 s2 σ h H locs ls hW hl
  unfold pf_X11_holdsBy_b153 at h
  obtain ⟨hi1, h⟩ := ckI_el h
  refine r_iast X hW hs0 hi1 dX11_holdsBy_153 ?_
  clear hW; intro H locs hW
  refine nm_s hW h ?_
  clear hW h; intro σ_2 hW h
  refine lv_goto (tgt := 207) hx hb dX11_holdsBy_154 (by decide) ?_
  exact bl_X11_holdsBy_b207 X hret hk10 v0 h0 v1 v2 v3 v4 σ_2 h _ _ _ hW (lv_sub hl [0, 1, 2, 3, 4] rfl)
set_option maxRecDepth 20000 in
set_option maxHeartbeats 4000000 in
theorem bl_X11_holdsBy_b123 (X : Cx G p R s m args c cells slots cX11_holdsBy 10 RX11 4) {r : Int32} {σ' : St} (hret : R_Z G p l e R s m args below meth c cells slots Q cX11_holdsBy r σ') {k10 : Nat → Int32 → Int32 → Int32 → Int32 → St → (Option (Int32 × St))}
    (hk10 : ∀ (v0 : Nat) (h0 : kd v0 = 10) (v1 : Int32) (v2 : Int32) (v3 : Int32) (v4 : Int32) (σ : St) (_ : k10 v0 v1 v2 v3 v4 σ = some (r, σ')) (H : Heap) (locs : List Loc) (ls : Array Slot) (_ : GW G σ s H locs) (_ : lv_has ls 10 [(0, .ref (gz G + (v0))), (1, .int (v1)), (2, .int (v2)), (3, .int (v3)), (4, .int (v4))]), W p l e R s m args below meth c H locs cells slots Q (F0 m 10 ls [])) :
    ∀ (v0 : Nat) (h0 : kd v0 = 10) (v1 : Int32) (v2 : Int32) (v3 : Int32) (v4 : Int32) (v6 : Int32) (v7 : Int32) (v8 : Int32) (σ : St) (_ : pf_X11_holdsBy_b123 k10 v0 v1 v2 v3 v4 v6 v7 v8 σ = some (r, σ')) (H : Heap) (locs : List Loc) (ls : Array Slot) (_ : GW G σ s H locs) (_ : lv_has ls 10 [(0, .ref (gz G + (v0))), (1, .int (v1)), (2, .int (v2)), (3, .int (v3)), (4, .int (v4)), (6, .int (v6)), (7, .int (v7)), (8, .int (v8))]), W p l e R s m args below meth c H locs cells slots Q (F0 m 123 ls []) := by
  have hx := X.1.1
  have hb := X.1.2.1
  intro v0 h0 v1 v2 v3 v4 v6 v7 v8 σ h H locs ls hW hl
  unfold pf_X11_holdsBy_b123 at h
  refine lv_iload_n hx hb dX11_holdsBy_123 rfl (lv_at hl 3 rfl) ?_
  refine lv_iload hx hb dX11_holdsBy_124 (lv_at hl 6 rfl) ?_
  refine lv_iconst (v := 1) hx hb dX11_holdsBy_126 (by decide) ?_
  refine lv_isub hx hb dX11_holdsBy_127 ?_
  refine lv_isub hx hb dX11_holdsBy_128 ?_
  refine nm_i h ?_
  clear h; intro v3_1 h
  refine lv_istore_n (lv' := [(3, .int (v3_1)), (0, .ref (gz G + (v0))), (1, .int (v1)), (2, .int (v2)), (4, .int (v4)), (6, .int (v6)), (7, .int (v7)), (8, .int (v8))]) hx hb dX11_holdsBy_129 rfl hl (by decide) rfl ?_
  clear hl; intro ls hl
  refine lv_aload_n hx hb dX11_holdsBy_130 rfl (lv_at hl 1 rfl) ?_
  refine gf_X11_held X hW h0 m_6_11 dX11_holdsBy_131 ?_
  refine lv_iload_n hx hb dX11_holdsBy_134 rfl (lv_at hl 0 rfl) ?_
  refine lv_iconst (v := 1) hx hb dX11_holdsBy_135 (by decide) ?_
  refine lv_isub hx hb dX11_holdsBy_136 ?_
  refine lv_iload hx hb dX11_holdsBy_137 (lv_at hl 7 rfl) ?_
  refine lv_iload hx hb dX11_holdsBy_139 (lv_at hl 5 rfl) ?_
  refine lv_sipush (v := 1000) hx hb dX11_holdsBy_141 (by decide) ?_
  refine lv_idiv hx hb dX11_holdsBy_144 (by decide) ?_
  refine lv_icmp_lt (tgt := 152) hx hb dX11_holdsBy_145 (by decide) (fun hc => ?_) (fun hc => ?_)
  · replace h := if_t hc h
    refine lv_iconst (v := 0) hx hb dX11_holdsBy_152 (by decide) ?_
    exact bl_X11_holdsBy_b153 X hret hk10 v0 h0 v1 v2 v3_1 v4 (v0 + 3) (kf_X11_held h0) (v3_1 - 1) 0 σ h _ _ _ hW (lv_sub hl [1, 2, 3, 0, 4] rfl)
  · replace h := if_f hc h
    refine lv_iconst (v := 1) hx hb dX11_holdsBy_148 (by decide) ?_
    refine lv_goto (tgt := 153) hx hb dX11_holdsBy_149 (by decide) ?_
    exact bl_X11_holdsBy_b153 X hret hk10 v0 h0 v1 v2 v3_1 v4 (v0 + 3) (kf_X11_held h0) (v3_1 - 1) 1 σ h _ _ _ hW (lv_sub hl [1, 2, 3, 0, 4] rfl)
set_option maxRecDepth 20000 in
set_option maxHeartbeats 4000000 in
theorem bl_X11_holdsBy_L94 (X : Cx G p R s m args c cells slots cX11_holdsBy 10 RX11 4) {r : Int32} {σ' : St} (hret : R_Z G p l e R s m args below meth c cells slots Q cX11_holdsBy r σ') {k123 : Nat → Int32 → Int32 → Int32 → Int32 → Int32 → Int32 → Int32 → St → (Option (Int32 × St))}
    (hk123 : ∀ (v0 : Nat) (h0 : kd v0 = 10) (v1 : Int32) (v2 : Int32) (v3 : Int32) (v4 : Int32) (v6 : Int32) (v7 : Int32) (v8 : Int32) (σ : St) (_ : k123 v0 v1 v2 v3 v4 v6 v7 v8 σ = some (r, σ')) (H : Heap) (locs : List Loc) (ls : Array Slot) (_ : GW G σ s H locs) (_ : lv_has ls 10 [(0, .ref (gz G + (v0))), (1, .int (v1)), (2, .int (v2)), (3, .int (v3)), (4, .int (v4)), (6, .int (v6)), (7, .int (v7)), (8, .int (v8))]), W p l e R s m args below meth c H locs cells slots Q (F0 m 123 ls [])) :
    ∀ (n : Nat), ∀ (v0 : Nat) (h0 : kd v0 = 10) (v1 : Int32) (v2 : Int32) (v3 : Int32) (v4 : Int32) (v6 : Int32) (v7 : Int32) (v8 : Int32) (v9 : Int32) (σ : St) (_ : pf_X11_holdsBy_L94 k123 n v0 v1 v2 v3 v4 v6 v7 v8 v9 σ = some (r, σ')) (H : Heap) (locs : List Loc) (ls : Array Slot) (_ : GW G σ s H locs) (_ : lv_has ls 10 [(0, .ref (gz G + (v0))), (1, .int (v1)), (2, .int (v2)), (3, .int (v3)), (4, .int (v4)), (6, .int (v6)), (7, .int (v7)), (8, .int (v8)), (9, .int (v9))]), W p l e R s m args below meth c H locs cells slots Q (F0 m 94 ls []) := by
  have hx := X.1.1
  have hb := X.1.2.1
  intro n
  induction n with
  | zero => intro v0 h0 v1 v2 v3 v4 v6 v7 v8 v9 σ h H locs ls hW hl; cases h
  | succ n ih =>
    intro v0 h0 v1 v2 v3 v4 v6 v7 v8 v9 σ h H locs ls hW hl
    rw [pf_X11_holdsBy_L94.eq_2] at h
    refine lv_iload hx hb dX11_holdsBy_94 (lv_at hl 8 rfl) ?_
    refine lv_iload hx hb dX11_holdsBy_96 (lv_at hl 6 rfl) ?_
    refine lv_icmp_ge (tgt := 123) hx hb dX11_holdsBy_98 (by decide) (fun hc => ?_) (fun hc => ?_)
    · replace h := if_t hc h
      exact hk123 v0 h0 v1 v2 v3 v4 v6 v7 v8 σ h _ _ _ hW (lv_sub hl [0, 1, 2, 3, 4, 5, 6, 7] rfl)
    · replace h := if_f hc h
      refine lv_iload hx hb dX11_holdsBy_101 (lv_at hl 7 rfl) ?_
      refine lv_aload_n hx hb dX11_holdsBy_103 rfl (lv_at hl 0 rfl) ?_
      refine gf_X11_held X hW h0 m_6_11 dX11_holdsBy_104 ?_
      refine lv_iload_n hx hb dX11_holdsBy_107 rfl (lv_at hl 3 rfl) ?_
      refine lv_iconst (v := 1) hx hb dX11_holdsBy_108 (by decide) ?_
      refine lv_isub hx hb dX11_holdsBy_109 ?_
      refine lv_iload hx hb dX11_holdsBy_110 (lv_at hl 8 rfl) ?_
      refine lv_isub hx hb dX11_holdsBy_112 ?_
      obtain ⟨hi1, h⟩ := ckI_el h
      refine r_iald X hW (kf_X11_held h0) hi1 dX11_holdsBy_113 ?_
      refine lv_iadd hx hb dX11_holdsBy_114 ?_
      refine nm_i h ?_
      clear h; intro v8_2 h
      refine lv_istore (lv' := [(8, .int (v8_2)), (0, .ref (gz G + (v0))), (1, .int (v1)), (2, .int (v2)), (3, .int (v3)), (4, .int (v4)), (6, .int (v6)), (7, .int (v7)), (9, .int (v9))]) hx hb dX11_holdsBy_115 hl (by decide) rfl ?_
      clear hl; intro ls hl
      refine w_iinc (v := 1) (lv' := fun y => [(9, .int (y)), (8, .int (v8_2)), (0, .ref (gz G + (v0))), (1, .int (v1)), (2, .int (v2)), (3, .int (v3)), (4, .int (v4)), (6, .int (v6)), (7, .int (v7))]) hx hb dX11_holdsBy_117 hl (k := 8) rfl (by decide) (by decide) (fun _ => rfl) h ?_
      clear h hl; intro v9_3 h ls hl
      refine lv_goto (tgt := 94) hx hb dX11_holdsBy_120 (by decide) ?_
      exact ih v0 h0 v1 v2 v3 v4 v6 v7 v8_2 v9_3 σ h _ _ _ hW (lv_sub hl [2, 3, 4, 5, 6, 7, 8, 1, 0] rfl)
set_option maxRecDepth 20000 in
set_option maxHeartbeats 4000000 in
theorem bl_X11_holdsBy_b206 (X : Cx G p R s m args c cells slots cX11_holdsBy 10 RX11 4) {r : Int32} {σ' : St} (hret : R_Z G p l e R s m args below meth c cells slots Q cX11_holdsBy r σ') {k10 : Nat → Int32 → Int32 → Int32 → Int32 → St → (Option (Int32 × St))}
    (hk10 : ∀ (v0 : Nat) (h0 : kd v0 = 10) (v1 : Int32) (v2 : Int32) (v3 : Int32) (v4 : Int32) (σ : St) (_ : k10 v0 v1 v2 v3 v4 σ = some (r, σ')) (H : Heap) (locs : List Loc) (ls : Array Slot) (_ : GW G σ s H locs) (_ : lv_has ls 10 [(0, .ref (gz G + (v0))), (1, .int (v1)), (2, .int (v2)), (3, .int (v3)), (4, .int (v4))]), W p l e R s m args below meth c H locs cells slots Q (F0 m 10 ls [])) :
    ∀ (v0 : Nat) (h0 : kd v0 = 10) (v1 : Int32) (v2 : Int32) (v3 : Int32) (v4 : Int32) (s0 : Nat) (hs0 : kd s0 = 11) (s1 : Int32) (s2 : Int32) (σ : St) (_ : pf_X11_holdsBy_b206 k10 v0 v1 v2 v3 v4 s0 s1 s2 σ = some (r, σ')) (H : Heap) (locs : List Loc) (ls : Array Slot) (_ : GW G σ s H locs) (_ : lv_has ls 10 [(0, .ref (gz G + (v0))), (1, .int (v1)), (2, .int (v2)), (3, .int (v3)), (4, .int (v4))]), W p l e R s m args below meth c H locs cells slots Q (F0 m 206 ls [.int (s2), .int (s1), .ref (gz G + (s0))]) := by
  have hx := X.1.1
  have hb := X.1.2.1
  intro v0 h0 v1 v2 v3 v4 s0 hs0 s1 s2 σ h H locs ls hW hl
  unfold pf_X11_holdsBy_b206 at h
  obtain ⟨hi1, h⟩ := ckI_el h
  refine r_iast X hW hs0 hi1 dX11_holdsBy_206 ?_
  clear hW; intro H locs hW
  refine nm_s hW h ?_
  clear hW h; intro σ_2 hW h
  exact bl_X11_holdsBy_b207 X hret hk10 v0 h0 v1 v2 v3 v4 σ_2 h _ _ _ hW (lv_sub hl [0, 1, 2, 3, 4] rfl)
set_option maxRecDepth 20000 in
set_option maxHeartbeats 4000000 in
theorem bl_X11_holdsBy_b213 (X : Cx G p R s m args c cells slots cX11_holdsBy 10 RX11 4) {r : Int32} {σ' : St} (hret : R_Z G p l e R s m args below meth c cells slots Q cX11_holdsBy r σ') :
    ∀ (v0 : Nat) (h0 : kd v0 = 10) (σ : St) (_ : pf_X11_holdsBy_b213 v0 σ = some (r, σ')) (H : Heap) (locs : List Loc) (ls : Array Slot) (_ : GW G σ s H locs) (_ : lv_has ls 10 [(0, .ref (gz G + (v0)))]), W p l e R s m args below meth c H locs cells slots Q (F0 m 213 ls []) := by
  have hx := X.1.1
  have hb := X.1.2.1
  intro v0 h0 σ h H locs ls hW hl
  unfold pf_X11_holdsBy_b213 at h
  refine lv_aload_n hx hb dX11_holdsBy_213 rfl (lv_at hl 0 rfl) ?_
  refine gf_X11_held X hW h0 m_6_11 dX11_holdsBy_214 ?_
  refine lv_iconst (v := 0) hx hb dX11_holdsBy_217 (by decide) ?_
  obtain ⟨hi1, h⟩ := ckI_el h
  refine r_iald X hW (kf_X11_held h0) hi1 dX11_holdsBy_218 ?_
  refine lv_iconst (v := 1) hx hb dX11_holdsBy_219 (by decide) ?_
  refine lv_icmp_ne (tgt := 227) hx hb dX11_holdsBy_220 (by decide) (fun hc => ?_) (fun hc => ?_)
  · replace h := if_f hc h
    refine lv_iconst (v := 0) hx hb dX11_holdsBy_227 (by decide) ?_
    exact rz_end hret h (by decide) dX11_holdsBy_228 hW
  · replace h := if_t hc h
    refine lv_iconst (v := 1) hx hb dX11_holdsBy_223 (by decide) ?_
    refine lv_goto (tgt := 228) hx hb dX11_holdsBy_224 (by decide) ?_
    exact rz_end hret h (by decide) dX11_holdsBy_228 hW
set_option maxRecDepth 20000 in
set_option maxHeartbeats 4000000 in
theorem bl_X11_holdsBy_L10 (X : Cx G p R s m args c cells slots cX11_holdsBy 10 RX11 4) {r : Int32} {σ' : St} (hret : R_Z G p l e R s m args below meth c cells slots Q cX11_holdsBy r σ') {k213 : Nat → St → (Option (Int32 × St))}
    (hk213 : ∀ (v0 : Nat) (h0 : kd v0 = 10) (σ : St) (_ : k213 v0 σ = some (r, σ')) (H : Heap) (locs : List Loc) (ls : Array Slot) (_ : GW G σ s H locs) (_ : lv_has ls 10 [(0, .ref (gz G + (v0)))]), W p l e R s m args below meth c H locs cells slots Q (F0 m 213 ls [])) :
    ∀ (n : Nat), ∀ (v0 : Nat) (h0 : kd v0 = 10) (v1 : Int32) (v2 : Int32) (v3 : Int32) (v4 : Int32) (σ : St) (_ : pf_X11_holdsBy_L10 k213 n v0 v1 v2 v3 v4 σ = some (r, σ')) (H : Heap) (locs : List Loc) (ls : Array Slot) (_ : GW G σ s H locs) (_ : lv_has ls 10 [(0, .ref (gz G + (v0))), (1, .int (v1)), (2, .int (v2)), (3, .int (v3)), (4, .int (v4))]), W p l e R s m args below meth c H locs cells slots Q (F0 m 10 ls []) := by
  have hx := X.1.1
  have hb := X.1.2.1
  intro n
  induction n with
  | zero => intro v0 h0 v1 v2 v3 v4 σ h H locs ls hW hl; cases h
  | succ n ih =>
    intro v0 h0 v1 v2 v3 v4 σ h H locs ls hW hl
    rw [pf_X11_holdsBy_L10.eq_2] at h
    refine lv_iload hx hb dX11_holdsBy_10 (lv_at hl 4 rfl) ?_
    refine lv_aload_n hx hb dX11_holdsBy_12 rfl (lv_at hl 0 rfl) ?_
    refine lv_iload_n hx hb dX11_holdsBy_13 rfl (lv_at hl 1 rfl) ?_
    refine lv_iconst (v := 5) hx hb dX11_holdsBy_14 (by decide) ?_
    obtain ⟨r_1, hcl, h⟩ := bind_el h
    refine call_V1 X hW (kC_X11 h0) m_7_42 m_7_44 m_0_73 mv_X11_ofQuest (c_X11_ofQuest h0 hcl) (by decide) rfl rfl (Nat.le_of_ble_eq_true rfl) hl.1 dX11_holdsBy_15 ?_
    clear hW hcl; intro H locs hW
    refine lv_icmp_ge (tgt := 213) hx hb dX11_holdsBy_18 (by decide) (fun hc => ?_) (fun hc => ?_)
    · replace h := if_t hc h
      exact hk213 v0 h0 σ h _ _ _ hW (lv_sub hl [0] rfl)
    · replace h := if_f hc h
      refine lv_aload_n hx hb dX11_holdsBy_21 rfl (lv_at hl 0 rfl) ?_
      refine lv_sipush (v := 2769) hx hb dX11_holdsBy_22 (by decide) ?_
      refine lv_iconst (v := 2) hx hb dX11_holdsBy_25 (by decide) ?_
      refine lv_iload hx hb dX11_holdsBy_26 (lv_at hl 4 rfl) ?_
      refine lv_imul hx hb dX11_holdsBy_28 ?_
      refine lv_iadd hx hb dX11_holdsBy_29 ?_
      obtain ⟨r_2, hcl, h⟩ := bind_el h
      refine call_V1 X hW (kC_X11 h0) m_7_17 m_7_19 m_0_68 mv_X11_get (c_X11_get h0 hcl) (by decide) rfl rfl (Nat.le_of_ble_eq_true rfl) hl.1 dX11_holdsBy_30 ?_
      clear hW hcl; intro H locs hW
      refine lv_istore (lv' := [(5, .int (r_2)), (0, .ref (gz G + (v0))), (1, .int (v1)), (2, .int (v2)), (3, .int (v3)), (4, .int (v4))]) hx hb dX11_holdsBy_33 hl (by decide) rfl ?_
      clear hl; intro ls hl
      refine lv_aload_n hx hb dX11_holdsBy_35 rfl (lv_at hl 1 rfl) ?_
      refine lv_sipush (v := 2769) hx hb dX11_holdsBy_36 (by decide) ?_
      refine lv_iconst (v := 2) hx hb dX11_holdsBy_39 (by decide) ?_
      refine lv_iload hx hb dX11_holdsBy_40 (lv_at hl 5 rfl) ?_
      refine lv_imul hx hb dX11_holdsBy_42 ?_
      refine lv_iadd hx hb dX11_holdsBy_43 ?_
      refine lv_iconst (v := 1) hx hb dX11_holdsBy_44 (by decide) ?_
      refine lv_iadd hx hb dX11_holdsBy_45 ?_
      obtain ⟨r_3, hcl, h⟩ := bind_el h
      refine call_V1 X hW (kC_X11 h0) m_7_17 m_7_19 m_0_68 mv_X11_get (c_X11_get h0 hcl) (by decide) rfl rfl (Nat.le_of_ble_eq_true rfl) hl.1 dX11_holdsBy_46 ?_
      clear hW hcl; intro H locs hW
      refine lv_istore (lv' := [(6, .int (r_3)), (5, .int (r_2)), (0, .ref (gz G + (v0))), (1, .int (v1)), (2, .int (v2)), (3, .int (v3)), (4, .int (v4))]) hx hb dX11_holdsBy_49 hl (by decide) rfl ?_
      clear hl; intro ls hl
      refine lv_iload hx hb dX11_holdsBy_51 (lv_at hl 1 rfl) ?_
      refine lv_if_ne (tgt := 74) hx hb dX11_holdsBy_53 (by decide) (fun hc => ?_) (fun hc => ?_)
      · replace h := if_f hc h
        refine lv_iload hx hb dX11_holdsBy_74 (lv_at hl 1 rfl) ?_
        refine lv_iconst (v := 3) hx hb dX11_holdsBy_76 (by decide) ?_
        refine lv_icmp_ne (tgt := 157) hx hb dX11_holdsBy_77 (by decide) (fun hc => ?_) (fun hc => ?_)
        · replace h := if_f hc h
          refine w_iinc (v := (-1)) (lv' := fun y => [(3, .int (y)), (6, .int (r_3)), (5, .int (r_2)), (0, .ref (gz G + (v0))), (1, .int (v1)), (2, .int (v2)), (4, .int (v4))]) hx hb dX11_holdsBy_157 hl (k := 5) rfl (by decide) (by decide) (fun _ => rfl) h ?_
          clear h hl; intro v3_8 h ls hl
          refine lv_aload_n hx hb dX11_holdsBy_160 rfl (lv_at hl 3 rfl) ?_
          refine gf_X11_held X hW h0 m_6_11 dX11_holdsBy_161 ?_
          refine lv_iload_n hx hb dX11_holdsBy_164 rfl (lv_at hl 0 rfl) ?_
          refine lv_iconst (v := 1) hx hb dX11_holdsBy_165 (by decide) ?_
          refine lv_isub hx hb dX11_holdsBy_166 ?_
          refine lv_iload hx hb dX11_holdsBy_167 (lv_at hl 2 rfl) ?_
          refine lv_iconst (v := 1) hx hb dX11_holdsBy_169 (by decide) ?_
          refine lv_icmp_ne (tgt := 191) hx hb dX11_holdsBy_170 (by decide) (fun hc => ?_) (fun hc => ?_)
          · replace h := if_f hc h
            refine lv_aload_n hx hb dX11_holdsBy_191 rfl (lv_at hl 3 rfl) ?_
            refine gf_X11_held X hW h0 m_6_11 dX11_holdsBy_192 ?_
            refine lv_iload_n hx hb dX11_holdsBy_195 rfl (lv_at hl 0 rfl) ?_
            refine lv_iconst (v := 1) hx hb dX11_holdsBy_196 (by decide) ?_
            refine lv_isub hx hb dX11_holdsBy_197 ?_
            obtain ⟨hi11, h⟩ := ckI_el h
            refine r_iald X hW (kf_X11_held h0) hi11 dX11_holdsBy_198 ?_
            refine lv_aload_n hx hb dX11_holdsBy_199 rfl (lv_at hl 3 rfl) ?_
            refine gf_X11_held X hW h0 m_6_11 dX11_holdsBy_200 ?_
            refine lv_iload_n hx hb dX11_holdsBy_203 rfl (lv_at hl 0 rfl) ?_
            obtain ⟨hi12, h⟩ := ckI_el h
            refine r_iald X hW (kf_X11_held h0) hi12 dX11_holdsBy_204 ?_
            refine lv_ior hx hb dX11_holdsBy_205 ?_
            exact bl_X11_holdsBy_b206 X hret ih v0 h0 v1 v2 v3_8 v4 (v0 + 3) (kf_X11_held h0) (v3_8 - 1) ((gI σ (v0 + 3) (v3_8 - 1).toNatClampNeg) ||| (gI σ (v0 + 3) (v3_8).toNatClampNeg)) σ h _ _ _ hW (lv_sub hl [3, 4, 5, 0, 6] rfl)
          · replace h := if_t hc h
            refine lv_aload_n hx hb dX11_holdsBy_173 rfl (lv_at hl 3 rfl) ?_
            refine gf_X11_held X hW h0 m_6_11 dX11_holdsBy_174 ?_
            refine lv_iload_n hx hb dX11_holdsBy_177 rfl (lv_at hl 0 rfl) ?_
            refine lv_iconst (v := 1) hx hb dX11_holdsBy_178 (by decide) ?_
            refine lv_isub hx hb dX11_holdsBy_179 ?_
            obtain ⟨hi9, h⟩ := ckI_el h
            refine r_iald X hW (kf_X11_held h0) hi9 dX11_holdsBy_180 ?_
            refine lv_aload_n hx hb dX11_holdsBy_181 rfl (lv_at hl 3 rfl) ?_
            refine gf_X11_held X hW h0 m_6_11 dX11_holdsBy_182 ?_
            refine lv_iload_n hx hb dX11_holdsBy_185 rfl (lv_at hl 0 rfl) ?_
            obtain ⟨hi10, h⟩ := ckI_el h
            refine r_iald X hW (kf_X11_held h0) hi10 dX11_holdsBy_186 ?_
            refine lv_iand hx hb dX11_holdsBy_187 ?_
            refine lv_goto (tgt := 206) hx hb dX11_holdsBy_188 (by decide) ?_
            exact bl_X11_holdsBy_b206 X hret ih v0 h0 v1 v2 v3_8 v4 (v0 + 3) (kf_X11_held h0) (v3_8 - 1) ((gI σ (v0 + 3) (v3_8 - 1).toNatClampNeg) &&& (gI σ (v0 + 3) (v3_8).toNatClampNeg)) σ h _ _ _ hW (lv_sub hl [3, 4, 5, 0, 6] rfl)
        · replace h := if_t hc h
          refine lv_iload hx hb dX11_holdsBy_80 (lv_at hl 0 rfl) ?_
          refine lv_sipush (v := 1000) hx hb dX11_holdsBy_82 (by decide) ?_
          refine w_irem hx hb dX11_holdsBy_85 (by decide) ?_
          refine nm_i h ?_
          clear h; intro v7_7 h
          refine lv_istore (lv' := [(7, .int (v7_7)), (6, .int (r_3)), (5, .int (r_2)), (0, .ref (gz G + (v0))), (1, .int (v1)), (2, .int (v2)), (3, .int (v3)), (4, .int (v4))]) hx hb dX11_holdsBy_86 hl (by decide) rfl ?_
          clear hl; intro ls hl
          refine lv_iconst (v := 0) hx hb dX11_holdsBy_88 (by decide) ?_
          refine lv_istore (lv' := [(8, .int (0)), (7, .int (v7_7)), (6, .int (r_3)), (5, .int (r_2)), (0, .ref (gz G + (v0))), (1, .int (v1)), (2, .int (v2)), (3, .int (v3)), (4, .int (v4))]) hx hb dX11_holdsBy_89 hl (by decide) rfl ?_
          clear hl; intro ls hl
          refine lv_iconst (v := 0) hx hb dX11_holdsBy_91 (by decide) ?_
          refine lv_istore (lv' := [(9, .int (0)), (8, .int (0)), (7, .int (v7_7)), (6, .int (r_3)), (5, .int (r_2)), (0, .ref (gz G + (v0))), (1, .int (v1)), (2, .int (v2)), (3, .int (v3)), (4, .int (v4))]) hx hb dX11_holdsBy_92 hl (by decide) rfl ?_
          clear hl; intro ls hl
          exact bl_X11_holdsBy_L94 X hret (bl_X11_holdsBy_b123 X hret ih) FU v0 h0 v1 v2 v3 v4 r_3 v7_7 0 0 σ h _ _ _ hW (lv_sub hl [5, 6, 7, 8, 9, 3, 2, 1, 0] rfl)
      · replace h := if_t hc h
        refine lv_aload_n hx hb dX11_holdsBy_56 rfl (lv_at hl 2 rfl) ?_
        refine gf_X11_held X hW h0 m_6_11 dX11_holdsBy_57 ?_
        refine lv_iload_n hx hb dX11_holdsBy_60 rfl (lv_at hl 5 rfl) ?_
        refine lv_iload_n hx hb dX11_holdsBy_61 rfl (lv_at hl 4 rfl) ?_
        refine lv_iload hx hb dX11_holdsBy_62 (lv_at hl 0 rfl) ?_
        refine w_ishr hx hb dX11_holdsBy_64 ?_
        refine lv_iconst (v := 1) hx hb dX11_holdsBy_65 (by decide) ?_
        refine lv_iand hx hb dX11_holdsBy_66 ?_
        obtain ⟨hi4, h⟩ := ckI_el h
        refine r_iast X hW (kf_X11_held h0) hi4 dX11_holdsBy_67 ?_
        clear hW; intro H locs hW
        refine nm_s hW h ?_
        clear hW h; intro σ_5 hW h
        refine w_iinc (v := 1) (lv' := fun y => [(3, .int (y)), (6, .int (r_3)), (5, .int (r_2)), (0, .ref (gz G + (v0))), (1, .int (v1)), (2, .int (v2)), (4, .int (v4))]) hx hb dX11_holdsBy_68 hl (k := 5) rfl (by decide) (by decide) (fun _ => rfl) h ?_
        clear h hl; intro v3_6 h ls hl
        refine lv_goto (tgt := 207) hx hb dX11_holdsBy_71 (by decide) ?_
        exact bl_X11_holdsBy_b207 X hret ih v0 h0 v1 v2 v3_6 v4 σ_5 h _ _ _ hW (lv_sub hl [3, 4, 5, 0, 6] rfl)
set_option maxRecDepth 20000 in
set_option maxHeartbeats 4000000 in
theorem c_X11_holdsBy {G : Gt} {l : Launch} {v0 : Nat} (h0 : kd v0 = 10) {v1 : Int32} {v2 : Int32} {σ : St} {r : Int32} {σ' : St} (hf : pf_X11_holdsBy v0 v1 v2 σ = some (r, σ')) : Ct G l yX11_holdsBy cX11_holdsBy 10 (some .boolean) 4 [.ref (gz G + (v0)), .int (v1), .int (v2)] σ (some (.int r)) σ' := by
  refine met_z (by decide +kernel) (Nat.le_of_ble_eq_true rfl) rfl ?_
  intro p e s m args below meth c Q ls X hW hret hl
  have hx := X.1.1
  have hb := X.1.2.1
  have hl : lv_has ls 10 [(0, .ref (gz G + (v0))), (1, .int (v1)), (2, .int (v2))] := hl
  have h := hf
  clear hf
  unfold pf_X11_holdsBy at h
  refine lv_iconst (v := 0) hx hb dX11_holdsBy_0 (by decide) ?_
  refine lv_istore_n (lv' := [(3, .int (0)), (0, .ref (gz G + (v0))), (1, .int (v1)), (2, .int (v2))]) hx hb dX11_holdsBy_1 rfl hl (by decide) rfl ?_
  clear hl; intro ls hl
  refine lv_aload_n hx hb dX11_holdsBy_2 rfl (lv_at hl 1 rfl) ?_
  refine lv_iload_n hx hb dX11_holdsBy_3 rfl (lv_at hl 2 rfl) ?_
  refine lv_iconst (v := 4) hx hb dX11_holdsBy_4 (by decide) ?_
  obtain ⟨r_1, hcl, h⟩ := bind_el h
  refine call_V1 X hW (kC_X11 h0) m_7_42 m_7_44 m_0_73 mv_X11_ofQuest (c_X11_ofQuest h0 hcl) (by decide) rfl rfl (Nat.le_of_ble_eq_true rfl) hl.1 dX11_holdsBy_5 ?_
  clear hW hcl; intro H locs hW
  refine lv_istore (lv' := [(4, .int (r_1)), (3, .int (0)), (0, .ref (gz G + (v0))), (1, .int (v1)), (2, .int (v2))]) hx hb dX11_holdsBy_8 hl (by decide) rfl ?_
  clear hl; intro ls hl
  exact bl_X11_holdsBy_L10 X hret (bl_X11_holdsBy_b213 X hret) FU v0 h0 v1 v2 0 r_1 σ h _ _ _ hW (lv_sub hl [2, 3, 4, 1, 0] rfl)
set_option maxRecDepth 20000 in
set_option maxHeartbeats 4000000 in
theorem bl_X11_asItIs_L2 (X : Cx G p R s m args c cells slots cX11_asItIs 2 RX11 3) {σ' : St} (hret : R_V G p l e R s m args below meth c cells slots Q cX11_asItIs σ') :
    ∀ (n : Nat), ∀ (v0 : Nat) (h0 : kd v0 = 10) (v1 : Int32) (σ : St) (_ : pf_X11_asItIs_L2 n v0 v1 σ = some σ') (H : Heap) (locs : List Loc) (ls : Array Slot) (_ : GW G σ s H locs) (_ : lv_has ls 2 [(0, .ref (gz G + (v0))), (1, .int (v1))]), W p l e R s m args below meth c H locs cells slots Q (F0 m 2 ls []) := by
  have hx := X.1.1
  have hb := X.1.2.1
  intro n
  induction n with
  | zero => intro v0 h0 v1 σ h H locs ls hW hl; cases h
  | succ n ih =>
    intro v0 h0 v1 σ h H locs ls hW hl
    rw [pf_X11_asItIs_L2.eq_2] at h
    refine lv_iload_n hx hb dX11_asItIs_2 rfl (lv_at hl 1 rfl) ?_
    refine lv_bipush (v := 8) hx hb dX11_asItIs_3 (by decide) ?_
    refine lv_icmp_ge (tgt := 27) hx hb dX11_asItIs_5 (by decide) (fun hc => ?_) (fun hc => ?_)
    · replace h := if_t hc h
      exact rv_end hret h dX11_asItIs_27 hW
    · replace h := if_f hc h
      refine lv_aload_n hx hb dX11_asItIs_8 rfl (lv_at hl 0 rfl) ?_
      refine gf_X11_by X hW h0 m_6_12 dX11_asItIs_9 ?_
      refine lv_iload_n hx hb dX11_asItIs_12 rfl (lv_at hl 1 rfl) ?_
      refine lv_aload_n hx hb dX11_asItIs_13 rfl (lv_at hl 0 rfl) ?_
      refine lv_iconst (v := 5) hx hb dX11_asItIs_14 (by decide) ?_
      refine lv_iload_n hx hb dX11_asItIs_15 rfl (lv_at hl 1 rfl) ?_
      refine lv_iadd hx hb dX11_asItIs_16 ?_
      obtain ⟨r_1, hcl, h⟩ := bind_el h
      refine call_V1 X hW (kC_X11 h0) m_7_17 m_7_19 m_0_68 mv_X11_get (c_X11_get h0 hcl) (by decide) rfl rfl (Nat.le_of_ble_eq_true rfl) hl.1 dX11_asItIs_17 ?_
      clear hW hcl; intro H locs hW
      obtain ⟨hi2, h⟩ := ckI_el h
      refine r_iast X hW (kf_X11_by h0) hi2 dX11_asItIs_20 ?_
      clear hW; intro H locs hW
      refine nm_s hW h ?_
      clear hW h; intro σ_3 hW h
      refine w_iinc (v := 1) (lv' := fun y => [(1, .int (y)), (0, .ref (gz G + (v0)))]) hx hb dX11_asItIs_21 hl (k := 1) rfl (by decide) (by decide) (fun _ => rfl) h ?_
      clear h hl; intro v1_4 h ls hl
      refine lv_goto (tgt := 2) hx hb dX11_asItIs_24 (by decide) ?_
      exact ih v0 h0 v1_4 σ_3 h _ _ _ hW (lv_sub hl [1, 0] rfl)
set_option maxRecDepth 20000 in
set_option maxHeartbeats 4000000 in
theorem c_X11_asItIs {G : Gt} {l : Launch} {v0 : Nat} (h0 : kd v0 = 10) {σ : St} {σ' : St} (hf : pf_X11_asItIs v0 σ = some σ') : Ct G l yX11_asItIs cX11_asItIs 2 none 3 [.ref (gz G + (v0))] σ none σ' := by
  refine met_v (by decide +kernel) (Nat.le_of_ble_eq_true rfl) rfl ?_
  intro p e s m args below meth c Q ls X hW hret hl
  have hx := X.1.1
  have hb := X.1.2.1
  have hl : lv_has ls 2 [(0, .ref (gz G + (v0)))] := hl
  have h := hf
  clear hf
  unfold pf_X11_asItIs at h
  refine lv_iconst (v := 0) hx hb dX11_asItIs_0 (by decide) ?_
  refine lv_istore_n (lv' := [(1, .int (0)), (0, .ref (gz G + (v0)))]) hx hb dX11_asItIs_1 rfl hl (by decide) rfl ?_
  clear hl; intro ls hl
  exact bl_X11_asItIs_L2 X hret FU v0 h0 0 σ h _ _ _ hW (lv_sub hl [1, 0] rfl)
set_option maxRecDepth 20000 in
set_option maxHeartbeats 4000000 in
theorem bl_X11_behind_b59 {σ : St} (X : Cx G p R s m args c cells slots cX11_behind 6 RX11 5) {r : Int32} (hret : R_I G p l e R s m args below meth c cells slots Q cX11_behind r σ) {k11 : Nat → Int32 → Int32 → Int32 → Int32 → Int32 → (Option (Int32))}
    (hk11 : ∀ (v0 : Nat) (h0 : kd v0 = 10) (v1 : Int32) (v2 : Int32) (v3 : Int32) (v4 : Int32) (v5 : Int32) (_ : k11 v0 v1 v2 v3 v4 v5 = some r) (H : Heap) (locs : List Loc) (ls : Array Slot) (_ : GW G σ s H locs) (_ : lv_has ls 6 [(0, .ref (gz G + (v0))), (1, .int (v1)), (2, .int (v2)), (3, .int (v3)), (4, .int (v4)), (5, .int (v5))]), W p l e R s m args below meth c H locs cells slots Q (F0 m 11 ls [])) :
    ∀ (v0 : Nat) (h0 : kd v0 = 10) (v1 : Int32) (v2 : Int32) (v3 : Int32) (v4 : Int32) (v5 : Int32) (_ : pf_X11_behind_b59 σ k11 v0 v1 v2 v3 v4 v5 = some r) (H : Heap) (locs : List Loc) (ls : Array Slot) (_ : GW G σ s H locs) (_ : lv_has ls 6 [(0, .ref (gz G + (v0))), (1, .int (v1)), (2, .int (v2)), (3, .int (v3)), (4, .int (v4)), (5, .int (v5))]), W p l e R s m args below meth c H locs cells slots Q (F0 m 59 ls []) := by
  have hx := X.1.1
  have hb := X.1.2.1
  intro v0 h0 v1 v2 v3 v4 v5 h H locs ls hW hl
  unfold pf_X11_behind_b59 at h
  refine w_iinc (v := 1) (lv' := fun y => [(5, .int (y)), (0, .ref (gz G + (v0))), (1, .int (v1)), (2, .int (v2)), (3, .int (v3)), (4, .int (v4))]) hx hb dX11_behind_59 hl (k := 5) rfl (by decide) (by decide) (fun _ => rfl) h ?_
  clear h hl; intro v5_1 h ls hl
  refine lv_goto (tgt := 11) hx hb dX11_behind_62 (by decide) ?_
  exact hk11 v0 h0 v1 v2 v3 v4 v5_1 h _ _ _ hW (lv_sub hl [1, 2, 3, 4, 5, 0] rfl)
set_option maxRecDepth 20000 in
set_option maxHeartbeats 4000000 in
theorem bl_X11_behind_L11 {σ : St} (X : Cx G p R s m args c cells slots cX11_behind 6 RX11 5) {r : Int32} (hret : R_I G p l e R s m args below meth c cells slots Q cX11_behind r σ) :
    ∀ (n : Nat), ∀ (v0 : Nat) (h0 : kd v0 = 10) (v1 : Int32) (v2 : Int32) (v3 : Int32) (v4 : Int32) (v5 : Int32) (_ : pf_X11_behind_L11 σ n v0 v1 v2 v3 v4 v5 = some r) (H : Heap) (locs : List Loc) (ls : Array Slot) (_ : GW G σ s H locs) (_ : lv_has ls 6 [(0, .ref (gz G + (v0))), (1, .int (v1)), (2, .int (v2)), (3, .int (v3)), (4, .int (v4)), (5, .int (v5))]), W p l e R s m args below meth c H locs cells slots Q (F0 m 11 ls []) := by
  have hx := X.1.1
  have hb := X.1.2.1
  intro n
  induction n with
  | zero => intro v0 h0 v1 v2 v3 v4 v5 h H locs ls hW hl; cases h
  | succ n ih =>
    intro v0 h0 v1 v2 v3 v4 v5 h H locs ls hW hl
    rw [pf_X11_behind_L11.eq_2] at h
    refine lv_iload hx hb dX11_behind_11 (lv_at hl 5 rfl) ?_
    refine lv_aload_n hx hb dX11_behind_13 rfl (lv_at hl 0 rfl) ?_
    refine lv_iload_n hx hb dX11_behind_14 rfl (lv_at hl 1 rfl) ?_
    obtain ⟨r_1, hcl, h⟩ := bind_el h
    refine call_V1 X hW (kC_X11 h0) m_7_38 m_7_40 m_0_72 mv_X11_stepsOf (c_X11_stepsOf h0 hcl) (by decide) rfl rfl (Nat.le_of_ble_eq_true rfl) hl.1 dX11_behind_15 ?_
    clear hW hcl; intro H locs hW
    refine lv_icmp_ge (tgt := 65) hx hb dX11_behind_18 (by decide) (fun hc => ?_) (fun hc => ?_)
    · replace h := if_t hc h
      refine lv_iload hx hb dX11_behind_65 (lv_at hl 4 rfl) ?_
      exact ri_end0 hret h dX11_behind_67 hW
    · replace h := if_f hc h
      refine lv_iload_n hx hb dX11_behind_21 rfl (lv_at hl 2 rfl) ?_
      refine lv_iload hx hb dX11_behind_22 (lv_at hl 5 rfl) ?_
      refine w_ishr hx hb dX11_behind_24 ?_
      refine lv_iconst (v := 1) hx hb dX11_behind_25 (by decide) ?_
      refine lv_iand hx hb dX11_behind_26 ?_
      refine lv_iconst (v := 1) hx hb dX11_behind_27 (by decide) ?_
      refine lv_icmp_ne (tgt := 59) hx hb dX11_behind_28 (by decide) (fun hc => ?_) (fun hc => ?_)
      · replace h := if_f hc h
        exact bl_X11_behind_b59 X hret ih v0 h0 v1 v2 v3 v4 v5 h _ _ _ hW (lv_sub hl [0, 1, 2, 3, 4, 5] rfl)
      · replace h := if_t hc h
        refine lv_iload hx hb dX11_behind_31 (lv_at hl 4 rfl) ?_
        refine lv_aload_n hx hb dX11_behind_33 rfl (lv_at hl 0 rfl) ?_
        refine lv_iload_n hx hb dX11_behind_34 rfl (lv_at hl 1 rfl) ?_
        refine lv_iload hx hb dX11_behind_35 (lv_at hl 5 rfl) ?_
        refine lv_bipush (v := 22) hx hb dX11_behind_37 (by decide) ?_
        refine lv_iload_n hx hb dX11_behind_39 rfl (lv_at hl 3 rfl) ?_
        refine lv_iadd hx hb dX11_behind_40 ?_
        obtain ⟨r_2, hcl, h⟩ := bind_el h
        refine call_V1 X hW (kC_X11 h0) m_7_50 m_7_52 m_0_75 mv_X11_ofStep (c_X11_ofStep h0 hcl) (by decide) rfl rfl (Nat.le_of_ble_eq_true rfl) hl.1 dX11_behind_41 ?_
        clear hW hcl; intro H locs hW
        refine lv_aload_n hx hb dX11_behind_44 rfl (lv_at hl 0 rfl) ?_
        refine lv_iload_n hx hb dX11_behind_45 rfl (lv_at hl 1 rfl) ?_
        refine lv_iload hx hb dX11_behind_46 (lv_at hl 5 rfl) ?_
        refine lv_bipush (v := 6) hx hb dX11_behind_48 (by decide) ?_
        refine lv_iload_n hx hb dX11_behind_50 rfl (lv_at hl 3 rfl) ?_
        refine lv_iadd hx hb dX11_behind_51 ?_
        obtain ⟨r_3, hcl, h⟩ := bind_el h
        refine call_V1 X hW (kC_X11 h0) m_7_50 m_7_52 m_0_75 mv_X11_ofStep (c_X11_ofStep h0 hcl) (by decide) rfl rfl (Nat.le_of_ble_eq_true rfl) hl.1 dX11_behind_52 ?_
        clear hW hcl; intro H locs hW
        refine lv_isub hx hb dX11_behind_55 ?_
        refine lv_iadd hx hb dX11_behind_56 ?_
        refine nm_i h ?_
        clear h; intro v4_4 h
        refine lv_istore (lv' := [(4, .int (v4_4)), (0, .ref (gz G + (v0))), (1, .int (v1)), (2, .int (v2)), (3, .int (v3)), (5, .int (v5))]) hx hb dX11_behind_57 hl (by decide) rfl ?_
        clear hl; intro ls hl
        exact bl_X11_behind_b59 X hret ih v0 h0 v1 v2 v3 v4_4 v5 h _ _ _ hW (lv_sub hl [1, 2, 3, 4, 0, 5] rfl)
set_option maxRecDepth 20000 in
set_option maxHeartbeats 4000000 in
theorem c_X11_behind {G : Gt} {l : Launch} {v0 : Nat} (h0 : kd v0 = 10) {v1 : Int32} {v2 : Int32} {v3 : Int32} {σ : St} {r : Int32} (hf : pf_X11_behind v0 v1 v2 v3 σ = some r) : Ct G l yX11_behind cX11_behind 6 (some .int) 5 [.ref (gz G + (v0)), .int (v1), .int (v2), .int (v3)] σ (some (.int r)) σ := by
  refine met_i (by decide +kernel) (Nat.le_of_ble_eq_true rfl) rfl ?_
  intro p e s m args below meth c Q ls X hW hret hl
  have hx := X.1.1
  have hb := X.1.2.1
  have hl : lv_has ls 6 [(0, .ref (gz G + (v0))), (1, .int (v1)), (2, .int (v2)), (3, .int (v3))] := hl
  have h := hf
  clear hf
  unfold pf_X11_behind at h
  refine lv_aload_n hx hb dX11_behind_0 rfl (lv_at hl 0 rfl) ?_
  refine gf_X11_by X hW h0 m_6_12 dX11_behind_1 ?_
  refine lv_iload_n hx hb dX11_behind_4 rfl (lv_at hl 3 rfl) ?_
  obtain ⟨hi1, h⟩ := ckI_el h
  refine r_iald X hW (kf_X11_by h0) hi1 dX11_behind_5 ?_
  refine nm_i h ?_
  clear h; intro v4_2 h
  refine lv_istore (lv' := [(4, .int (v4_2)), (0, .ref (gz G + (v0))), (1, .int (v1)), (2, .int (v2)), (3, .int (v3))]) hx hb dX11_behind_6 hl (by decide) rfl ?_
  clear hl; intro ls hl
  refine lv_iconst (v := 0) hx hb dX11_behind_8 (by decide) ?_
  refine lv_istore (lv' := [(5, .int (0)), (4, .int (v4_2)), (0, .ref (gz G + (v0))), (1, .int (v1)), (2, .int (v2)), (3, .int (v3))]) hx hb dX11_behind_9 hl (by decide) rfl ?_
  clear hl; intro ls hl
  exact bl_X11_behind_L11 X hret FU v0 h0 v1 v2 v3 v4_2 0 h _ _ _ hW (lv_sub hl [2, 3, 4, 5, 1, 0] rfl)
set_option maxRecDepth 20000 in
set_option maxHeartbeats 4000000 in
theorem bl_X11_hasItems_L3 {σ : St} (X : Cx G p R s m args c cells slots cX11_hasItems 6 RX11 6) {r : Int32} (hret : R_Z G p l e R s m args below meth c cells slots Q cX11_hasItems r σ) :
    ∀ (n : Nat), ∀ (v0 : Nat) (h0 : kd v0 = 10) (v1 : Int32) (v2 : Int32) (v3 : Int32) (v4 : Int32) (_ : pf_X11_hasItems_L3 σ n v0 v1 v2 v3 v4 = some r) (H : Heap) (locs : List Loc) (ls : Array Slot) (_ : GW G σ s H locs) (_ : lv_has ls 6 [(0, .ref (gz G + (v0))), (1, .int (v1)), (2, .int (v2)), (3, .int (v3)), (4, .int (v4))]), W p l e R s m args below meth c H locs cells slots Q (F0 m 3 ls []) := by
  have hx := X.1.1
  have hb := X.1.2.1
  intro n
  induction n with
  | zero => intro v0 h0 v1 v2 v3 v4 h H locs ls hW hl; cases h
  | succ n ih =>
    intro v0 h0 v1 v2 v3 v4 h H locs ls hW hl
    rw [pf_X11_hasItems_L3.eq_2] at h
    refine lv_iload hx hb dX11_hasItems_3 (lv_at hl 4 rfl) ?_
    refine lv_bipush (v := 8) hx hb dX11_hasItems_5 (by decide) ?_
    refine lv_icmp_ge (tgt := 60) hx hb dX11_hasItems_7 (by decide) (fun hc => ?_) (fun hc => ?_)
    · replace h := if_t hc h
      refine lv_iconst (v := 1) hx hb dX11_hasItems_60 (by decide) ?_
      exact rz_end0 hret h (by decide) dX11_hasItems_61 hW
    · replace h := if_f hc h
      refine lv_aload_n hx hb dX11_hasItems_10 rfl (lv_at hl 0 rfl) ?_
      refine lv_iload_n hx hb dX11_hasItems_11 rfl (lv_at hl 1 rfl) ?_
      refine lv_iload_n hx hb dX11_hasItems_12 rfl (lv_at hl 3 rfl) ?_
      refine lv_iload hx hb dX11_hasItems_13 (lv_at hl 4 rfl) ?_
      obtain ⟨r_1, hcl, h⟩ := bind_el h
      refine call_V1 X hW (kC_X11 h0) m_7_91 m_7_93 m_0_84 mv_X11_behind (c_X11_behind h0 hcl) (by decide) rfl rfl (Nat.le_of_ble_eq_true rfl) hl.1 dX11_hasItems_15 ?_
      clear hW hcl; intro H locs hW
      refine lv_istore (lv' := [(5, .int (r_1)), (0, .ref (gz G + (v0))), (1, .int (v1)), (2, .int (v2)), (3, .int (v3)), (4, .int (v4))]) hx hb dX11_hasItems_18 hl (by decide) rfl ?_
      clear hl; intro ls hl
      refine lv_iload hx hb dX11_hasItems_20 (lv_at hl 0 rfl) ?_
      refine lv_aload_n hx hb dX11_hasItems_22 rfl (lv_at hl 1 rfl) ?_
      refine lv_iload_n hx hb dX11_hasItems_23 rfl (lv_at hl 2 rfl) ?_
      refine lv_iload_n hx hb dX11_hasItems_24 rfl (lv_at hl 3 rfl) ?_
      refine lv_bipush (v := 6) hx hb dX11_hasItems_25 (by decide) ?_
      refine lv_iload hx hb dX11_hasItems_27 (lv_at hl 5 rfl) ?_
      refine lv_iadd hx hb dX11_hasItems_29 ?_
      obtain ⟨r_2, hcl, h⟩ := bind_el h
      refine call_V1 X hW (kC_X11 h0) m_7_50 m_7_52 m_0_75 mv_X11_ofStep (c_X11_ofStep h0 hcl) (by decide) rfl rfl (Nat.le_of_ble_eq_true rfl) hl.1 dX11_hasItems_30 ?_
      clear hW hcl; intro H locs hW
      refine lv_icmp_lt (tgt := 52) hx hb dX11_hasItems_33 (by decide) (fun hc => ?_) (fun hc => ?_)
      · replace h := if_t hc h
        refine lv_iconst (v := 0) hx hb dX11_hasItems_52 (by decide) ?_
        exact rz_end0 hret h (by decide) dX11_hasItems_53 hW
      · replace h := if_f hc h
        refine lv_iload hx hb dX11_hasItems_36 (lv_at hl 0 rfl) ?_
        refine lv_aload_n hx hb dX11_hasItems_38 rfl (lv_at hl 1 rfl) ?_
        refine lv_iload_n hx hb dX11_hasItems_39 rfl (lv_at hl 2 rfl) ?_
        refine lv_iload_n hx hb dX11_hasItems_40 rfl (lv_at hl 3 rfl) ?_
        refine lv_bipush (v := 14) hx hb dX11_hasItems_41 (by decide) ?_
        refine lv_iload hx hb dX11_hasItems_43 (lv_at hl 5 rfl) ?_
        refine lv_iadd hx hb dX11_hasItems_45 ?_
        obtain ⟨r_3, hcl, h⟩ := bind_el h
        refine call_V1 X hW (kC_X11 h0) m_7_50 m_7_52 m_0_75 mv_X11_ofStep (c_X11_ofStep h0 hcl) (by decide) rfl rfl (Nat.le_of_ble_eq_true rfl) hl.1 dX11_hasItems_46 ?_
        clear hW hcl; intro H locs hW
        refine lv_icmp_ge (tgt := 54) hx hb dX11_hasItems_49 (by decide) (fun hc => ?_) (fun hc => ?_)
        · replace h := if_t hc h
          refine w_iinc (v := 1) (lv' := fun y => [(4, .int (y)), (5, .int (r_1)), (0, .ref (gz G + (v0))), (1, .int (v1)), (2, .int (v2)), (3, .int (v3))]) hx hb dX11_hasItems_54 hl (k := 5) rfl (by decide) (by decide) (fun _ => rfl) h ?_
          clear h hl; intro v4_4 h ls hl
          refine lv_goto (tgt := 3) hx hb dX11_hasItems_57 (by decide) ?_
          exact ih v0 h0 v1 v2 v3 v4_4 h _ _ _ hW (lv_sub hl [2, 3, 4, 5, 0] rfl)
        · replace h := if_f hc h
          refine lv_iconst (v := 0) hx hb dX11_hasItems_52 (by decide) ?_
          exact rz_end0 hret h (by decide) dX11_hasItems_53 hW
set_option maxRecDepth 20000 in
set_option maxHeartbeats 4000000 in
theorem c_X11_hasItems {G : Gt} {l : Launch} {v0 : Nat} (h0 : kd v0 = 10) {v1 : Int32} {v2 : Int32} {v3 : Int32} {σ : St} {r : Int32} (hf : pf_X11_hasItems v0 v1 v2 v3 σ = some r) : Ct G l yX11_hasItems cX11_hasItems 6 (some .boolean) 6 [.ref (gz G + (v0)), .int (v1), .int (v2), .int (v3)] σ (some (.int r)) σ := by
  refine met_z (by decide +kernel) (Nat.le_of_ble_eq_true rfl) rfl ?_
  intro p e s m args below meth c Q ls X hW hret hl
  have hx := X.1.1
  have hb := X.1.2.1
  have hl : lv_has ls 6 [(0, .ref (gz G + (v0))), (1, .int (v1)), (2, .int (v2)), (3, .int (v3))] := hl
  have h := hf
  clear hf
  unfold pf_X11_hasItems at h
  refine lv_iconst (v := 0) hx hb dX11_hasItems_0 (by decide) ?_
  refine lv_istore (lv' := [(4, .int (0)), (0, .ref (gz G + (v0))), (1, .int (v1)), (2, .int (v2)), (3, .int (v3))]) hx hb dX11_hasItems_1 hl (by decide) rfl ?_
  clear hl; intro ls hl
  exact bl_X11_hasItems_L3 X hret FU v0 h0 v1 v2 v3 0 h _ _ _ hW (lv_sub hl [1, 2, 3, 4, 0] rfl)
end
