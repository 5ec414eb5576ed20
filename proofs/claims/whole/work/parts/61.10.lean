section
variable {G : Gt} {p : Program} {l : Launch} {e : Env} {R : Room} {s : State} {m : MethodId} {args : Array Value} {below : List Frame} {meth : Method} {c : Code} {cells slots : Nat} {Q : State → Prop}
set_option maxRecDepth 20000 in
set_option maxHeartbeats 4000000 in
theorem c_X11_append {G : Gt} {l : Launch} {v0 : Nat} (h0 : kd v0 = 10) {v1 : Int32} {v2 : Int32} {v3 : Int32} {v4 : Int32} {v5 : Int32} {σ : St} {r : Int32} {σ' : St} (hf : pf_X11_append v0 v1 v2 v3 v4 v5 σ = some (r, σ')) : Ct G l yX11_append cX11_append 6 (some .int) 3 [.ref (gz G + (v0)), .int (v1), .int (v2), .int (v3), .int (v4), .int (v5)] σ (some (.int r)) σ' := by
  refine met_i (by decide +kernel) (Nat.le_of_ble_eq_true rfl) rfl ?_
  intro p e s m args below meth c Q ls X hW hret hl
  have hx := X.1.1
  have hb := X.1.2.1
  have hl : lv_has ls 6 [(0, .ref (gz G + (v0))), (1, .int (v1)), (2, .int (v2)), (3, .int (v3)), (4, .int (v4)), (5, .int (v5))] := hl
  have h := hf
  clear hf
  unfold pf_X11_append at h
  refine lv_aload_n hx hb dX11_append_0 rfl (lv_at hl 0 rfl) ?_
  refine lv_iconst (v := 0) hx hb dX11_append_1 (by decide) ?_
  refine sf_X11_thrown X hW h0 m_6_6 dX11_append_2 ?_
  clear hW; intro H locs hW
  refine nm_s hW h ?_
  clear hW h; intro σ_1 hW h
  refine lv_aload_n hx hb dX11_append_5 rfl (lv_at hl 0 rfl) ?_
  refine gf_X11_fed X hW h0 m_6_20 dX11_append_6 ?_
  refine lv_bipush (v := 20) hx hb dX11_append_9 (by decide) ?_
  refine lv_iadd hx hb dX11_append_11 ?_
  refine lv_sipush (v := 800) hx hb dX11_append_12 (by decide) ?_
  refine lv_icmp_le (tgt := 20) hx hb dX11_append_15 (by decide) (fun hc => ?_) (fun hc => ?_)
  · replace h := if_t hc h
    refine lv_aload_n hx hb dX11_append_20 rfl (lv_at hl 0 rfl) ?_
    refine lv_iload_n hx hb dX11_append_21 rfl (lv_at hl 1 rfl) ?_
    obtain ⟨σ_2, hcl, h⟩ := bind_el h
    refine call_V0 X hW (kC_X11 h0) m_6_97 m_6_99 m_0_38 mv_X11_four (c_X11_four h0 hcl) (by decide) rfl rfl (Nat.le_of_ble_eq_true rfl) hl.1 dX11_append_22 ?_
    clear hW hcl; intro H locs hW
    refine lv_aload_n hx hb dX11_append_25 rfl (lv_at hl 0 rfl) ?_
    refine lv_iload_n hx hb dX11_append_26 rfl (lv_at hl 2 rfl) ?_
    obtain ⟨σ_3, hcl, h⟩ := bind_el h
    refine call_V0 X hW (kC_X11 h0) m_6_97 m_6_99 m_0_38 mv_X11_four (c_X11_four h0 hcl) (by decide) rfl rfl (Nat.le_of_ble_eq_true rfl) hl.1 dX11_append_27 ?_
    clear hW hcl; intro H locs hW
    refine lv_aload_n hx hb dX11_append_30 rfl (lv_at hl 0 rfl) ?_
    refine lv_iload_n hx hb dX11_append_31 rfl (lv_at hl 3 rfl) ?_
    obtain ⟨σ_4, hcl, h⟩ := bind_el h
    refine call_V0 X hW (kC_X11 h0) m_6_97 m_6_99 m_0_38 mv_X11_four (c_X11_four h0 hcl) (by decide) rfl rfl (Nat.le_of_ble_eq_true rfl) hl.1 dX11_append_32 ?_
    clear hW hcl; intro H locs hW
    refine lv_aload_n hx hb dX11_append_35 rfl (lv_at hl 0 rfl) ?_
    refine lv_iload hx hb dX11_append_36 (lv_at hl 4 rfl) ?_
    obtain ⟨σ_5, hcl, h⟩ := bind_el h
    refine call_V0 X hW (kC_X11 h0) m_6_97 m_6_99 m_0_38 mv_X11_four (c_X11_four h0 hcl) (by decide) rfl rfl (Nat.le_of_ble_eq_true rfl) hl.1 dX11_append_38 ?_
    clear hW hcl; intro H locs hW
    refine lv_aload_n hx hb dX11_append_41 rfl (lv_at hl 0 rfl) ?_
    refine lv_iload hx hb dX11_append_42 (lv_at hl 5 rfl) ?_
    obtain ⟨σ_6, hcl, h⟩ := bind_el h
    refine call_V0 X hW (kC_X11 h0) m_6_97 m_6_99 m_0_38 mv_X11_four (c_X11_four h0 hcl) (by decide) rfl rfl (Nat.le_of_ble_eq_true rfl) hl.1 dX11_append_44 ?_
    clear hW hcl; intro H locs hW
    refine lv_aload_n hx hb dX11_append_47 rfl (lv_at hl 0 rfl) ?_
    refine gf_X11_fed X hW h0 m_6_20 dX11_append_48 ?_
    exact ri_end hret h dX11_append_51 hW
  · replace h := if_f hc h
    refine lv_iconst (v := (-1)) hx hb dX11_append_18 (by decide) ?_
    exact ri_end hret h dX11_append_19 hW
set_option maxRecDepth 20000 in
set_option maxHeartbeats 4000000 in
theorem c_X11_errorOffset {G : Gt} {l : Launch} {v0 : Nat} (h0 : kd v0 = 10) {σ : St} {r : Int32} {σ' : St} (hf : pf_X11_errorOffset v0 σ = some (r, σ')) : Ct G l yX11_errorOffset cX11_errorOffset 1 (some .int) 2 [.ref (gz G + (v0))] σ (some (.int r)) σ' := by
  refine met_i (by decide +kernel) (Nat.le_of_ble_eq_true rfl) rfl ?_
  intro p e s m args below meth c Q ls X hW hret hl
  have hx := X.1.1
  have hb := X.1.2.1
  have hl : lv_has ls 1 [(0, .ref (gz G + (v0)))] := hl
  have h := hf
  clear hf
  unfold pf_X11_errorOffset at h
  refine lv_aload_n hx hb dX11_errorOffset_0 rfl (lv_at hl 0 rfl) ?_
  refine lv_iconst (v := 0) hx hb dX11_errorOffset_1 (by decide) ?_
  refine sf_X11_thrown X hW h0 m_6_6 dX11_errorOffset_2 ?_
  clear hW; intro H locs hW
  refine nm_s hW h ?_
  clear hW h; intro σ_1 hW h
  refine lv_aload_n hx hb dX11_errorOffset_5 rfl (lv_at hl 0 rfl) ?_
  refine gf_X11_faultAt X hW h0 m_6_24 dX11_errorOffset_6 ?_
  exact ri_end hret h dX11_errorOffset_9 hW
set_option maxRecDepth 20000 in
set_option maxHeartbeats 4000000 in
theorem c_X11_fails {G : Gt} {l : Launch} {v0 : Nat} (h0 : kd v0 = 10) {v1 : Int32} {v2 : Int32} {σ : St} {r : Int32} {σ' : St} (hf : pf_X11_fails v0 v1 v2 σ = some (r, σ')) : Ct G l yX11_fails cX11_fails 3 (some .boolean) 2 [.ref (gz G + (v0)), .int (v1), .int (v2)] σ (some (.int r)) σ' := by
  refine met_z (by decide +kernel) (Nat.le_of_ble_eq_true rfl) rfl ?_
  intro p e s m args below meth c Q ls X hW hret hl
  have hx := X.1.1
  have hb := X.1.2.1
  have hl : lv_has ls 3 [(0, .ref (gz G + (v0))), (1, .int (v1)), (2, .int (v2))] := hl
  have h := hf
  clear hf
  unfold pf_X11_fails at h
  refine lv_aload_n hx hb dX11_fails_0 rfl (lv_at hl 0 rfl) ?_
  refine gf_X11_fault X hW h0 m_6_23 dX11_fails_1 ?_
  refine lv_if_eq (tgt := 9) hx hb dX11_fails_4 (by decide) (fun hc => ?_) (fun hc => ?_)
  · replace h := if_t hc h
    refine lv_aload_n hx hb dX11_fails_9 rfl (lv_at hl 0 rfl) ?_
    refine lv_iload_n hx hb dX11_fails_10 rfl (lv_at hl 1 rfl) ?_
    refine sf_X11_fault X hW h0 m_6_23 dX11_fails_11 ?_
    clear hW; intro H locs hW
    refine nm_s hW h ?_
    clear hW h; intro σ_1 hW h
    refine lv_aload_n hx hb dX11_fails_14 rfl (lv_at hl 0 rfl) ?_
    refine lv_iload_n hx hb dX11_fails_15 rfl (lv_at hl 2 rfl) ?_
    refine sf_X11_faultAt X hW h0 m_6_24 dX11_fails_16 ?_
    clear hW; intro H locs hW
    refine nm_s hW h ?_
    clear hW h; intro σ_2 hW h
    refine lv_iconst (v := 0) hx hb dX11_fails_19 (by decide) ?_
    exact rz_end hret h (by decide) dX11_fails_20 hW
  · replace h := if_f hc h
    refine lv_iconst (v := 0) hx hb dX11_fails_7 (by decide) ?_
    exact rz_end hret h (by decide) dX11_fails_8 hW
set_option maxRecDepth 20000 in
set_option maxHeartbeats 4000000 in
theorem bl_X11_here_b38 (X : Cx G p R s m args c cells slots cX11_here 1 RX11 2) {r : Int32} {σ' : St} (hret : R_I G p l e R s m args below meth c cells slots Q cX11_here r σ') :
    ∀ (v0 : Nat) (h0 : kd v0 = 10) (σ : St) (_ : pf_X11_here_b38 v0 σ = some (r, σ')) (H : Heap) (locs : List Loc) (ls : Array Slot) (_ : GW G σ s H locs) (_ : lv_has ls 1 [(0, .ref (gz G + (v0)))]), W p l e R s m args below meth c H locs cells slots Q (F0 m 38 ls []) := by
  have hx := X.1.1
  have hb := X.1.2.1
  intro v0 h0 σ h H locs ls hW hl
  unfold pf_X11_here_b38 at h
  refine lv_aload_n hx hb dX11_here_38 rfl (lv_at hl 0 rfl) ?_
  refine gf_X11_at X hW h0 m_6_22 dX11_here_39 ?_
  refine lv_aload_n hx hb dX11_here_42 rfl (lv_at hl 0 rfl) ?_
  refine gf_X11_length X hW h0 m_6_21 dX11_here_43 ?_
  refine lv_icmp_ge (tgt := 61) hx hb dX11_here_46 (by decide) (fun hc => ?_) (fun hc => ?_)
  · replace h := if_t hc h
    refine lv_iconst (v := (-1)) hx hb dX11_here_61 (by decide) ?_
    exact ri_end hret h dX11_here_62 hW
  · replace h := if_f hc h
    refine lv_aload_n hx hb dX11_here_49 rfl (lv_at hl 0 rfl) ?_
    refine gf_X11_text X hW h0 m_6_19 dX11_here_50 ?_
    refine lv_aload_n hx hb dX11_here_53 rfl (lv_at hl 0 rfl) ?_
    refine gf_X11_at X hW h0 m_6_22 dX11_here_54 ?_
    obtain ⟨hi1, h⟩ := ckI_el h
    refine r_iald X hW (kf_X11_text h0) hi1 dX11_here_57 ?_
    refine lv_goto (tgt := 62) hx hb dX11_here_58 (by decide) ?_
    exact ri_end hret h dX11_here_62 hW
set_option maxRecDepth 20000 in
set_option maxHeartbeats 4000000 in
theorem bl_X11_here_L0 (X : Cx G p R s m args c cells slots cX11_here 1 RX11 2) {r : Int32} {σ' : St} (hret : R_I G p l e R s m args below meth c cells slots Q cX11_here r σ') {k38 : Nat → St → (Option (Int32 × St))}
    (hk38 : ∀ (v0 : Nat) (h0 : kd v0 = 10) (σ : St) (_ : k38 v0 σ = some (r, σ')) (H : Heap) (locs : List Loc) (ls : Array Slot) (_ : GW G σ s H locs) (_ : lv_has ls 1 [(0, .ref (gz G + (v0)))]), W p l e R s m args below meth c H locs cells slots Q (F0 m 38 ls [])) :
    ∀ (n : Nat), ∀ (v0 : Nat) (h0 : kd v0 = 10) (σ : St) (_ : pf_X11_here_L0 k38 n v0 σ = some (r, σ')) (H : Heap) (locs : List Loc) (ls : Array Slot) (_ : GW G σ s H locs) (_ : lv_has ls 1 [(0, .ref (gz G + (v0)))]), W p l e R s m args below meth c H locs cells slots Q (F0 m 0 ls []) := by
  have hx := X.1.1
  have hb := X.1.2.1
  intro n
  induction n with
  | zero => intro v0 h0 σ h H locs ls hW hl; cases h
  | succ n ih =>
    intro v0 h0 σ h H locs ls hW hl
    rw [pf_X11_here_L0.eq_2] at h
    refine lv_aload_n hx hb dX11_here_0 rfl (lv_at hl 0 rfl) ?_
    refine gf_X11_at X hW h0 m_6_22 dX11_here_1 ?_
    refine lv_aload_n hx hb dX11_here_4 rfl (lv_at hl 0 rfl) ?_
    refine gf_X11_length X hW h0 m_6_21 dX11_here_5 ?_
    refine lv_icmp_ge (tgt := 38) hx hb dX11_here_8 (by decide) (fun hc => ?_) (fun hc => ?_)
    · replace h := if_t hc h
      exact hk38 v0 h0 σ h _ _ _ hW (lv_sub hl [0] rfl)
    · replace h := if_f hc h
      refine lv_aload_n hx hb dX11_here_11 rfl (lv_at hl 0 rfl) ?_
      refine gf_X11_text X hW h0 m_6_19 dX11_here_12 ?_
      refine lv_aload_n hx hb dX11_here_15 rfl (lv_at hl 0 rfl) ?_
      refine gf_X11_at X hW h0 m_6_22 dX11_here_16 ?_
      obtain ⟨hi1, h⟩ := ckI_el h
      refine r_iald X hW (kf_X11_text h0) hi1 dX11_here_19 ?_
      refine lv_bipush (v := 32) hx hb dX11_here_20 (by decide) ?_
      refine lv_icmp_ne (tgt := 38) hx hb dX11_here_22 (by decide) (fun hc => ?_) (fun hc => ?_)
      · replace h := if_f hc h
        exact hk38 v0 h0 σ h _ _ _ hW (lv_sub hl [0] rfl)
      · replace h := if_t hc h
        refine lv_aload_n hx hb dX11_here_25 rfl (lv_at hl 0 rfl) ?_
        refine lv_dup hx hb dX11_here_26 rfl ?_
        refine gf_X11_at X hW h0 m_6_22 dX11_here_27 ?_
        refine lv_iconst (v := 1) hx hb dX11_here_30 (by decide) ?_
        refine lv_iadd hx hb dX11_here_31 ?_
        refine sf_X11_at X hW h0 m_6_22 dX11_here_32 ?_
        clear hW; intro H locs hW
        refine nm_s hW h ?_
        clear hW h; intro σ_2 hW h
        refine lv_goto (tgt := 0) hx hb dX11_here_35 (by decide) ?_
        exact ih v0 h0 σ_2 h _ _ _ hW (lv_sub hl [0] rfl)
set_option maxRecDepth 20000 in
set_option maxHeartbeats 4000000 in
theorem c_X11_here {G : Gt} {l : Launch} {v0 : Nat} (h0 : kd v0 = 10) {σ : St} {r : Int32} {σ' : St} (hf : pf_X11_here v0 σ = some (r, σ')) : Ct G l yX11_here cX11_here 1 (some .int) 2 [.ref (gz G + (v0))] σ (some (.int r)) σ' := by
  refine met_i (by decide +kernel) (Nat.le_of_ble_eq_true rfl) rfl ?_
  intro p e s m args below meth c Q ls X hW hret hl
  have hx := X.1.1
  have hb := X.1.2.1
  have hl : lv_has ls 1 [(0, .ref (gz G + (v0)))] := hl
  have h := hf
  clear hf
  unfold pf_X11_here at h
  exact bl_X11_here_L0 X hret (bl_X11_here_b38 X hret) FU v0 h0 σ h _ _ _ hW (lv_sub hl [0] rfl)
set_option maxRecDepth 20000 in
set_option maxHeartbeats 4000000 in
theorem c_X11_isLetter {G : Gt} {l : Launch} {v0 : Int32} {σ : St} {r : Int32} (hf : pf_X11_isLetter v0 σ = some r) : Ct G l yX11_isLetter cX11_isLetter 1 (some .boolean) 2 [.int (v0)] σ (some (.int r)) σ := by
  refine met_z (by decide +kernel) (Nat.le_of_ble_eq_true rfl) rfl ?_
  intro p e s m args below meth c Q ls X hW hret hl
  have hx := X.1.1
  have hb := X.1.2.1
  have hl : lv_has ls 1 [(0, .int (v0))] := hl
  have h := hf
  clear hf
  unfold pf_X11_isLetter at h
  refine lv_iload_n hx hb dX11_isLetter_0 rfl (lv_at hl 0 rfl) ?_
  refine lv_bipush (v := 97) hx hb dX11_isLetter_1 (by decide) ?_
  refine lv_icmp_lt (tgt := 16) hx hb dX11_isLetter_3 (by decide) (fun hc => ?_) (fun hc => ?_)
  · replace h := if_t hc h
    refine lv_iconst (v := 0) hx hb dX11_isLetter_16 (by decide) ?_
    exact rz_end0 hret h (by decide) dX11_isLetter_17 hW
  · replace h := if_f hc h
    refine lv_iload_n hx hb dX11_isLetter_6 rfl (lv_at hl 0 rfl) ?_
    refine lv_bipush (v := 122) hx hb dX11_isLetter_7 (by decide) ?_
    refine lv_icmp_gt (tgt := 16) hx hb dX11_isLetter_9 (by decide) (fun hc => ?_) (fun hc => ?_)
    · replace h := if_t hc h
      refine lv_iconst (v := 0) hx hb dX11_isLetter_16 (by decide) ?_
      exact rz_end0 hret h (by decide) dX11_isLetter_17 hW
    · replace h := if_f hc h
      refine lv_iconst (v := 1) hx hb dX11_isLetter_12 (by decide) ?_
      refine lv_goto (tgt := 17) hx hb dX11_isLetter_13 (by decide) ?_
      exact rz_end0 hret h (by decide) dX11_isLetter_17 hW
set_option maxRecDepth 20000 in
set_option maxHeartbeats 4000000 in
theorem c_X11_isDigit {G : Gt} {l : Launch} {v0 : Int32} {σ : St} {r : Int32} (hf : pf_X11_isDigit v0 σ = some r) : Ct G l yX11_isDigit cX11_isDigit 1 (some .boolean) 2 [.int (v0)] σ (some (.int r)) σ := by
  refine met_z (by decide +kernel) (Nat.le_of_ble_eq_true rfl) rfl ?_
  intro p e s m args below meth c Q ls X hW hret hl
  have hx := X.1.1
  have hb := X.1.2.1
  have hl : lv_has ls 1 [(0, .int (v0))] := hl
  have h := hf
  clear hf
  unfold pf_X11_isDigit at h
  refine lv_iload_n hx hb dX11_isDigit_0 rfl (lv_at hl 0 rfl) ?_
  refine lv_bipush (v := 48) hx hb dX11_isDigit_1 (by decide) ?_
  refine lv_icmp_lt (tgt := 16) hx hb dX11_isDigit_3 (by decide) (fun hc => ?_) (fun hc => ?_)
  · replace h := if_t hc h
    refine lv_iconst (v := 0) hx hb dX11_isDigit_16 (by decide) ?_
    exact rz_end0 hret h (by decide) dX11_isDigit_17 hW
  · replace h := if_f hc h
    refine lv_iload_n hx hb dX11_isDigit_6 rfl (lv_at hl 0 rfl) ?_
    refine lv_bipush (v := 57) hx hb dX11_isDigit_7 (by decide) ?_
    refine lv_icmp_gt (tgt := 16) hx hb dX11_isDigit_9 (by decide) (fun hc => ?_) (fun hc => ?_)
    · replace h := if_t hc h
      refine lv_iconst (v := 0) hx hb dX11_isDigit_16 (by decide) ?_
      exact rz_end0 hret h (by decide) dX11_isDigit_17 hW
    · replace h := if_f hc h
      refine lv_iconst (v := 1) hx hb dX11_isDigit_12 (by decide) ?_
      refine lv_goto (tgt := 17) hx hb dX11_isDigit_13 (by decide) ?_
      exact rz_end0 hret h (by decide) dX11_isDigit_17 hW
set_option maxRecDepth 20000 in
set_option maxHeartbeats 4000000 in
theorem bl_X11_takes_b87 (X : Cx G p R s m args c cells slots cX11_takes 4 RX11 9) {r : Int32} {σ' : St} (hret : R_Z G p l e R s m args below meth c cells slots Q cX11_takes r σ') :
    ∀ (v0 : Nat) (h0 : kd v0 = 10) (v2 : Int32) (σ : St) (_ : pf_X11_takes_b87 v0 v2 σ = some (r, σ')) (H : Heap) (locs : List Loc) (ls : Array Slot) (_ : GW G σ s H locs) (_ : lv_has ls 4 [(0, .ref (gz G + (v0))), (2, .int (v2))]), W p l e R s m args below meth c H locs cells slots Q (F0 m 87 ls []) := by
  have hx := X.1.1
  have hb := X.1.2.1
  intro v0 h0 v2 σ h H locs ls hW hl
  unfold pf_X11_takes_b87 at h
  refine lv_aload_n hx hb dX11_takes_87 rfl (lv_at hl 0 rfl) ?_
  refine lv_dup hx hb dX11_takes_88 rfl ?_
  refine gf_X11_at X hW h0 m_6_22 dX11_takes_89 ?_
  refine lv_iload_n hx hb dX11_takes_92 rfl (lv_at hl 1 rfl) ?_
  refine lv_iadd hx hb dX11_takes_93 ?_
  refine sf_X11_at X hW h0 m_6_22 dX11_takes_94 ?_
  clear hW; intro H locs hW
  refine nm_s hW h ?_
  clear hW h; intro σ_1 hW h
  refine lv_iconst (v := 1) hx hb dX11_takes_97 (by decide) ?_
  exact rz_end hret h (by decide) dX11_takes_98 hW
set_option maxRecDepth 20000 in
set_option maxHeartbeats 4000000 in
theorem bl_X11_takes_L55 (X : Cx G p R s m args c cells slots cX11_takes 4 RX11 9) {r : Int32} {σ' : St} (hret : R_Z G p l e R s m args below meth c cells slots Q cX11_takes r σ') {k87 : Nat → Int32 → St → (Option (Int32 × St))}
    (hk87 : ∀ (v0 : Nat) (h0 : kd v0 = 10) (v2 : Int32) (σ : St) (_ : k87 v0 v2 σ = some (r, σ')) (H : Heap) (locs : List Loc) (ls : Array Slot) (_ : GW G σ s H locs) (_ : lv_has ls 4 [(0, .ref (gz G + (v0))), (2, .int (v2))]), W p l e R s m args below meth c H locs cells slots Q (F0 m 87 ls [])) :
    ∀ (n : Nat), ∀ (v0 : Nat) (h0 : kd v0 = 10) (v1 : Nat) (h1 : v1 < 49) (v2 : Int32) (v3 : Int32) (σ : St) (_ : pf_X11_takes_L55 k87 n v0 v1 v2 v3 σ = some (r, σ')) (H : Heap) (locs : List Loc) (ls : Array Slot) (_ : GW G σ s H locs) (_ : lv_has ls 4 [(0, .ref (gz G + (v0))), (1, .ref (gsK G (v1))), (2, .int (v2)), (3, .int (v3))]), W p l e R s m args below meth c H locs cells slots Q (F0 m 55 ls []) := by
  have hx := X.1.1
  have hb := X.1.2.1
  intro n
  induction n with
  | zero => intro v0 h0 v1 h1 v2 v3 σ h H locs ls hW hl; cases h
  | succ n ih =>
    intro v0 h0 v1 h1 v2 v3 σ h H locs ls hW hl
    rw [pf_X11_takes_L55.eq_2] at h
    refine lv_iload_n hx hb dX11_takes_55 rfl (lv_at hl 3 rfl) ?_
    refine lv_iload_n hx hb dX11_takes_56 rfl (lv_at hl 2 rfl) ?_
    refine lv_icmp_ge (tgt := 87) hx hb dX11_takes_57 (by decide) (fun hc => ?_) (fun hc => ?_)
    · replace h := if_t hc h
      exact hk87 v0 h0 v2 σ h _ _ _ hW (lv_sub hl [0, 2] rfl)
    · replace h := if_f hc h
      refine lv_aload_n hx hb dX11_takes_60 rfl (lv_at hl 0 rfl) ?_
      refine gf_X11_text X hW h0 m_6_19 dX11_takes_61 ?_
      refine lv_aload_n hx hb dX11_takes_64 rfl (lv_at hl 0 rfl) ?_
      refine gf_X11_at X hW h0 m_6_22 dX11_takes_65 ?_
      refine lv_iload_n hx hb dX11_takes_68 rfl (lv_at hl 3 rfl) ?_
      refine lv_iadd hx hb dX11_takes_69 ?_
      obtain ⟨hi1, h⟩ := ckI_el h
      refine r_iald X hW (kf_X11_text h0) hi1 dX11_takes_70 ?_
      refine lv_aload_n hx hb dX11_takes_71 rfl (lv_at hl 1 rfl) ?_
      refine lv_iload_n hx hb dX11_takes_72 rfl (lv_at hl 3 rfl) ?_
      obtain ⟨hi, h⟩ := ckI_el h
      refine r_schar X hW h1 hi m_6_133 (Nat.le_of_ble_eq_true rfl) hl.1 (by decide) dX11_takes_73 ?_
      clear hW; intro H locs hW
      refine lv_icmp_eq (tgt := 81) hx hb dX11_takes_76 (by decide) (fun hc => ?_) (fun hc => ?_)
      · replace h := if_t hc h
        refine w_iinc (v := 1) (lv' := fun y => [(3, .int (y)), (0, .ref (gz G + (v0))), (1, .ref (gsK G (v1))), (2, .int (v2))]) hx hb dX11_takes_81 hl (k := 3) rfl (by decide) (by decide) (fun _ => rfl) h ?_
        clear h hl; intro v3_2 h ls hl
        refine lv_goto (tgt := 55) hx hb dX11_takes_84 (by decide) ?_
        exact ih v0 h0 v1 h1 v2 v3_2 σ h _ _ _ hW (lv_sub hl [1, 2, 3, 0] rfl)
      · replace h := if_f hc h
        refine lv_iconst (v := 0) hx hb dX11_takes_79 (by decide) ?_
        exact rz_end hret h (by decide) dX11_takes_80 hW
set_option maxRecDepth 20000 in
set_option maxHeartbeats 4000000 in
theorem bl_X11_takes_b43 (X : Cx G p R s m args c cells slots cX11_takes 4 RX11 9) {r : Int32} {σ' : St} (hret : R_Z G p l e R s m args below meth c cells slots Q cX11_takes r σ') :
    ∀ (v0 : Nat) (h0 : kd v0 = 10) (v1 : Nat) (h1 : v1 < 49) (v2 : Int32) (σ : St) (_ : pf_X11_takes_b43 v0 v1 v2 σ = some (r, σ')) (H : Heap) (locs : List Loc) (ls : Array Slot) (_ : GW G σ s H locs) (_ : lv_has ls 4 [(0, .ref (gz G + (v0))), (1, .ref (gsK G (v1))), (2, .int (v2))]), W p l e R s m args below meth c H locs cells slots Q (F0 m 43 ls []) := by
  have hx := X.1.1
  have hb := X.1.2.1
  intro v0 h0 v1 h1 v2 σ h H locs ls hW hl
  unfold pf_X11_takes_b43 at h
  refine lv_iload_n hx hb dX11_takes_43 rfl (lv_at hl 2 rfl) ?_
  refine lv_aload_n hx hb dX11_takes_44 rfl (lv_at hl 1 rfl) ?_
  refine r_slen X hW h1 m_6_132 (Nat.le_of_ble_eq_true rfl) hl.1 (by decide) dX11_takes_45 ?_
  clear hW; intro H locs hW
  refine lv_icmp_eq (tgt := 53) hx hb dX11_takes_48 (by decide) (fun hc => ?_) (fun hc => ?_)
  · replace h := if_t hc h
    refine lv_iconst (v := 0) hx hb dX11_takes_53 (by decide) ?_
    refine lv_istore_n (lv' := [(3, .int (0)), (0, .ref (gz G + (v0))), (1, .ref (gsK G (v1))), (2, .int (v2))]) hx hb dX11_takes_54 rfl hl (by decide) rfl ?_
    clear hl; intro ls hl
    exact bl_X11_takes_L55 X hret (bl_X11_takes_b87 X hret) FU v0 h0 v1 h1 v2 0 σ h _ _ _ hW (lv_sub hl [1, 2, 3, 0] rfl)
  · replace h := if_f hc h
    refine lv_iconst (v := 0) hx hb dX11_takes_51 (by decide) ?_
    exact rz_end hret h (by decide) dX11_takes_52 hW
set_option maxRecDepth 20000 in
set_option maxHeartbeats 4000000 in
theorem bl_X11_takes_L7 (X : Cx G p R s m args c cells slots cX11_takes 4 RX11 9) {r : Int32} {σ' : St} (hret : R_Z G p l e R s m args below meth c cells slots Q cX11_takes r σ') {k43 : Nat → Nat → Int32 → St → (Option (Int32 × St))}
    (hk43 : ∀ (v0 : Nat) (h0 : kd v0 = 10) (v1 : Nat) (h1 : v1 < 49) (v2 : Int32) (σ : St) (_ : k43 v0 v1 v2 σ = some (r, σ')) (H : Heap) (locs : List Loc) (ls : Array Slot) (_ : GW G σ s H locs) (_ : lv_has ls 4 [(0, .ref (gz G + (v0))), (1, .ref (gsK G (v1))), (2, .int (v2))]), W p l e R s m args below meth c H locs cells slots Q (F0 m 43 ls [])) :
    ∀ (n : Nat), ∀ (v0 : Nat) (h0 : kd v0 = 10) (v1 : Nat) (h1 : v1 < 49) (v2 : Int32) (σ : St) (_ : pf_X11_takes_L7 k43 n v0 v1 v2 σ = some (r, σ')) (H : Heap) (locs : List Loc) (ls : Array Slot) (_ : GW G σ s H locs) (_ : lv_has ls 4 [(0, .ref (gz G + (v0))), (1, .ref (gsK G (v1))), (2, .int (v2))]), W p l e R s m args below meth c H locs cells slots Q (F0 m 7 ls []) := by
  have hx := X.1.1
  have hb := X.1.2.1
  intro n
  induction n with
  | zero => intro v0 h0 v1 h1 v2 σ h H locs ls hW hl; cases h
  | succ n ih =>
    intro v0 h0 v1 h1 v2 σ h H locs ls hW hl
    rw [pf_X11_takes_L7.eq_2] at h
    refine lv_aload_n hx hb dX11_takes_7 rfl (lv_at hl 0 rfl) ?_
    refine gf_X11_at X hW h0 m_6_22 dX11_takes_8 ?_
    refine lv_iload_n hx hb dX11_takes_11 rfl (lv_at hl 2 rfl) ?_
    refine lv_iadd hx hb dX11_takes_12 ?_
    refine lv_aload_n hx hb dX11_takes_13 rfl (lv_at hl 0 rfl) ?_
    refine gf_X11_length X hW h0 m_6_21 dX11_takes_14 ?_
    refine lv_icmp_ge (tgt := 43) hx hb dX11_takes_17 (by decide) (fun hc => ?_) (fun hc => ?_)
    · replace h := if_t hc h
      exact hk43 v0 h0 v1 h1 v2 σ h _ _ _ hW (lv_sub hl [0, 1, 2] rfl)
    · replace h := if_f hc h
      refine lv_aload_n hx hb dX11_takes_20 rfl (lv_at hl 0 rfl) ?_
      refine gf_X11_text X hW h0 m_6_19 dX11_takes_21 ?_
      refine lv_aload_n hx hb dX11_takes_24 rfl (lv_at hl 0 rfl) ?_
      refine gf_X11_at X hW h0 m_6_22 dX11_takes_25 ?_
      refine lv_iload_n hx hb dX11_takes_28 rfl (lv_at hl 2 rfl) ?_
      refine lv_iadd hx hb dX11_takes_29 ?_
      obtain ⟨hi1, h⟩ := ckI_el h
      refine r_iald X hW (kf_X11_text h0) hi1 dX11_takes_30 ?_
      obtain ⟨r_2, hcl, h⟩ := bind_el h
      refine call_S1 X hW m_6_129 m_6_130 mv_X11_isLetter (c_X11_isLetter hcl) (by decide) rfl rfl (Nat.le_of_ble_eq_true rfl) hl.1 dX11_takes_31 ?_
      clear hW hcl; intro H locs hW
      refine lv_if_eq (tgt := 43) hx hb dX11_takes_34 (by decide) (fun hc => ?_) (fun hc => ?_)
      · replace h := if_t hc h
        exact hk43 v0 h0 v1 h1 v2 σ h _ _ _ hW (lv_sub hl [0, 1, 2] rfl)
      · replace h := if_f hc h
        refine w_iinc (v := 1) (lv' := fun y => [(2, .int (y)), (0, .ref (gz G + (v0))), (1, .ref (gsK G (v1)))]) hx hb dX11_takes_37 hl (k := 2) rfl (by decide) (by decide) (fun _ => rfl) h ?_
        clear h hl; intro v2_3 h ls hl
        refine lv_goto (tgt := 7) hx hb dX11_takes_40 (by decide) ?_
        exact ih v0 h0 v1 h1 v2_3 σ h _ _ _ hW (lv_sub hl [1, 2, 0] rfl)
set_option maxRecDepth 20000 in
set_option maxHeartbeats 4000000 in
theorem c_X11_takes {G : Gt} {l : Launch} {v0 : Nat} (h0 : kd v0 = 10) {v1 : Nat} (h1 : v1 < 49) {σ : St} {r : Int32} {σ' : St} (hf : pf_X11_takes v0 v1 σ = some (r, σ')) : Ct G l yX11_takes cX11_takes 4 (some .boolean) 9 [.ref (gz G + (v0)), .ref (gsK G (v1))] σ (some (.int r)) σ' := by
  refine met_z (by decide +kernel) (Nat.le_of_ble_eq_true rfl) rfl ?_
  intro p e s m args below meth c Q ls X hW hret hl
  have hx := X.1.1
  have hb := X.1.2.1
  have hl : lv_has ls 4 [(0, .ref (gz G + (v0))), (1, .ref (gsK G (v1)))] := hl
  have h := hf
  clear hf
  unfold pf_X11_takes at h
  refine lv_aload_n hx hb dX11_takes_0 rfl (lv_at hl 0 rfl) ?_
  obtain ⟨r_1, σ_1, hcl, h⟩ := bnd2_el h
  refine call_V1 X hW (kC_X11 h0) m_6_125 m_6_127 m_0_42 mv_X11_here (c_X11_here h0 hcl) (by decide) rfl rfl (Nat.le_of_ble_eq_true rfl) hl.1 dX11_takes_1 ?_
  clear hW hcl; intro H locs hW
  refine lv_pop hx hb dX11_takes_4 rfl ?_
  refine lv_iconst (v := 0) hx hb dX11_takes_5 (by decide) ?_
  refine lv_istore_n (lv' := [(2, .int (0)), (0, .ref (gz G + (v0))), (1, .ref (gsK G (v1)))]) hx hb dX11_takes_6 rfl hl (by decide) rfl ?_
  clear hl; intro ls hl
  exact bl_X11_takes_L7 X hret (bl_X11_takes_b43 X hret) FU v0 h0 v1 h1 0 σ_1 h _ _ _ hW (lv_sub hl [1, 2, 0] rfl)
set_option maxRecDepth 20000 in
set_option maxHeartbeats 4000000 in
theorem c_X11_sign {G : Gt} {l : Launch} {v0 : Nat} (h0 : kd v0 = 10) {v1 : Int32} {σ : St} {r : Int32} {σ' : St} (hf : pf_X11_sign v0 v1 σ = some (r, σ')) : Ct G l yX11_sign cX11_sign 2 (some .boolean) 3 [.ref (gz G + (v0)), .int (v1)] σ (some (.int r)) σ' := by
  refine met_z (by decide +kernel) (Nat.le_of_ble_eq_true rfl) rfl ?_
  intro p e s m args below meth c Q ls X hW hret hl
  have hx := X.1.1
  have hb := X.1.2.1
  have hl : lv_has ls 2 [(0, .ref (gz G + (v0))), (1, .int (v1))] := hl
  have h := hf
  clear hf
  unfold pf_X11_sign at h
  refine lv_aload_n hx hb dX11_sign_0 rfl (lv_at hl 0 rfl) ?_
  obtain ⟨r_1, σ_1, hcl, h⟩ := bnd2_el h
  refine call_V1 X hW (kC_X11 h0) m_6_125 m_6_127 m_0_42 mv_X11_here (c_X11_here h0 hcl) (by decide) rfl rfl (Nat.le_of_ble_eq_true rfl) hl.1 dX11_sign_1 ?_
  clear hW hcl; intro H locs hW
  refine lv_iload_n hx hb dX11_sign_4 rfl (lv_at hl 1 rfl) ?_
  refine lv_icmp_eq (tgt := 19) hx hb dX11_sign_5 (by decide) (fun hc => ?_) (fun hc => ?_)
  · replace h := if_t hc h
    refine lv_aload_n hx hb dX11_sign_19 rfl (lv_at hl 0 rfl) ?_
    refine lv_dup hx hb dX11_sign_20 rfl ?_
    refine gf_X11_at X hW h0 m_6_22 dX11_sign_21 ?_
    refine lv_iconst (v := 1) hx hb dX11_sign_24 (by decide) ?_
    refine lv_iadd hx hb dX11_sign_25 ?_
    refine sf_X11_at X hW h0 m_6_22 dX11_sign_26 ?_
    clear hW; intro H locs hW
    refine nm_s hW h ?_
    clear hW h; intro σ_2 hW h
    refine lv_iconst (v := 1) hx hb dX11_sign_29 (by decide) ?_
    exact rz_end hret h (by decide) dX11_sign_30 hW
  · replace h := if_f hc h
    refine lv_aload_n hx hb dX11_sign_8 rfl (lv_at hl 0 rfl) ?_
    refine lv_bipush (v := (-2)) hx hb dX11_sign_9 (by decide) ?_
    refine lv_aload_n hx hb dX11_sign_11 rfl (lv_at hl 0 rfl) ?_
    refine gf_X11_at X hW h0 m_6_22 dX11_sign_12 ?_
    obtain ⟨r_3, σ_3, hcl, h⟩ := bnd2_el h
    refine call_V1 X hW (kC_X11 h0) m_6_134 m_6_136 m_0_43 mv_X11_fails (c_X11_fails h0 hcl) (by decide) rfl rfl (Nat.le_of_ble_eq_true rfl) hl.1 dX11_sign_15 ?_
    clear hW hcl; intro H locs hW
    obtain ⟨hz, h⟩ := ckZ_el h
    exact rz_end hret h hz dX11_sign_18 hW
set_option maxRecDepth 20000 in
set_option maxHeartbeats 4000000 in
theorem bl_X11_digits_b97 (X : Cx G p R s m args c cells slots cX11_digits 1 RX11 3) {r : Int32} {σ' : St} (hret : R_Z G p l e R s m args below meth c cells slots Q cX11_digits r σ') {k34 : Nat → St → (Option (Int32 × St))}
    (hk34 : ∀ (v0 : Nat) (h0 : kd v0 = 10) (σ : St) (_ : k34 v0 σ = some (r, σ')) (H : Heap) (locs : List Loc) (ls : Array Slot) (_ : GW G σ s H locs) (_ : lv_has ls 1 [(0, .ref (gz G + (v0)))]), W p l e R s m args below meth c H locs cells slots Q (F0 m 34 ls [])) :
    ∀ (v0 : Nat) (h0 : kd v0 = 10) (s0 : Nat) (hs0 : kd s0 = 10) (s1 : Int32) (σ : St) (_ : pf_X11_digits_b97 k34 v0 s0 s1 σ = some (r, σ')) (H : Heap) (locs : List Loc) (ls : Array Slot) (_ : GW G σ s H locs) (_ : lv_has ls 1 [(0, .ref (gz G + (v0)))]), W p l e R s m args below meth c H locs cells slots Q (F0 m 97 ls [.int (s1), .ref (gz G + (s0))]) := by
  have hx := X.1.1
  have hb := X.1.2.1
  intro v0 h0 s0 hs0 s1 σ h H locs ls hW hl
  unfold pf_X11_digits_b97 at h
  refine sf_X11_number X hW hs0 m_6_25 dX11_digits_97 ?_
  clear hW; intro H locs hW
  refine nm_s hW h ?_
  clear hW h; intro σ_1 hW h
  refine lv_aload_n hx hb dX11_digits_100 rfl (lv_at hl 0 rfl) ?_
  refine lv_dup hx hb dX11_digits_101 rfl ?_
  refine gf_X11_at X hW h0 m_6_22 dX11_digits_102 ?_
  refine lv_iconst (v := 1) hx hb dX11_digits_105 (by decide) ?_
  refine lv_iadd hx hb dX11_digits_106 ?_
  refine sf_X11_at X hW h0 m_6_22 dX11_digits_107 ?_
  clear hW; intro H locs hW
  refine nm_s hW h ?_
  clear hW h; intro σ_2 hW h
  refine lv_goto (tgt := 34) hx hb dX11_digits_110 (by decide) ?_
  exact hk34 v0 h0 σ_2 h _ _ _ hW (lv_sub hl [0] rfl)
set_option maxRecDepth 20000 in
set_option maxHeartbeats 4000000 in
theorem bl_X11_digits_L34 (X : Cx G p R s m args c cells slots cX11_digits 1 RX11 3) {r : Int32} {σ' : St} (hret : R_Z G p l e R s m args below meth c cells slots Q cX11_digits r σ') :
    ∀ (n : Nat), ∀ (v0 : Nat) (h0 : kd v0 = 10) (σ : St) (_ : pf_X11_digits_L34 n v0 σ = some (r, σ')) (H : Heap) (locs : List Loc) (ls : Array Slot) (_ : GW G σ s H locs) (_ : lv_has ls 1 [(0, .ref (gz G + (v0)))]), W p l e R s m args below meth c H locs cells slots Q (F0 m 34 ls []) := by
  have hx := X.1.1
  have hb := X.1.2.1
  intro n
  induction n with
  | zero => intro v0 h0 σ h H locs ls hW hl; cases h
  | succ n ih =>
    intro v0 h0 σ h H locs ls hW hl
    rw [pf_X11_digits_L34.eq_2] at h
    refine lv_aload_n hx hb dX11_digits_34 rfl (lv_at hl 0 rfl) ?_
    refine gf_X11_at X hW h0 m_6_22 dX11_digits_35 ?_
    refine lv_aload_n hx hb dX11_digits_38 rfl (lv_at hl 0 rfl) ?_
    refine gf_X11_length X hW h0 m_6_21 dX11_digits_39 ?_
    refine lv_icmp_ge (tgt := 113) hx hb dX11_digits_42 (by decide) (fun hc => ?_) (fun hc => ?_)
    · replace h := if_t hc h
      refine lv_iconst (v := 1) hx hb dX11_digits_113 (by decide) ?_
      exact rz_end hret h (by decide) dX11_digits_114 hW
    · replace h := if_f hc h
      refine lv_aload_n hx hb dX11_digits_45 rfl (lv_at hl 0 rfl) ?_
      refine gf_X11_text X hW h0 m_6_19 dX11_digits_46 ?_
      refine lv_aload_n hx hb dX11_digits_49 rfl (lv_at hl 0 rfl) ?_
      refine gf_X11_at X hW h0 m_6_22 dX11_digits_50 ?_
      obtain ⟨hi1, h⟩ := ckI_el h
      refine r_iald X hW (kf_X11_text h0) hi1 dX11_digits_53 ?_
      obtain ⟨r_2, hcl, h⟩ := bind_el h
      refine call_S1 X hW m_6_155 m_6_156 mv_X11_isDigit (c_X11_isDigit hcl) (by decide) rfl rfl (Nat.le_of_ble_eq_true rfl) hl.1 dX11_digits_54 ?_
      clear hW hcl; intro H locs hW
      refine lv_if_eq (tgt := 113) hx hb dX11_digits_57 (by decide) (fun hc => ?_) (fun hc => ?_)
      · replace h := if_t hc h
        refine lv_iconst (v := 1) hx hb dX11_digits_113 (by decide) ?_
        exact rz_end hret h (by decide) dX11_digits_114 hW
      · replace h := if_f hc h
        refine lv_aload_n hx hb dX11_digits_60 rfl (lv_at hl 0 rfl) ?_
        refine lv_aload_n hx hb dX11_digits_61 rfl (lv_at hl 0 rfl) ?_
        refine gf_X11_number X hW h0 m_6_25 dX11_digits_62 ?_
        refine lv_ldc (v := 100000) hx hb X.1.2.2.2.1 (X.1.2.2.2.2 _ m_6_158) dX11_digits_65 ?_
        refine lv_icmp_le (tgt := 77) hx hb dX11_digits_67 (by decide) (fun hc => ?_) (fun hc => ?_)
        · replace h := if_t hc h
          refine lv_bipush (v := 10) hx hb dX11_digits_77 (by decide) ?_
          refine lv_aload_n hx hb dX11_digits_79 rfl (lv_at hl 0 rfl) ?_
          refine gf_X11_number X hW h0 m_6_25 dX11_digits_80 ?_
          refine lv_imul hx hb dX11_digits_83 ?_
          refine lv_aload_n hx hb dX11_digits_84 rfl (lv_at hl 0 rfl) ?_
          refine gf_X11_text X hW h0 m_6_19 dX11_digits_85 ?_
          refine lv_aload_n hx hb dX11_digits_88 rfl (lv_at hl 0 rfl) ?_
          refine gf_X11_at X hW h0 m_6_22 dX11_digits_89 ?_
          obtain ⟨hi3, h⟩ := ckI_el h
          refine r_iald X hW (kf_X11_text h0) hi3 dX11_digits_92 ?_
          refine lv_iadd hx hb dX11_digits_93 ?_
          refine lv_bipush (v := 48) hx hb dX11_digits_94 (by decide) ?_
          refine lv_isub hx hb dX11_digits_96 ?_
          exact bl_X11_digits_b97 X hret ih v0 h0 v0 h0 (((10 * (gI σ v0 19)) + (gI σ (v0 + 9) (gI σ v0 16).toNatClampNeg)) - 48) σ h _ _ _ hW (lv_sub hl [0] rfl)
        · replace h := if_f hc h
          refine lv_aload_n hx hb dX11_digits_70 rfl (lv_at hl 0 rfl) ?_
          refine gf_X11_number X hW h0 m_6_25 dX11_digits_71 ?_
          refine lv_goto (tgt := 97) hx hb dX11_digits_74 (by decide) ?_
          exact bl_X11_digits_b97 X hret ih v0 h0 v0 h0 (gI σ v0 19) σ h _ _ _ hW (lv_sub hl [0] rfl)
set_option maxRecDepth 20000 in
set_option maxHeartbeats 4000000 in
theorem c_X11_digits {G : Gt} {l : Launch} {v0 : Nat} (h0 : kd v0 = 10) {σ : St} {r : Int32} {σ' : St} (hf : pf_X11_digits v0 σ = some (r, σ')) : Ct G l yX11_digits cX11_digits 1 (some .boolean) 3 [.ref (gz G + (v0))] σ (some (.int r)) σ' := by
  refine met_z (by decide +kernel) (Nat.le_of_ble_eq_true rfl) rfl ?_
  intro p e s m args below meth c Q ls X hW hret hl
  have hx := X.1.1
  have hb := X.1.2.1
  have hl : lv_has ls 1 [(0, .ref (gz G + (v0)))] := hl
  have h := hf
  clear hf
  unfold pf_X11_digits at h
  refine lv_aload_n hx hb dX11_digits_0 rfl (lv_at hl 0 rfl) ?_
  obtain ⟨r_1, σ_1, hcl, h⟩ := bnd2_el h
  refine call_V1 X hW (kC_X11 h0) m_6_125 m_6_127 m_0_42 mv_X11_here (c_X11_here h0 hcl) (by decide) rfl rfl (Nat.le_of_ble_eq_true rfl) hl.1 dX11_digits_1 ?_
  clear hW hcl; intro H locs hW
  obtain ⟨r_2, hcl, h⟩ := bind_el h
  refine call_S1 X hW m_6_155 m_6_156 mv_X11_isDigit (c_X11_isDigit hcl) (by decide) rfl rfl (Nat.le_of_ble_eq_true rfl) hl.1 dX11_digits_4 ?_
  clear hW hcl; intro H locs hW
  refine lv_if_ne (tgt := 21) hx hb dX11_digits_7 (by decide) (fun hc => ?_) (fun hc => ?_)
  · replace h := if_f hc h
    refine lv_aload_n hx hb dX11_digits_21 rfl (lv_at hl 0 rfl) ?_
    refine lv_aload_n hx hb dX11_digits_22 rfl (lv_at hl 0 rfl) ?_
    refine gf_X11_at X hW h0 m_6_22 dX11_digits_23 ?_
    refine sf_X11_from X hW h0 m_6_26 dX11_digits_26 ?_
    clear hW; intro H locs hW
    refine nm_s hW h ?_
    clear hW h; intro σ_4 hW h
    refine lv_aload_n hx hb dX11_digits_29 rfl (lv_at hl 0 rfl) ?_
    refine lv_iconst (v := 0) hx hb dX11_digits_30 (by decide) ?_
    refine sf_X11_number X hW h0 m_6_25 dX11_digits_31 ?_
    clear hW; intro H locs hW
    refine nm_s hW h ?_
    clear hW h; intro σ_5 hW h
    exact bl_X11_digits_L34 X hret FU v0 h0 σ_5 h _ _ _ hW (lv_sub hl [0] rfl)
  · replace h := if_t hc h
    refine lv_aload_n hx hb dX11_digits_10 rfl (lv_at hl 0 rfl) ?_
    refine lv_bipush (v := (-2)) hx hb dX11_digits_11 (by decide) ?_
    refine lv_aload_n hx hb dX11_digits_13 rfl (lv_at hl 0 rfl) ?_
    refine gf_X11_at X hW h0 m_6_22 dX11_digits_14 ?_
    obtain ⟨r_3, σ_3, hcl, h⟩ := bnd2_el h
    refine call_V1 X hW (kC_X11 h0) m_6_134 m_6_136 m_0_43 mv_X11_fails (c_X11_fails h0 hcl) (by decide) rfl rfl (Nat.le_of_ble_eq_true rfl) hl.1 dX11_digits_17 ?_
    clear hW hcl; intro H locs hW
    obtain ⟨hz, h⟩ := ckZ_el h
    exact rz_end hret h hz dX11_digits_20 hW
set_option maxRecDepth 20000 in
set_option maxHeartbeats 4000000 in
theorem c_X11_reads {G : Gt} {l : Launch} {v0 : Nat} (h0 : kd v0 = 10) {v1 : Int32} {v2 : Int32} {σ : St} {r : Int32} {σ' : St} (hf : pf_X11_reads v0 v1 v2 σ = some (r, σ')) : Ct G l yX11_reads cX11_reads 3 (some .boolean) 4 [.ref (gz G + (v0)), .int (v1), .int (v2)] σ (some (.int r)) σ' := by
  refine met_z (by decide +kernel) (Nat.le_of_ble_eq_true rfl) rfl ?_
  intro p e s m args below meth c Q ls X hW hret hl
  have hx := X.1.1
  have hb := X.1.2.1
  have hl : lv_has ls 3 [(0, .ref (gz G + (v0))), (1, .int (v1)), (2, .int (v2))] := hl
  have h := hf
  clear hf
  unfold pf_X11_reads at h
  refine lv_aload_n hx hb dX11_reads_0 rfl (lv_at hl 0 rfl) ?_
  obtain ⟨r_1, σ_1, hcl, h⟩ := bnd2_el h
  refine call_V1 X hW (kC_X11 h0) m_6_151 m_6_153 m_0_47 mv_X11_digits (c_X11_digits h0 hcl) (by decide) rfl rfl (Nat.le_of_ble_eq_true rfl) hl.1 dX11_reads_1 ?_
  clear hW hcl; intro H locs hW
  refine lv_if_eq (tgt := 36) hx hb dX11_reads_4 (by decide) (fun hc => ?_) (fun hc => ?_)
  · replace h := if_t hc h
    refine lv_iconst (v := 0) hx hb dX11_reads_36 (by decide) ?_
    exact rz_end hret h (by decide) dX11_reads_37 hW
  · replace h := if_f hc h
    refine lv_aload_n hx hb dX11_reads_7 rfl (lv_at hl 0 rfl) ?_
    refine gf_X11_number X hW h0 m_6_25 dX11_reads_8 ?_
    refine lv_iload_n hx hb dX11_reads_11 rfl (lv_at hl 1 rfl) ?_
    refine lv_iload_n hx hb dX11_reads_12 rfl (lv_at hl 2 rfl) ?_
    obtain ⟨r_2, hcl, h⟩ := bind_el h
    refine call_S1 X hW m_6_109 m_6_110 mv_X11_isIn (c_X11_isIn hcl) (by decide) rfl rfl (Nat.le_of_ble_eq_true rfl) hl.1 dX11_reads_13 ?_
    clear hW hcl; intro H locs hW
    refine lv_if_ne (tgt := 32) hx hb dX11_reads_16 (by decide) (fun hc => ?_) (fun hc => ?_)
    · replace h := if_f hc h
      refine lv_iconst (v := 1) hx hb dX11_reads_32 (by decide) ?_
      refine lv_goto (tgt := 37) hx hb dX11_reads_33 (by decide) ?_
      exact rz_end hret h (by decide) dX11_reads_37 hW
    · replace h := if_t hc h
      refine lv_aload_n hx hb dX11_reads_19 rfl (lv_at hl 0 rfl) ?_
      refine lv_bipush (v := (-3)) hx hb dX11_reads_20 (by decide) ?_
      refine lv_aload_n hx hb dX11_reads_22 rfl (lv_at hl 0 rfl) ?_
      refine gf_X11_from X hW h0 m_6_26 dX11_reads_23 ?_
      obtain ⟨r_3, σ_3, hcl, h⟩ := bnd2_el h
      refine call_V1 X hW (kC_X11 h0) m_6_134 m_6_136 m_0_43 mv_X11_fails (c_X11_fails h0 hcl) (by decide) rfl rfl (Nat.le_of_ble_eq_true rfl) hl.1 dX11_reads_26 ?_
      clear hW hcl; intro H locs hW
      refine lv_if_eq (tgt := 36) hx hb dX11_reads_29 (by decide) (fun hc => ?_) (fun hc => ?_)
      · replace h := if_t hc h
        refine lv_iconst (v := 0) hx hb dX11_reads_36 (by decide) ?_
        exact rz_end hret h (by decide) dX11_reads_37 hW
      · replace h := if_f hc h
        refine lv_iconst (v := 1) hx hb dX11_reads_32 (by decide) ?_
        refine lv_goto (tgt := 37) hx hb dX11_reads_33 (by decide) ?_
        exact rz_end hret h (by decide) dX11_reads_37 hW
set_option maxRecDepth 20000 in
set_option maxHeartbeats 4000000 in
theorem c_X11_more {G : Gt} {l : Launch} {v0 : Nat} (h0 : kd v0 = 10) {σ : St} {r : Int32} {σ' : St} (hf : pf_X11_more v0 σ = some (r, σ')) : Ct G l yX11_more cX11_more 1 (some .boolean) 3 [.ref (gz G + (v0))] σ (some (.int r)) σ' := by
  refine met_z (by decide +kernel) (Nat.le_of_ble_eq_true rfl) rfl ?_
  intro p e s m args below meth c Q ls X hW hret hl
  have hx := X.1.1
  have hb := X.1.2.1
  have hl : lv_has ls 1 [(0, .ref (gz G + (v0)))] := hl
  have h := hf
  clear hf
  unfold pf_X11_more at h
  refine lv_aload_n hx hb dX11_more_0 rfl (lv_at hl 0 rfl) ?_
  obtain ⟨r_1, σ_1, hcl, h⟩ := bnd2_el h
  refine call_V1 X hW (kC_X11 h0) m_6_125 m_6_127 m_0_42 mv_X11_here (c_X11_here h0 hcl) (by decide) rfl rfl (Nat.le_of_ble_eq_true rfl) hl.1 dX11_more_1 ?_
  clear hW hcl; intro H locs hW
  obtain ⟨r_2, hcl, h⟩ := bind_el h
  refine call_S1 X hW m_6_155 m_6_156 mv_X11_isDigit (c_X11_isDigit hcl) (by decide) rfl rfl (Nat.le_of_ble_eq_true rfl) hl.1 dX11_more_4 ?_
  clear hW hcl; intro H locs hW
  obtain ⟨hz, h⟩ := ckZ_el h
  exact rz_end hret h hz dX11_more_7 hW
set_option maxRecDepth 20000 in
set_option maxHeartbeats 4000000 in
theorem c_X11_opens {G : Gt} {l : Launch} {v0 : Nat} (h0 : kd v0 = 10) {σ : St} {r : Int32} {σ' : St} (hf : pf_X11_opens v0 σ = some (r, σ')) : Ct G l yX11_opens cX11_opens 1 (some .boolean) 3 [.ref (gz G + (v0))] σ (some (.int r)) σ' := by
  refine met_z (by decide +kernel) (Nat.le_of_ble_eq_true rfl) rfl ?_
  intro p e s m args below meth c Q ls X hW hret hl
  have hx := X.1.1
  have hb := X.1.2.1
  have hl : lv_has ls 1 [(0, .ref (gz G + (v0)))] := hl
  have h := hf
  clear hf
  unfold pf_X11_opens at h
  refine lv_aload_n hx hb dX11_opens_0 rfl (lv_at hl 0 rfl) ?_
  obtain ⟨r_1, σ_1, hcl, h⟩ := bnd2_el h
  refine call_V1 X hW (kC_X11 h0) m_6_125 m_6_127 m_0_42 mv_X11_here (c_X11_here h0 hcl) (by decide) rfl rfl (Nat.le_of_ble_eq_true rfl) hl.1 dX11_opens_1 ?_
  clear hW hcl; intro H locs hW
  refine lv_bipush (v := 40) hx hb dX11_opens_4 (by decide) ?_
  refine lv_icmp_eq (tgt := 20) hx hb dX11_opens_6 (by decide) (fun hc => ?_) (fun hc => ?_)
  · replace h := if_t hc h
    refine lv_aload_n hx hb dX11_opens_20 rfl (lv_at hl 0 rfl) ?_
    refine gf_X11_nested X hW h0 m_6_27 dX11_opens_21 ?_
    refine lv_iconst (v := 4) hx hb dX11_opens_24 (by decide) ?_
    refine lv_icmp_ne (tgt := 39) hx hb dX11_opens_25 (by decide) (fun hc => ?_) (fun hc => ?_)
    · replace h := if_f hc h
      refine lv_aload_n hx hb dX11_opens_39 rfl (lv_at hl 0 rfl) ?_
      refine lv_dup hx hb dX11_opens_40 rfl ?_
      refine gf_X11_nested X hW h0 m_6_27 dX11_opens_41 ?_
      refine lv_iconst (v := 1) hx hb dX11_opens_44 (by decide) ?_
      refine lv_iadd hx hb dX11_opens_45 ?_
      refine sf_X11_nested X hW h0 m_6_27 dX11_opens_46 ?_
      clear hW; intro H locs hW
      refine nm_s hW h ?_
      clear hW h; intro σ_3 hW h
      refine lv_aload_n hx hb dX11_opens_49 rfl (lv_at hl 0 rfl) ?_
      refine lv_dup hx hb dX11_opens_50 rfl ?_
      refine gf_X11_at X hW h0 m_6_22 dX11_opens_51 ?_
      refine lv_iconst (v := 1) hx hb dX11_opens_54 (by decide) ?_
      refine lv_iadd hx hb dX11_opens_55 ?_
      refine sf_X11_at X hW h0 m_6_22 dX11_opens_56 ?_
      clear hW; intro H locs hW
      refine nm_s hW h ?_
      clear hW h; intro σ_4 hW h
      refine lv_iconst (v := 1) hx hb dX11_opens_59 (by decide) ?_
      exact rz_end hret h (by decide) dX11_opens_60 hW
    · replace h := if_t hc h
      refine lv_aload_n hx hb dX11_opens_28 rfl (lv_at hl 0 rfl) ?_
      refine lv_bipush (v := (-6)) hx hb dX11_opens_29 (by decide) ?_
      refine lv_aload_n hx hb dX11_opens_31 rfl (lv_at hl 0 rfl) ?_
      refine gf_X11_at X hW h0 m_6_22 dX11_opens_32 ?_
      obtain ⟨r_2, σ_2, hcl, h⟩ := bnd2_el h
      refine call_V1 X hW (kC_X11 h0) m_6_134 m_6_136 m_0_43 mv_X11_fails (c_X11_fails h0 hcl) (by decide) rfl rfl (Nat.le_of_ble_eq_true rfl) hl.1 dX11_opens_35 ?_
      clear hW hcl; intro H locs hW
      obtain ⟨hz, h⟩ := ckZ_el h
      exact rz_end hret h hz dX11_opens_38 hW
  · replace h := if_f hc h
    refine lv_aload_n hx hb dX11_opens_9 rfl (lv_at hl 0 rfl) ?_
    refine lv_bipush (v := (-2)) hx hb dX11_opens_10 (by decide) ?_
    refine lv_aload_n hx hb dX11_opens_12 rfl (lv_at hl 0 rfl) ?_
    refine gf_X11_at X hW h0 m_6_22 dX11_opens_13 ?_
    obtain ⟨r_5, σ_5, hcl, h⟩ := bnd2_el h
    refine call_V1 X hW (kC_X11 h0) m_6_134 m_6_136 m_0_43 mv_X11_fails (c_X11_fails h0 hcl) (by decide) rfl rfl (Nat.le_of_ble_eq_true rfl) hl.1 dX11_opens_16 ?_
    clear hW hcl; intro H locs hW
    obtain ⟨hz, h⟩ := ckZ_el h
    exact rz_end hret h hz dX11_opens_19 hW
set_option maxRecDepth 20000 in
set_option maxHeartbeats 4000000 in
theorem c_X11_closes {G : Gt} {l : Launch} {v0 : Nat} (h0 : kd v0 = 10) {σ : St} {r : Int32} {σ' : St} (hf : pf_X11_closes v0 σ = some (r, σ')) : Ct G l yX11_closes cX11_closes 1 (some .boolean) 4 [.ref (gz G + (v0))] σ (some (.int r)) σ' := by
  refine met_z (by decide +kernel) (Nat.le_of_ble_eq_true rfl) rfl ?_
  intro p e s m args below meth c Q ls X hW hret hl
  have hx := X.1.1
  have hb := X.1.2.1
  have hl : lv_has ls 1 [(0, .ref (gz G + (v0)))] := hl
  have h := hf
  clear hf
  unfold pf_X11_closes at h
  refine lv_aload_n hx hb dX11_closes_0 rfl (lv_at hl 0 rfl) ?_
  refine lv_bipush (v := 41) hx hb dX11_closes_1 (by decide) ?_
  obtain ⟨r_1, σ_1, hcl, h⟩ := bnd2_el h
  refine call_V1 X hW (kC_X11 h0) m_6_138 m_6_140 m_0_44 mv_X11_sign (c_X11_sign h0 hcl) (by decide) rfl rfl (Nat.le_of_ble_eq_true rfl) hl.1 dX11_closes_3 ?_
  clear hW hcl; intro H locs hW
  refine lv_if_ne (tgt := 11) hx hb dX11_closes_6 (by decide) (fun hc => ?_) (fun hc => ?_)
  · replace h := if_f hc h
    refine lv_aload_n hx hb dX11_closes_11 rfl (lv_at hl 0 rfl) ?_
    refine lv_dup hx hb dX11_closes_12 rfl ?_
    refine gf_X11_nested X hW h0 m_6_27 dX11_closes_13 ?_
    refine lv_iconst (v := 1) hx hb dX11_closes_16 (by decide) ?_
    refine lv_isub hx hb dX11_closes_17 ?_
    refine sf_X11_nested X hW h0 m_6_27 dX11_closes_18 ?_
    clear hW; intro H locs hW
    refine nm_s hW h ?_
    clear hW h; intro σ_2 hW h
    refine lv_iconst (v := 1) hx hb dX11_closes_21 (by decide) ?_
    exact rz_end hret h (by decide) dX11_closes_22 hW
  · replace h := if_t hc h
    refine lv_iconst (v := 0) hx hb dX11_closes_9 (by decide) ?_
    exact rz_end hret h (by decide) dX11_closes_10 hW
set_option maxRecDepth 20000 in
set_option maxHeartbeats 4000000 in
theorem c_X11_emits {G : Gt} {l : Launch} {v0 : Nat} (h0 : kd v0 = 10) {v1 : Int32} {v2 : Int32} {σ : St} {σ' : St} (hf : pf_X11_emits v0 v1 v2 σ = some σ') : Ct G l yX11_emits cX11_emits 4 none 2 [.ref (gz G + (v0)), .int (v1), .int (v2)] σ none σ' := by
  refine met_v (by decide +kernel) (Nat.le_of_ble_eq_true rfl) rfl ?_
  intro p e s m args below meth c Q ls X hW hret hl
  have hx := X.1.1
  have hb := X.1.2.1
  have hl : lv_has ls 4 [(0, .ref (gz G + (v0))), (1, .int (v1)), (2, .int (v2))] := hl
  have h := hf
  clear hf
  unfold pf_X11_emits at h
  refine lv_sipush (v := 1169) hx hb dX11_emits_0 (by decide) ?_
  refine lv_iconst (v := 2) hx hb dX11_emits_3 (by decide) ?_
  refine lv_aload_n hx hb dX11_emits_4 rfl (lv_at hl 0 rfl) ?_
  refine gf_X11_read X hW h0 m_6_8 dX11_emits_5 ?_
  refine lv_iconst (v := 3) hx hb dX11_emits_8 (by decide) ?_
  obtain ⟨hi1, h⟩ := ckI_el h
  refine r_iald X hW (kf_X11_read h0) hi1 dX11_emits_9 ?_
  refine lv_imul hx hb dX11_emits_10 ?_
  refine lv_iadd hx hb dX11_emits_11 ?_
  refine nm_i h ?_
  clear h; intro v3_2 h
  refine lv_istore_n (lv' := [(3, .int (v3_2)), (0, .ref (gz G + (v0))), (1, .int (v1)), (2, .int (v2))]) hx hb dX11_emits_12 rfl hl (by decide) rfl ?_
  clear hl; intro ls hl
  refine lv_aload_n hx hb dX11_emits_13 rfl (lv_at hl 1 rfl) ?_
  refine gf_X11_read X hW h0 m_6_8 dX11_emits_14 ?_
  refine lv_iload_n hx hb dX11_emits_17 rfl (lv_at hl 0 rfl) ?_
  refine lv_iload_n hx hb dX11_emits_18 rfl (lv_at hl 2 rfl) ?_
  obtain ⟨hi3, h⟩ := ckI_el h
  refine r_iast X hW (kf_X11_read h0) hi3 dX11_emits_19 ?_
  clear hW; intro H locs hW
  refine nm_s hW h ?_
  clear hW h; intro σ_4 hW h
  refine lv_aload_n hx hb dX11_emits_20 rfl (lv_at hl 1 rfl) ?_
  refine gf_X11_read X hW h0 m_6_8 dX11_emits_21 ?_
  refine lv_iload_n hx hb dX11_emits_24 rfl (lv_at hl 0 rfl) ?_
  refine lv_iconst (v := 1) hx hb dX11_emits_25 (by decide) ?_
  refine lv_iadd hx hb dX11_emits_26 ?_
  refine lv_iload_n hx hb dX11_emits_27 rfl (lv_at hl 3 rfl) ?_
  obtain ⟨hi5, h⟩ := ckI_el h
  refine r_iast X hW (kf_X11_read h0) hi5 dX11_emits_28 ?_
  clear hW; intro H locs hW
  refine nm_s hW h ?_
  clear hW h; intro σ_6 hW h
  refine lv_aload_n hx hb dX11_emits_29 rfl (lv_at hl 1 rfl) ?_
  refine gf_X11_read X hW h0 m_6_8 dX11_emits_30 ?_
  refine lv_iconst (v := 3) hx hb dX11_emits_33 (by decide) ?_
  refine lv_dup2_11 hx hb dX11_emits_34 rfl rfl ?_
  obtain ⟨hi7, h⟩ := ckI_el h
  refine r_iald X hW (kf_X11_read h0) hi7 dX11_emits_35 ?_
  refine lv_iconst (v := 1) hx hb dX11_emits_36 (by decide) ?_
  refine lv_iadd hx hb dX11_emits_37 ?_
  obtain ⟨hi8, h⟩ := ckI_el h
  refine r_iast X hW (kf_X11_read h0) hi8 dX11_emits_38 ?_
  clear hW; intro H locs hW
  refine nm_s hW h ?_
  clear hW h; intro σ_9 hW h
  exact rv_end hret h dX11_emits_39 hW
set_option maxRecDepth 20000 in
set_option maxHeartbeats 4000000 in
theorem c_X11_variable {G : Gt} {l : Launch} {v0 : Nat} (h0 : kd v0 = 10) {σ : St} {r : Int32} {σ' : St} (hf : pf_X11_variable v0 σ = some (r, σ')) : Ct G l yX11_variable cX11_variable 1 (some .int) 10 [.ref (gz G + (v0))] σ (some (.int r)) σ' := by
  refine met_i (by decide +kernel) (Nat.le_of_ble_eq_true rfl) rfl ?_
  intro p e s m args below meth c Q ls X hW hret hl
  have hx := X.1.1
  have hb := X.1.2.1
  have hl : lv_has ls 1 [(0, .ref (gz G + (v0)))] := hl
  have h := hf
  clear hf
  unfold pf_X11_variable at h
  refine lv_aload_n hx hb dX11_variable_0 rfl (lv_at hl 0 rfl) ?_
  refine r_ldcS (k := 29) (tx := "") X hW (by decide) rfl rfl dX11_variable_1 ?_
  obtain ⟨r_1, σ_1, hcl, h⟩ := bnd2_el h
  refine call_V1 X hW (kC_X11 h0) m_6_121 m_6_123 m_0_41 mv_X11_takes (c_X11_takes h0 (by decide) hcl) (by decide) rfl rfl (Nat.le_of_ble_eq_true rfl) hl.1 dX11_variable_3 ?_
  clear hW hcl; intro H locs hW
  refine lv_if_eq (tgt := 13) hx hb dX11_variable_6 (by decide) (fun hc => ?_) (fun hc => ?_)
  · replace h := if_t hc h
    refine lv_aload_n hx hb dX11_variable_13 rfl (lv_at hl 0 rfl) ?_
    refine r_ldcS (k := 30) (tx := "") X hW (by decide) rfl rfl dX11_variable_14 ?_
    obtain ⟨r_2, σ_2, hcl, h⟩ := bnd2_el h
    refine call_V1 X hW (kC_X11 h0) m_6_121 m_6_123 m_0_41 mv_X11_takes (c_X11_takes h0 (by decide) hcl) (by decide) rfl rfl (Nat.le_of_ble_eq_true rfl) hl.1 dX11_variable_16 ?_
    clear hW hcl; intro H locs hW
    refine lv_if_eq (tgt := 26) hx hb dX11_variable_19 (by decide) (fun hc => ?_) (fun hc => ?_)
    · replace h := if_t hc h
      refine lv_aload_n hx hb dX11_variable_26 rfl (lv_at hl 0 rfl) ?_
      refine r_ldcS (k := 31) (tx := "") X hW (by decide) rfl rfl dX11_variable_27 ?_
      obtain ⟨r_3, σ_3, hcl, h⟩ := bnd2_el h
      refine call_V1 X hW (kC_X11 h0) m_6_121 m_6_123 m_0_41 mv_X11_takes (c_X11_takes h0 (by decide) hcl) (by decide) rfl rfl (Nat.le_of_ble_eq_true rfl) hl.1 dX11_variable_29 ?_
      clear hW hcl; intro H locs hW
      refine lv_if_eq (tgt := 39) hx hb dX11_variable_32 (by decide) (fun hc => ?_) (fun hc => ?_)
      · replace h := if_t hc h
        refine lv_aload_n hx hb dX11_variable_39 rfl (lv_at hl 0 rfl) ?_
        refine r_ldcS (k := 32) (tx := "") X hW (by decide) rfl rfl dX11_variable_40 ?_
        obtain ⟨r_4, σ_4, hcl, h⟩ := bnd2_el h
        refine call_V1 X hW (kC_X11 h0) m_6_121 m_6_123 m_0_41 mv_X11_takes (c_X11_takes h0 (by decide) hcl) (by decide) rfl rfl (Nat.le_of_ble_eq_true rfl) hl.1 dX11_variable_42 ?_
        clear hW hcl; intro H locs hW
        refine lv_if_eq (tgt := 52) hx hb dX11_variable_45 (by decide) (fun hc => ?_) (fun hc => ?_)
        · replace h := if_t hc h
          refine lv_aload_n hx hb dX11_variable_52 rfl (lv_at hl 0 rfl) ?_
          refine r_ldcS (k := 33) (tx := "") X hW (by decide) rfl rfl dX11_variable_53 ?_
          obtain ⟨r_5, σ_5, hcl, h⟩ := bnd2_el h
          refine call_V1 X hW (kC_X11 h0) m_6_121 m_6_123 m_0_41 mv_X11_takes (c_X11_takes h0 (by decide) hcl) (by decide) rfl rfl (Nat.le_of_ble_eq_true rfl) hl.1 dX11_variable_55 ?_
          clear hW hcl; intro H locs hW
          refine lv_if_eq (tgt := 65) hx hb dX11_variable_58 (by decide) (fun hc => ?_) (fun hc => ?_)
          · replace h := if_t hc h
            refine lv_aload_n hx hb dX11_variable_65 rfl (lv_at hl 0 rfl) ?_
            refine r_ldcS (k := 34) (tx := "") X hW (by decide) rfl rfl dX11_variable_66 ?_
            obtain ⟨r_6, σ_6, hcl, h⟩ := bnd2_el h
            refine call_V1 X hW (kC_X11 h0) m_6_121 m_6_123 m_0_41 mv_X11_takes (c_X11_takes h0 (by decide) hcl) (by decide) rfl rfl (Nat.le_of_ble_eq_true rfl) hl.1 dX11_variable_68 ?_
            clear hW hcl; intro H locs hW
            refine lv_if_eq (tgt := 78) hx hb dX11_variable_71 (by decide) (fun hc => ?_) (fun hc => ?_)
            · replace h := if_t hc h
              refine lv_iconst (v := (-1)) hx hb dX11_variable_78 (by decide) ?_
              exact ri_end hret h dX11_variable_79 hW
            · replace h := if_f hc h
              refine lv_iconst (v := 5) hx hb dX11_variable_74 (by decide) ?_
              refine lv_goto (tgt := 79) hx hb dX11_variable_75 (by decide) ?_
              exact ri_end hret h dX11_variable_79 hW
          · replace h := if_f hc h
            refine lv_iconst (v := 4) hx hb dX11_variable_61 (by decide) ?_
            refine lv_goto (tgt := 79) hx hb dX11_variable_62 (by decide) ?_
            exact ri_end hret h dX11_variable_79 hW
        · replace h := if_f hc h
          refine lv_iconst (v := 3) hx hb dX11_variable_48 (by decide) ?_
          refine lv_goto (tgt := 79) hx hb dX11_variable_49 (by decide) ?_
          exact ri_end hret h dX11_variable_79 hW
      · replace h := if_f hc h
        refine lv_iconst (v := 2) hx hb dX11_variable_35 (by decide) ?_
        refine lv_goto (tgt := 79) hx hb dX11_variable_36 (by decide) ?_
        exact ri_end hret h dX11_variable_79 hW
    · replace h := if_f hc h
      refine lv_iconst (v := 1) hx hb dX11_variable_22 (by decide) ?_
      refine lv_goto (tgt := 79) hx hb dX11_variable_23 (by decide) ?_
      exact ri_end hret h dX11_variable_79 hW
  · replace h := if_f hc h
    refine lv_iconst (v := 0) hx hb dX11_variable_9 (by decide) ?_
    refine lv_goto (tgt := 79) hx hb dX11_variable_10 (by decide) ?_
    exact ri_end hret h dX11_variable_79 hW
set_option maxRecDepth 20000 in
set_option maxHeartbeats 4000000 in
theorem c_X11_readsFactor {G : Gt} {l : Launch} {rc : Nat → St → Option (Int32 × St)} {hr : Nat} (hB : 11 ≤ hr) (hrc : ∀ {a0 : Nat} (_ : kd a0 = 10) {τ : St} {w : Int32} {τ' : St} (_ : rc a0 τ = some (w, τ')), Ct G l yX11_readsSum cX11_readsSum 2 (some .boolean) hr [.ref (gz G + a0)] τ (some (.int w)) τ') {v0 : Nat} (h0 : kd v0 = 10) {σ : St} {r : Int32} {σ' : St} (hf : pf_X11_readsFactor rc v0 σ = some (r, σ')) : Ct G l yX11_readsFactor cX11_readsFactor 2 (some .boolean) (hr + 1) [.ref (gz G + (v0))] σ (some (.int r)) σ' := by
  refine met_z (by decide +kernel) (Nat.le_of_ble_eq_true rfl) rfl ?_
  intro p e s m args below meth c Q ls X hW hret hl
  have hx := X.1.1
  have hb := X.1.2.1
  have hl : lv_has ls 2 [(0, .ref (gz G + (v0)))] := hl
  have h := hf
  clear hf
  unfold pf_X11_readsFactor at h
  refine lv_aload_n hx hb dX11_readsFactor_0 rfl (lv_at hl 0 rfl) ?_
  obtain ⟨r_1, σ_1, hcl, h⟩ := bnd2_el h
  refine call_V1 X hW (kC_X11 h0) m_6_125 m_6_127 m_0_42 mv_X11_here (c_X11_here h0 hcl) (by omega) rfl rfl (Nat.le_of_ble_eq_true rfl) hl.1 dX11_readsFactor_1 ?_
  clear hW hcl; intro H locs hW
  refine lv_bipush (v := 40) hx hb dX11_readsFactor_4 (by decide) ?_
  refine lv_icmp_ne (tgt := 36) hx hb dX11_readsFactor_6 (by decide) (fun hc => ?_) (fun hc => ?_)
  · replace h := if_f hc h
    refine lv_aload_n hx hb dX11_readsFactor_36 rfl (lv_at hl 0 rfl) ?_
    obtain ⟨r_5, σ_5, hcl, h⟩ := bnd2_el h
    refine call_V1 X hW (kC_X11 h0) m_6_159 m_6_161 m_0_48 mv_X11_more (c_X11_more h0 hcl) (by omega) rfl rfl (Nat.le_of_ble_eq_true rfl) hl.1 dX11_readsFactor_37 ?_
    clear hW hcl; intro H locs hW
    refine lv_if_eq (tgt := 67) hx hb dX11_readsFactor_40 (by decide) (fun hc => ?_) (fun hc => ?_)
    · replace h := if_t hc h
      refine lv_aload_n hx hb dX11_readsFactor_67 rfl (lv_at hl 0 rfl) ?_
      obtain ⟨r_6, σ_6, hcl, h⟩ := bnd2_el h
      refine call_V1 X hW (kC_X11 h0) m_7_4 m_7_6 m_0_66 mv_X11_variable (c_X11_variable h0 hcl) (by omega) rfl rfl (Nat.le_of_ble_eq_true rfl) hl.1 dX11_readsFactor_68 ?_
      clear hW hcl; intro H locs hW
      refine lv_istore_n (lv' := [(1, .int (r_6)), (0, .ref (gz G + (v0)))]) hx hb dX11_readsFactor_71 rfl hl (by decide) rfl ?_
      clear hl; intro ls hl
      refine lv_iload_n hx hb dX11_readsFactor_72 rfl (lv_at hl 0 rfl) ?_
      refine lv_iconst (v := (-1)) hx hb dX11_readsFactor_73 (by decide) ?_
      refine lv_icmp_ne (tgt := 88) hx hb dX11_readsFactor_74 (by decide) (fun hc => ?_) (fun hc => ?_)
      · replace h := if_f hc h
        refine lv_aload_n hx hb dX11_readsFactor_88 rfl (lv_at hl 1 rfl) ?_
        refine lv_iconst (v := 1) hx hb dX11_readsFactor_89 (by decide) ?_
        refine lv_iload_n hx hb dX11_readsFactor_90 rfl (lv_at hl 0 rfl) ?_
        obtain ⟨σ_8, hcl, h⟩ := bind_el h
        refine call_V0 X hW (kC_X11 h0) m_7_0 m_7_2 m_0_65 mv_X11_emits (c_X11_emits h0 hcl) (by omega) rfl rfl (Nat.le_of_ble_eq_true rfl) hl.1 dX11_readsFactor_91 ?_
        clear hW hcl; intro H locs hW
        refine lv_iconst (v := 1) hx hb dX11_readsFactor_94 (by decide) ?_
        exact rz_end hret h (by decide) dX11_readsFactor_95 hW
      · replace h := if_t hc h
        refine lv_aload_n hx hb dX11_readsFactor_77 rfl (lv_at hl 1 rfl) ?_
        refine lv_bipush (v := (-2)) hx hb dX11_readsFactor_78 (by decide) ?_
        refine lv_aload_n hx hb dX11_readsFactor_80 rfl (lv_at hl 1 rfl) ?_
        refine gf_X11_at X hW h0 m_6_22 dX11_readsFactor_81 ?_
        obtain ⟨r_7, σ_7, hcl, h⟩ := bnd2_el h
        refine call_V1 X hW (kC_X11 h0) m_6_134 m_6_136 m_0_43 mv_X11_fails (c_X11_fails h0 hcl) (by omega) rfl rfl (Nat.le_of_ble_eq_true rfl) hl.1 dX11_readsFactor_84 ?_
        clear hW hcl; intro H locs hW
        obtain ⟨hz, h⟩ := ckZ_el h
        exact rz_end hret h hz dX11_readsFactor_87 hW
    · replace h := if_f hc h
      refine lv_aload_n hx hb dX11_readsFactor_43 rfl (lv_at hl 0 rfl) ?_
      refine lv_iconst (v := 0) hx hb dX11_readsFactor_44 (by decide) ?_
      refine lv_sipush (v := 9999) hx hb dX11_readsFactor_45 (by decide) ?_
      obtain ⟨r_9, σ_9, hcl, h⟩ := bnd2_el h
      refine call_V1 X hW (kC_X11 h0) m_6_147 m_6_149 m_0_46 mv_X11_reads (c_X11_reads h0 hcl) (by omega) rfl rfl (Nat.le_of_ble_eq_true rfl) hl.1 dX11_readsFactor_48 ?_
      clear hW hcl; intro H locs hW
      refine lv_if_ne (tgt := 56) hx hb dX11_readsFactor_51 (by decide) (fun hc => ?_) (fun hc => ?_)
      · replace h := if_f hc h
        refine lv_aload_n hx hb dX11_readsFactor_56 rfl (lv_at hl 0 rfl) ?_
        refine lv_iconst (v := 0) hx hb dX11_readsFactor_57 (by decide) ?_
        refine lv_aload_n hx hb dX11_readsFactor_58 rfl (lv_at hl 0 rfl) ?_
        refine gf_X11_number X hW h0 m_6_25 dX11_readsFactor_59 ?_
        obtain ⟨σ_10, hcl, h⟩ := bind_el h
        refine call_V0 X hW (kC_X11 h0) m_7_0 m_7_2 m_0_65 mv_X11_emits (c_X11_emits h0 hcl) (by omega) rfl rfl (Nat.le_of_ble_eq_true rfl) hl.1 dX11_readsFactor_62 ?_
        clear hW hcl; intro H locs hW
        refine lv_iconst (v := 1) hx hb dX11_readsFactor_65 (by decide) ?_
        exact rz_end hret h (by decide) dX11_readsFactor_66 hW
      · replace h := if_t hc h
        refine lv_iconst (v := 0) hx hb dX11_readsFactor_54 (by decide) ?_
        exact rz_end hret h (by decide) dX11_readsFactor_55 hW
  · replace h := if_t hc h
    refine lv_aload_n hx hb dX11_readsFactor_9 rfl (lv_at hl 0 rfl) ?_
    obtain ⟨r_2, σ_2, hcl, h⟩ := bnd2_el h
    refine call_V1 X hW (kC_X11 h0) m_6_203 m_6_205 m_0_57 mv_X11_opens (c_X11_opens h0 hcl) (by omega) rfl rfl (Nat.le_of_ble_eq_true rfl) hl.1 dX11_readsFactor_10 ?_
    clear hW hcl; intro H locs hW
    refine lv_if_eq (tgt := 34) hx hb dX11_readsFactor_13 (by decide) (fun hc => ?_) (fun hc => ?_)
    · replace h := if_t hc h
      refine lv_iconst (v := 0) hx hb dX11_readsFactor_34 (by decide) ?_
      exact rz_end hret h (by decide) dX11_readsFactor_35 hW
    · replace h := if_f hc h
      refine lv_aload_n hx hb dX11_readsFactor_16 rfl (lv_at hl 0 rfl) ?_
      obtain ⟨r_3, σ_3, hcl, h⟩ := bnd2_el h
      refine call_V1 X hW (kC_X11 h0) m_6_228 m_6_230 m_0_62 mv_X11_readsSum (hrc h0 hcl) (by omega) rfl rfl (Nat.le_of_ble_eq_true rfl) hl.1 dX11_readsFactor_17 ?_
      clear hW hcl; intro H locs hW
      refine lv_if_eq (tgt := 34) hx hb dX11_readsFactor_20 (by decide) (fun hc => ?_) (fun hc => ?_)
      · replace h := if_t hc h
        refine lv_iconst (v := 0) hx hb dX11_readsFactor_34 (by decide) ?_
        exact rz_end hret h (by decide) dX11_readsFactor_35 hW
      · replace h := if_f hc h
        refine lv_aload_n hx hb dX11_readsFactor_23 rfl (lv_at hl 0 rfl) ?_
        obtain ⟨r_4, σ_4, hcl, h⟩ := bnd2_el h
        refine call_V1 X hW (kC_X11 h0) m_6_207 m_6_209 m_0_58 mv_X11_closes (c_X11_closes h0 hcl) (by omega) rfl rfl (Nat.le_of_ble_eq_true rfl) hl.1 dX11_readsFactor_24 ?_
        clear hW hcl; intro H locs hW
        refine lv_if_eq (tgt := 34) hx hb dX11_readsFactor_27 (by decide) (fun hc => ?_) (fun hc => ?_)
        · replace h := if_t hc h
          refine lv_iconst (v := 0) hx hb dX11_readsFactor_34 (by decide) ?_
          exact rz_end hret h (by decide) dX11_readsFactor_35 hW
        · replace h := if_f hc h
          refine lv_iconst (v := 1) hx hb dX11_readsFactor_30 (by decide) ?_
          refine lv_goto (tgt := 35) hx hb dX11_readsFactor_31 (by decide) ?_
          exact rz_end hret h (by decide) dX11_readsFactor_35 hW
set_option maxRecDepth 20000 in
set_option maxHeartbeats 4000000 in
theorem bl_X11_readsTerm_b41 {rc : Nat → St → Option (Int32 × St)} {hr : Nat} (hB : 11 ≤ hr) (hrc : ∀ {a0 : Nat} (_ : kd a0 = 10) {τ : St} {w : Int32} {τ' : St} (_ : rc a0 τ = some (w, τ')), Ct G l yX11_readsSum cX11_readsSum 2 (some .boolean) hr [.ref (gz G + a0)] τ (some (.int w)) τ') (X : Cx G p R s m args c cells slots cX11_readsTerm 2 RX11 (hr + 2)) {r : Int32} {σ' : St} (hret : R_Z G p l e R s m args below meth c cells slots Q cX11_readsTerm r σ') {k9 : Nat → St → (Option (Int32 × St))}
    (hk9 : ∀ (v0 : Nat) (h0 : kd v0 = 10) (σ : St) (_ : k9 v0 σ = some (r, σ')) (H : Heap) (locs : List Loc) (ls : Array Slot) (_ : GW G σ s H locs) (_ : lv_has ls 2 [(0, .ref (gz G + (v0)))]), W p l e R s m args below meth c H locs cells slots Q (F0 m 9 ls [])) :
    ∀ (v0 : Nat) (h0 : kd v0 = 10) (s0 : Int32) (σ : St) (_ : pf_X11_readsTerm_b41 rc k9 v0 s0 σ = some (r, σ')) (H : Heap) (locs : List Loc) (ls : Array Slot) (_ : GW G σ s H locs) (_ : lv_has ls 2 [(0, .ref (gz G + (v0)))]), W p l e R s m args below meth c H locs cells slots Q (F0 m 41 ls [.int (s0)]) := by
  have hx := X.1.1
  have hb := X.1.2.1
  intro v0 h0 s0 σ h H locs ls hW hl
  unfold pf_X11_readsTerm_b41 at h
  refine lv_istore_n (lv' := [(1, .int (s0)), (0, .ref (gz G + (v0)))]) hx hb dX11_readsTerm_41 rfl hl (by decide) rfl ?_
  clear hl; intro ls hl
  refine lv_aload_n hx hb dX11_readsTerm_42 rfl (lv_at hl 1 rfl) ?_
  refine lv_dup hx hb dX11_readsTerm_43 rfl ?_
  refine gf_X11_at X hW h0 m_6_22 dX11_readsTerm_44 ?_
  refine lv_iconst (v := 1) hx hb dX11_readsTerm_47 (by decide) ?_
  refine lv_iadd hx hb dX11_readsTerm_48 ?_
  refine sf_X11_at X hW h0 m_6_22 dX11_readsTerm_49 ?_
  clear hW; intro H locs hW
  refine nm_s hW h ?_
  clear hW h; intro σ_1 hW h
  refine lv_aload_n hx hb dX11_readsTerm_52 rfl (lv_at hl 1 rfl) ?_
  obtain ⟨r_2, σ_2, hcl, h⟩ := bnd2_el h
  refine call_V1 X hW (kC_X11 h0) m_6_236 m_6_238 m_0_64 mv_X11_readsFactor (c_X11_readsFactor hB hrc h0 hcl) (by omega) rfl rfl (Nat.le_of_ble_eq_true rfl) hl.1 dX11_readsTerm_53 ?_
  clear hW hcl; intro H locs hW
  refine lv_if_ne (tgt := 61) hx hb dX11_readsTerm_56 (by decide) (fun hc => ?_) (fun hc => ?_)
  · replace h := if_f hc h
    refine lv_aload_n hx hb dX11_readsTerm_61 rfl (lv_at hl 1 rfl) ?_
    refine lv_iload_n hx hb dX11_readsTerm_62 rfl (lv_at hl 0 rfl) ?_
    refine lv_iconst (v := 0) hx hb dX11_readsTerm_63 (by decide) ?_
    obtain ⟨σ_3, hcl, h⟩ := bind_el h
    refine call_V0 X hW (kC_X11 h0) m_7_0 m_7_2 m_0_65 mv_X11_emits (c_X11_emits h0 hcl) (by omega) rfl rfl (Nat.le_of_ble_eq_true rfl) hl.1 dX11_readsTerm_64 ?_
    clear hW hcl; intro H locs hW
    refine lv_goto (tgt := 9) hx hb dX11_readsTerm_67 (by decide) ?_
    exact hk9 v0 h0 σ_3 h _ _ _ hW (lv_sub hl [1] rfl)
  · replace h := if_t hc h
    refine lv_iconst (v := 0) hx hb dX11_readsTerm_59 (by decide) ?_
    exact rz_end hret h (by decide) dX11_readsTerm_60 hW
set_option maxRecDepth 20000 in
set_option maxHeartbeats 4000000 in
theorem bl_X11_readsTerm_b27 {rc : Nat → St → Option (Int32 × St)} {hr : Nat} (hB : 11 ≤ hr) (hrc : ∀ {a0 : Nat} (_ : kd a0 = 10) {τ : St} {w : Int32} {τ' : St} (_ : rc a0 τ = some (w, τ')), Ct G l yX11_readsSum cX11_readsSum 2 (some .boolean) hr [.ref (gz G + a0)] τ (some (.int w)) τ') (X : Cx G p R s m args c cells slots cX11_readsTerm 2 RX11 (hr + 2)) {r : Int32} {σ' : St} (hret : R_Z G p l e R s m args below meth c cells slots Q cX11_readsTerm r σ') {k9 : Nat → St → (Option (Int32 × St))}
    (hk9 : ∀ (v0 : Nat) (h0 : kd v0 = 10) (σ : St) (_ : k9 v0 σ = some (r, σ')) (H : Heap) (locs : List Loc) (ls : Array Slot) (_ : GW G σ s H locs) (_ : lv_has ls 2 [(0, .ref (gz G + (v0)))]), W p l e R s m args below meth c H locs cells slots Q (F0 m 9 ls [])) :
    ∀ (v0 : Nat) (h0 : kd v0 = 10) (σ : St) (_ : pf_X11_readsTerm_b27 rc k9 v0 σ = some (r, σ')) (H : Heap) (locs : List Loc) (ls : Array Slot) (_ : GW G σ s H locs) (_ : lv_has ls 2 [(0, .ref (gz G + (v0)))]), W p l e R s m args below meth c H locs cells slots Q (F0 m 27 ls []) := by
  have hx := X.1.1
  have hb := X.1.2.1
  intro v0 h0 σ h H locs ls hW hl
  unfold pf_X11_readsTerm_b27 at h
  refine lv_aload_n hx hb dX11_readsTerm_27 rfl (lv_at hl 0 rfl) ?_
  obtain ⟨r_1, σ_1, hcl, h⟩ := bnd2_el h
  refine call_V1 X hW (kC_X11 h0) m_6_125 m_6_127 m_0_42 mv_X11_here (c_X11_here h0 hcl) (by omega) rfl rfl (Nat.le_of_ble_eq_true rfl) hl.1 dX11_readsTerm_28 ?_
  clear hW hcl; intro H locs hW
  refine lv_bipush (v := 42) hx hb dX11_readsTerm_31 (by decide) ?_
  refine lv_icmp_ne (tgt := 40) hx hb dX11_readsTerm_33 (by decide) (fun hc => ?_) (fun hc => ?_)
  · replace h := if_f hc h
    refine lv_iconst (v := 5) hx hb dX11_readsTerm_40 (by decide) ?_
    exact bl_X11_readsTerm_b41 hB hrc X hret hk9 v0 h0 5 σ_1 h _ _ _ hW (lv_sub hl [0] rfl)
  · replace h := if_t hc h
    refine lv_iconst (v := 4) hx hb dX11_readsTerm_36 (by decide) ?_
    refine lv_goto (tgt := 41) hx hb dX11_readsTerm_37 (by decide) ?_
    exact bl_X11_readsTerm_b41 hB hrc X hret hk9 v0 h0 4 σ_1 h _ _ _ hW (lv_sub hl [0] rfl)
set_option maxRecDepth 20000 in
set_option maxHeartbeats 4000000 in
theorem bl_X11_readsTerm_L9 {rc : Nat → St → Option (Int32 × St)} {hr : Nat} (hB : 11 ≤ hr) (hrc : ∀ {a0 : Nat} (_ : kd a0 = 10) {τ : St} {w : Int32} {τ' : St} (_ : rc a0 τ = some (w, τ')), Ct G l yX11_readsSum cX11_readsSum 2 (some .boolean) hr [.ref (gz G + a0)] τ (some (.int w)) τ') (X : Cx G p R s m args c cells slots cX11_readsTerm 2 RX11 (hr + 2)) {r : Int32} {σ' : St} (hret : R_Z G p l e R s m args below meth c cells slots Q cX11_readsTerm r σ') :
    ∀ (n : Nat), ∀ (v0 : Nat) (h0 : kd v0 = 10) (σ : St) (_ : pf_X11_readsTerm_L9 rc n v0 σ = some (r, σ')) (H : Heap) (locs : List Loc) (ls : Array Slot) (_ : GW G σ s H locs) (_ : lv_has ls 2 [(0, .ref (gz G + (v0)))]), W p l e R s m args below meth c H locs cells slots Q (F0 m 9 ls []) := by
  have hx := X.1.1
  have hb := X.1.2.1
  intro n
  induction n with
  | zero => intro v0 h0 σ h H locs ls hW hl; cases h
  | succ n ih =>
    intro v0 h0 σ h H locs ls hW hl
    rw [pf_X11_readsTerm_L9.eq_2] at h
    refine lv_aload_n hx hb dX11_readsTerm_9 rfl (lv_at hl 0 rfl) ?_
    obtain ⟨r_1, σ_1, hcl, h⟩ := bnd2_el h
    refine call_V1 X hW (kC_X11 h0) m_6_125 m_6_127 m_0_42 mv_X11_here (c_X11_here h0 hcl) (by omega) rfl rfl (Nat.le_of_ble_eq_true rfl) hl.1 dX11_readsTerm_10 ?_
    clear hW hcl; intro H locs hW
    refine lv_bipush (v := 42) hx hb dX11_readsTerm_13 (by decide) ?_
    refine lv_icmp_eq (tgt := 27) hx hb dX11_readsTerm_15 (by decide) (fun hc => ?_) (fun hc => ?_)
    · replace h := if_t hc h
      exact bl_X11_readsTerm_b27 hB hrc X hret ih v0 h0 σ_1 h _ _ _ hW (lv_sub hl [0] rfl)
    · replace h := if_f hc h
      refine lv_aload_n hx hb dX11_readsTerm_18 rfl (lv_at hl 0 rfl) ?_
      obtain ⟨r_2, σ_2, hcl, h⟩ := bnd2_el h
      refine call_V1 X hW (kC_X11 h0) m_6_125 m_6_127 m_0_42 mv_X11_here (c_X11_here h0 hcl) (by omega) rfl rfl (Nat.le_of_ble_eq_true rfl) hl.1 dX11_readsTerm_19 ?_
      clear hW hcl; intro H locs hW
      refine lv_bipush (v := 47) hx hb dX11_readsTerm_22 (by decide) ?_
      refine lv_icmp_ne (tgt := 70) hx hb dX11_readsTerm_24 (by decide) (fun hc => ?_) (fun hc => ?_)
      · replace h := if_f hc h
        refine lv_iconst (v := 1) hx hb dX11_readsTerm_70 (by decide) ?_
        exact rz_end hret h (by decide) dX11_readsTerm_71 hW
      · replace h := if_t hc h
        exact bl_X11_readsTerm_b27 hB hrc X hret ih v0 h0 σ_2 h _ _ _ hW (lv_sub hl [0] rfl)
set_option maxRecDepth 20000 in
set_option maxHeartbeats 4000000 in
theorem c_X11_readsTerm {G : Gt} {l : Launch} {rc : Nat → St → Option (Int32 × St)} {hr : Nat} (hB : 11 ≤ hr) (hrc : ∀ {a0 : Nat} (_ : kd a0 = 10) {τ : St} {w : Int32} {τ' : St} (_ : rc a0 τ = some (w, τ')), Ct G l yX11_readsSum cX11_readsSum 2 (some .boolean) hr [.ref (gz G + a0)] τ (some (.int w)) τ') {v0 : Nat} (h0 : kd v0 = 10) {σ : St} {r : Int32} {σ' : St} (hf : pf_X11_readsTerm rc v0 σ = some (r, σ')) : Ct G l yX11_readsTerm cX11_readsTerm 2 (some .boolean) (hr + 2) [.ref (gz G + (v0))] σ (some (.int r)) σ' := by
  refine met_z (by decide +kernel) (Nat.le_of_ble_eq_true rfl) rfl ?_
  intro p e s m args below meth c Q ls X hW hret hl
  have hx := X.1.1
  have hb := X.1.2.1
  have hl : lv_has ls 2 [(0, .ref (gz G + (v0)))] := hl
  have h := hf
  clear hf
  unfold pf_X11_readsTerm at h
  refine lv_aload_n hx hb dX11_readsTerm_0 rfl (lv_at hl 0 rfl) ?_
  obtain ⟨r_1, σ_1, hcl, h⟩ := bnd2_el h
  refine call_V1 X hW (kC_X11 h0) m_6_236 m_6_238 m_0_64 mv_X11_readsFactor (c_X11_readsFactor hB hrc h0 hcl) (by omega) rfl rfl (Nat.le_of_ble_eq_true rfl) hl.1 dX11_readsTerm_1 ?_
  clear hW hcl; intro H locs hW
  refine lv_if_ne (tgt := 9) hx hb dX11_readsTerm_4 (by decide) (fun hc => ?_) (fun hc => ?_)
  · replace h := if_f hc h
    exact bl_X11_readsTerm_L9 hB hrc X hret FU v0 h0 σ_1 h _ _ _ hW (lv_sub hl [0] rfl)
  · replace h := if_t hc h
    refine lv_iconst (v := 0) hx hb dX11_readsTerm_7 (by decide) ?_
    exact rz_end hret h (by decide) dX11_readsTerm_8 hW
end
