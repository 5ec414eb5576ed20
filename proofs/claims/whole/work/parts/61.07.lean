section
variable {G : Gt} {p : Program} {l : Launch} {e : Env} {R : Room} {s : State} {m : MethodId} {args : Array Value} {below : List Frame} {meth : Method} {c : Code} {cells slots : Nat} {Q : State → Prop}
set_option maxRecDepth 20000 in
set_option maxHeartbeats 4000000 in
theorem c_X11_append {G : Gt} {l : Launch} {v0 : Nat} (h0 : kd v0 = 10) {v1 : Int32} {v2 : Int32} {v3 : Int32} {v4 : Int32} {v5 : Int32} {σ : St} {r : Int32} {σ' : St} (hf : pf_X11_append v0 v1 v2 v3 v4 v5 σ = some (r, σ')) : Ct G l yX11_append cX11_append 6 (some .int) 3 [.ref (gz G + (v0)), .int (v1), .int (v2), .int (v3), .int (v4), .int (v5)] σ (some (.int r)) σ' := by
  refine met_i (by decide +kernel) (Nat.le_of_ble_eq_true rfl) rfl ?_
  intro p e s m args below meth c Q ls X hW hret hl
  have hx := X.1.1
  have hb := X.1.2.1
  have hl : lv_has ls 6 [(0, .ref (gz G + (v0))), (1, .int (v1)), (2, .int (v2)), (3, .int (v3)), (4, .int (v4)), (5, .int (v5))] := hl
  have h := hf
  clear hf
  unfold pf_X11_append at h
  refine lv_aload_n hx hb dX11_append_0 rfl (lv_at hl 0 rfl) ?_
  refine lv_iconst (v := 0) hx hb dX11_append_1 (by decide) ?_
  refine sf_X11_thrown X hW h0 m_6_6 dX11_append_2 ?_
  clear hW; intro H locs hW
  refine nm_s hW h ?_
  clear hW h; intro σ_1 hW h
  refine lv_aload_n hx hb dX11_append_5 rfl (lv_at hl 0 rfl) ?_
  refine gf_X11_fed X hW h0 m_6_20 dX11_append_6 ?_
  refine lv_bipush (v := 20) hx hb dX11_append_9 (by decide) ?_
  refine lv_iadd hx hb dX11_append_11 ?_
  refine lv_sipush (v := 800) hx hb dX11_append_12 (by decide) ?_
  refine lv_icmp_le (tgt := 20) hx hb dX11_append_15 (by decide) (fun hc => ?_) (fun hc => ?_)
  · replace h := if_t hc h
    refine lv_aload_n hx hb dX11_append_20 rfl (lv_at hl 0 rfl) ?_
    refine lv_iload_n hx hb dX11_append_21 rfl (lv_at hl 1 rfl) ?_
    obtain ⟨σ_2, hcl, h⟩ := bind_el h
    refine call_V0 X hW (kC_X11 h0) m_6_97 m_6_99 m_0_38 mv_X11_four (c_X11_four h0 hcl) (by decide) rfl rfl (Nat.le_of_ble_eq_true rfl) hl.1 dX11_append_22 ?_
    clear hW hcl; intro H locs hW
    refine lv_aload_n hx hb dX11_append_25 rfl (lv_at hl 0 rfl) ?_
    refine lv_iload_n hx hb dX11_append_26 rfl (lv_at hl 2 rfl) ?_
    obtain ⟨σ_3, hcl, h⟩ := bind_el h
    refine call_V0 X hW (kC_X11 h0) m_6_97 m_6_99 m_0_38 mv_X11_four (c_X11_four h0 hcl) (by decide) rfl rfl (Nat.le_of_ble_eq_true rfl) hl.1 dX11_append_27 ?_
    clear hW hcl; intro H locs hW
    refine lv_aload_n hx hb dX11_append_30 rfl (lv_at hl 0 rfl) ?_
    refine lv_iload_n hx hb dX11_append_31 rfl (lv_at hl 3 rfl) ?_
    obtain ⟨σ_4, hcl, h⟩ := bind_el h
    refine call_V0 X hW (kC_X11 h0) m_6_97 m_6_99 m_0_38 mv_X11_four (c_X11_four h0 hcl) (by decide) rfl rfl (Nat.le_of_ble_eq_true rfl) hl.1 dX11_append_32 ?_
    clear hW hcl; intro H locs hW
    refine lv_aload_n hx hb dX11_append_35 rfl (lv_at hl 0 rfl) ?_
    refine lv_iload hx hb dX11_append_36 (lv_at hl 4 rfl) ?_
    obtain ⟨σ_5, hcl, h⟩ := bind_el h
    refine call_V0 X hW (kC_X11 h0) m_6_97 m_6_99 m_0_38 mv_X11_four (c_X11_four h0 hcl) (by decide) rfl rfl (Nat.le_of_ble_eq_true rfl) hl.1 dX11_append_38 ?_
    clear hW hcl; intro H locs hW
    refine lv_aload_n hx hb dX11_append_41 rfl (lv_at hl 0 rfl) ?_
    refine lv_iload hx hb dX11_append_42 (lv_at hl 5 rfl) ?_
    obtain ⟨σ_6, hcl, h⟩ := bind_el h
    refine call_V0 X hW (kC_X11 h0) m_6_97 m_6_99 m_0_38 mv_X11_four (c_X11_four h0 hcl) (by decide) rfl rfl (Nat.le_of_ble_eq_true rfl) hl.1 dX11_append_44 ?_
    clear hW hcl; intro H locs hW
    refine lv_aload_n hx hb dX11_append_47 rfl (lv_at hl 0 rfl) ?_
    refine gf_X11_fed X hW h0 m_6_20 dX11_append_48 ?_
    exact ri_end hret h dX11_append_51 hW
  · replace h := if_f hc h
    refine lv_iconst (v := (-1)) hx hb dX11_append_18 (by decide) ?_
    exact ri_end hret h dX11_append_19 hW
set_option maxRecDepth 20000 in
set_option maxHeartbeats 4000000 in
theorem c_X11_errorOffset {G : Gt} {l : Launch} {v0 : Nat} (h0 : kd v0 = 10) {σ : St} {r : Int32} {σ' : St} (hf : pf_X11_errorOffset v0 σ = some (r, σ')) : Ct G l yX11_errorOffset cX11_errorOffset 1 (some .int) 2 [.ref (gz G + (v0))] σ (some (.int r)) σ' := by
  refine met_i (by decide +kernel) (Nat.le_of_ble_eq_true rfl) rfl ?_
  intro p e s m args below meth c Q ls X hW hret hl
  have hx := X.1.1
  have hb := X.1.2.1
  have hl : lv_has ls 1 [(0, .ref (gz G + (v0)))] := hl
  have h := hf
  clear hf
  unfold pf_X11_errorOffset at h
  refine lv_aload_n hx hb dX11_errorOffset_0 rfl (lv_at hl 0 rfl) ?_
  refine lv_iconst (v := 0) hx hb dX11_errorOffset_1 (by decide) ?_
  refine sf_X11_thrown X hW h0 m_6_6 dX11_errorOffset_2 ?_
  clear hW; intro H locs hW
  refine nm_s hW h ?_
  clear hW h; intro σ_1 hW h
  refine lv_aload_n hx hb dX11_errorOffset_5 rfl (lv_at hl 0 rfl) ?_
  refine gf_X11_faultAt X hW h0 m_6_24 dX11_errorOffset_6 ?_
  exact ri_end hret h dX11_errorOffset_9 hW
set_option maxRecDepth 20000 in
set_option maxHeartbeats 4000000 in
theorem c_X11_fails {G : Gt} {l : Launch} {v0 : Nat} (h0 : kd v0 = 10) {v1 : Int32} {v2 : Int32} {σ : St} {r : Int32} {σ' : St} (hf : pf_X11_fails v0 v1 v2 σ = some (r, σ')) : Ct G l yX11_fails cX11_fails 3 (some .boolean) 2 [.ref (gz G + (v0)), .int (v1), .int (v2)] σ (some (.int r)) σ' := by
  refine met_z (by decide +kernel) (Nat.le_of_ble_eq_true rfl) rfl ?_
  intro p e s m args below meth c Q ls X hW hret hl
  have hx := X.1.1
  have hb := X.1.2.1
  have hl : lv_has ls 3 [(0, .ref (gz G + (v0))), (1, .int (v1)), (2, .int (v2))] := hl
  have h := hf
  clear hf
  unfold pf_X11_fails at h
  refine lv_aload_n hx hb dX11_fails_0 rfl (lv_at hl 0 rfl) ?_
  refine gf_X11_fault X hW h0 m_6_23 dX11_fails_1 ?_
  refine lv_if_eq (tgt := 9) hx hb dX11_fails_4 (by decide) (fun hc => ?_) (fun hc => ?_)
  · replace h := if_t hc h
    refine lv_aload_n hx hb dX11_fails_9 rfl (lv_at hl 0 rfl) ?_
    refine lv_iload_n hx hb dX11_fails_10 rfl (lv_at hl 1 rfl) ?_
    refine sf_X11_fault X hW h0 m_6_23 dX11_fails_11 ?_
    clear hW; intro H locs hW
    refine nm_s hW h ?_
    clear hW h; intro σ_1 hW h
    refine lv_aload_n hx hb dX11_fails_14 rfl (lv_at hl 0 rfl) ?_
    refine lv_iload_n hx hb dX11_fails_15 rfl (lv_at hl 2 rfl) ?_
    refine sf_X11_faultAt X hW h0 m_6_24 dX11_fails_16 ?_
    clear hW; intro H locs hW
    refine nm_s hW h ?_
    clear hW h; intro σ_2 hW h
    refine lv_iconst (v := 0) hx hb dX11_fails_19 (by decide) ?_
    exact rz_end hret h (by decide) dX11_fails_20 hW
  · replace h := if_f hc h
    refine lv_iconst (v := 0) hx hb dX11_fails_7 (by decide) ?_
    exact rz_end hret h (by decide) dX11_fails_8 hW
set_option maxRecDepth 20000 in
set_option maxHeartbeats 4000000 in
theorem bl_X11_here_b38 (X : Cx G p R s m args c cells slots cX11_here 1 RX11 2) {r : Int32} {σ' : St} (hret : R_I G p l e R s m args below meth c cells slots Q cX11_here r σ') :
    ∀ (v0 : Nat) (h0 : kd v0 = 10) (σ : St) (_ : pf_X11_here_b38 v0 σ = some (r, σ')) (H : Heap) (locs : List Loc) (ls : Array Slot) (_ : GW G σ s H locs) (_ : lv_has ls 1 [(0, .ref (gz G + (v0)))]), W p l e R s m args below meth c H locs cells slots Q (F0 m 38 ls []) := by
  have hx := X.1.1
  have hb := X.1.2.1
  intro v0 h0 σ h H locs ls hW hl
  unfold pf_X11_here_b38 at h
  refine lv_aload_n hx hb dX11_here_38 rfl (lv_at hl 0 rfl) ?_
  refine gf_X11_at X hW h0 m_6_22 dX11_here_39 ?_
  refine lv_aload_n hx hb dX11_here_42 rfl (lv_at hl 0 rfl) ?_
  refine gf_X11_length X hW h0 m_6_21 dX11_here_43 ?_
  refine lv_icmp_ge (tgt := 61) hx hb dX11_here_46 (by decide) (fun hc => ?_) (fun hc => ?_)
  · replace h := if_t hc h
    refine lv_iconst (v := (-1)) hx hb dX11_here_61 (by decide) ?_
    exact ri_end hret h dX11_here_62 hW
  · replace h := if_f hc h
    refine lv_aload_n hx hb dX11_here_49 rfl (lv_at hl 0 rfl) ?_
    refine gf_X11_text X hW h0 m_6_19 dX11_here_50 ?_
    refine lv_aload_n hx hb dX11_here_53 rfl (lv_at hl 0 rfl) ?_
    refine gf_X11_at X hW h0 m_6_22 dX11_here_54 ?_
    obtain ⟨hi1, h⟩ := ckI_el h
    refine r_iald X hW (kf_X11_text h0) hi1 dX11_here_57 ?_
    refine lv_goto (tgt := 62) hx hb dX11_here_58 (by decide) ?_
    exact ri_end hret h dX11_here_62 hW
set_option maxRecDepth 20000 in
set_option maxHeartbeats 4000000 in
theorem bl_X11_here_L0 (X : Cx G p R s m args c cells slots cX11_here 1 RX11 2) {r : Int32} {σ' : St} (hret : R_I G p l e R s m args below meth c cells slots Q cX11_here r σ') {k38 : Nat → St → (Option (Int32 × St))}
    (hk38 : ∀ (v0 : Nat) (h0 : kd v0 = 10) (σ : St) (_ : k38 v0 σ = some (r, σ')) (H : Heap) (locs : List Loc) (ls : Array Slot) (_ : GW G σ s H locs) (_ : lv_has ls 1 [(0, .ref (gz G + (v0)))]), W p l e R s m args below meth c H locs cells slots Q (F0 m 38 ls [])) :
    ∀ (n : Nat), ∀ (v0 : Nat) (h0 : kd v0 = 10) (σ : St) (_ : pf_X11_here_L0 k38 n v0 σ = some (r, σ')) (H : Heap) (locs : List Loc) (ls : Array Slot) (_ : GW G σ s H locs) (_ : lv_has ls 1 [(0, .ref (gz G + (v0)))]), W p l e R s m args below meth c H locs cells slots Q (F0 m 0 ls []) := by
  have hx := X.1.1
  have hb := X.1.2.1
  intro n
  induction n with
  | zero => intro v0 h0 σ h H locs ls hW hl; cases h
  | succ n ih =>
    intro v0 h0 σ h H locs ls hW hl
    rw [pf_X11_here_L0.eq_2] at h
    refine lv_aload_n hx hb dX11_here_0 rfl (lv_at hl 0 rfl) ?_
    refine gf_X11_at X hW h0 m_6_22 dX11_here_1 ?_
    refine lv_aload_n hx hb dX11_here_4 rfl (lv_at hl 0 rfl) ?_
    refine gf_X11_length X hW h0 m_6_21 dX11_here_5 ?_
    refine lv_icmp_ge (tgt := 38) hx hb dX11_here_8 (by decide) (fun hc => ?_) (fun hc => ?_)
    · replace h := if_t hc h
      exact hk38 v0 h0 σ h _ _ _ hW (lv_sub hl [0] rfl)
    · replace h := if_f hc h
      refine lv_aload_n hx hb dX11_here_11 rfl (lv_at hl 0 rfl) ?_
      refine gf_X11_text X hW h0 m_6_19 dX11_here_12 ?_
      refine lv_aload_n hx hb dX11_here_15 rfl (lv_at hl 0 rfl) ?_
      refine gf_X11_at X hW h0 m_6_22 dX11_here_16 ?_
      obtain ⟨hi1, h⟩ := ckI_el h
      refine r_iald X hW (kf_X11_text h0) hi1 dX11_here_19 ?_
      refine lv_bipush (v := 32) hx hb dX11_here_20 (by decide) ?_
      refine lv_icmp_ne (tgt := 38) hx hb dX11_here_22 (by decide) (fun hc => ?_) (fun hc => ?_)
      · replace h := if_f hc h
        exact hk38 v0 h0 σ h _ _ _ hW (lv_sub hl [0] rfl)
      · replace h := if_t hc h
        refine lv_aload_n hx hb dX11_here_25 rfl (lv_at hl 0 rfl) ?_
        refine lv_dup hx hb dX11_here_26 rfl ?_
        refine gf_X11_at X hW h0 m_6_22 dX11_here_27 ?_
        refine lv_iconst (v := 1) hx hb dX11_here_30 (by decide) ?_
        refine lv_iadd hx hb dX11_here_31 ?_
        refine sf_X11_at X hW h0 m_6_22 dX11_here_32 ?_
        clear hW; intro H locs hW
        refine nm_s hW h ?_
        clear hW h; intro σ_2 hW h
        refine lv_goto (tgt := 0) hx hb dX11_here_35 (by decide) ?_
        exact ih v0 h0 σ_2 h _ _ _ hW (lv_sub hl [0] rfl)
set_option maxRecDepth 20000 in
set_option maxHeartbeats 4000000 in
theorem c_X11_here {G : Gt} {l : Launch} {v0 : Nat} (h0 : kd v0 = 10) {σ : St} {r : Int32} {σ' : St} (hf : pf_X11_here v0 σ = some (r, σ')) : Ct G l yX11_here cX11_here 1 (some .int) 2 [.ref (gz G + (v0))] σ (some (.int r)) σ' := by
  refine met_i (by decide +kernel) (Nat.le_of_ble_eq_true rfl) rfl ?_
  intro p e s m args below meth c Q ls X hW hret hl
  have hx := X.1.1
  have hb := X.1.2.1
  have hl : lv_has ls 1 [(0, .ref (gz G + (v0)))] := hl
  have h := hf
  clear hf
  unfold pf_X11_here at h
  exact bl_X11_here_L0 X hret (bl_X11_here_b38 X hret) FU v0 h0 σ h _ _ _ hW (lv_sub hl [0] rfl)
set_option maxRecDepth 20000 in
set_option maxHeartbeats 4000000 in
theorem bl_X11_isLetter_b16 {σ : St} (X : Cx G p R s m args c cells slots cX11_isLetter 1 RX11 2) {r : Int32} (hret : R_Z G p l e R s m args below meth c cells slots Q cX11_isLetter r σ) :
    ∀ (_ : pf_X11_isLetter_b16 σ = some r) (H : Heap) (locs : List Loc) (ls : Array Slot) (_ : GW G σ s H locs) (_ : lv_has ls 1 []), W p l e R s m args below meth c H locs cells slots Q (F0 m 16 ls []) := by
  have hx := X.1.1
  have hb := X.1.2.1
  intro h H locs ls hW hl
  unfold pf_X11_isLetter_b16 at h
  refine lv_iconst (v := 0) hx hb dX11_isLetter_16 (by decide) ?_
  exact rz_end0 hret h (by decide) dX11_isLetter_17 hW
set_option maxRecDepth 20000 in
set_option maxHeartbeats 4000000 in
theorem c_X11_isLetter {G : Gt} {l : Launch} {v0 : Int32} {σ : St} {r : Int32} (hf : pf_X11_isLetter v0 σ = some r) : Ct G l yX11_isLetter cX11_isLetter 1 (some .boolean) 2 [.int (v0)] σ (some (.int r)) σ := by
  refine met_z (by decide +kernel) (Nat.le_of_ble_eq_true rfl) rfl ?_
  intro p e s m args below meth c Q ls X hW hret hl
  have hx := X.1.1
  have hb := X.1.2.1
  have hl : lv_has ls 1 [(0, .int (v0))] := hl
  have h := hf
  clear hf
  unfold pf_X11_isLetter at h
  refine lv_iload_n hx hb dX11_isLetter_0 rfl (lv_at hl 0 rfl) ?_
  refine lv_bipush (v := 97) hx hb dX11_isLetter_1 (by decide) ?_
  refine lv_icmp_lt (tgt := 16) hx hb dX11_isLetter_3 (by decide) (fun hc => ?_) (fun hc => ?_)
  · replace h := if_t hc h
    exact bl_X11_isLetter_b16 X hret h _ _ _ hW (lv_sub hl [] rfl)
  · replace h := if_f hc h
    refine lv_iload_n hx hb dX11_isLetter_6 rfl (lv_at hl 0 rfl) ?_
    refine lv_bipush (v := 122) hx hb dX11_isLetter_7 (by decide) ?_
    refine lv_icmp_gt (tgt := 16) hx hb dX11_isLetter_9 (by decide) (fun hc => ?_) (fun hc => ?_)
    · replace h := if_t hc h
      exact bl_X11_isLetter_b16 X hret h _ _ _ hW (lv_sub hl [] rfl)
    · replace h := if_f hc h
      refine lv_iconst (v := 1) hx hb dX11_isLetter_12 (by decide) ?_
      refine lv_goto (tgt := 17) hx hb dX11_isLetter_13 (by decide) ?_
      exact rz_end0 hret h (by decide) dX11_isLetter_17 hW
set_option maxRecDepth 20000 in
set_option maxHeartbeats 4000000 in
theorem bl_X11_isDigit_b16 {σ : St} (X : Cx G p R s m args c cells slots cX11_isDigit 1 RX11 2) {r : Int32} (hret : R_Z G p l e R s m args below meth c cells slots Q cX11_isDigit r σ) :
    ∀ (_ : pf_X11_isDigit_b16 σ = some r) (H : Heap) (locs : List Loc) (ls : Array Slot) (_ : GW G σ s H locs) (_ : lv_has ls 1 []), W p l e R s m args below meth c H locs cells slots Q (F0 m 16 ls []) := by
  have hx := X.1.1
  have hb := X.1.2.1
  intro h H locs ls hW hl
  unfold pf_X11_isDigit_b16 at h
  refine lv_iconst (v := 0) hx hb dX11_isDigit_16 (by decide) ?_
  exact rz_end0 hret h (by decide) dX11_isDigit_17 hW
set_option maxRecDepth 20000 in
set_option maxHeartbeats 4000000 in
theorem c_X11_isDigit {G : Gt} {l : Launch} {v0 : Int32} {σ : St} {r : Int32} (hf : pf_X11_isDigit v0 σ = some r) : Ct G l yX11_isDigit cX11_isDigit 1 (some .boolean) 2 [.int (v0)] σ (some (.int r)) σ := by
  refine met_z (by decide +kernel) (Nat.le_of_ble_eq_true rfl) rfl ?_
  intro p e s m args below meth c Q ls X hW hret hl
  have hx := X.1.1
  have hb := X.1.2.1
  have hl : lv_has ls 1 [(0, .int (v0))] := hl
  have h := hf
  clear hf
  unfold pf_X11_isDigit at h
  refine lv_iload_n hx hb dX11_isDigit_0 rfl (lv_at hl 0 rfl) ?_
  refine lv_bipush (v := 48) hx hb dX11_isDigit_1 (by decide) ?_
  refine lv_icmp_lt (tgt := 16) hx hb dX11_isDigit_3 (by decide) (fun hc => ?_) (fun hc => ?_)
  · replace h := if_t hc h
    exact bl_X11_isDigit_b16 X hret h _ _ _ hW (lv_sub hl [] rfl)
  · replace h := if_f hc h
    refine lv_iload_n hx hb dX11_isDigit_6 rfl (lv_at hl 0 rfl) ?_
    refine lv_bipush (v := 57) hx hb dX11_isDigit_7 (by decide) ?_
    refine lv_icmp_gt (tgt := 16) hx hb dX11_isDigit_9 (by decide) (fun hc => ?_) (fun hc => ?_)
    · replace h := if_t hc h
      exact bl_X11_isDigit_b16 X hret h _ _ _ hW (lv_sub hl [] rfl)
    · replace h := if_f hc h
      refine lv_iconst (v := 1) hx hb dX11_isDigit_12 (by decide) ?_
      refine lv_goto (tgt := 17) hx hb dX11_isDigit_13 (by decide) ?_
      exact rz_end0 hret h (by decide) dX11_isDigit_17 hW
set_option maxRecDepth 20000 in
set_option maxHeartbeats 4000000 in
theorem c_X11_sign {G : Gt} {l : Launch} {v0 : Nat} (h0 : kd v0 = 10) {v1 : Int32} {σ : St} {r : Int32} {σ' : St} (hf : pf_X11_sign v0 v1 σ = some (r, σ')) : Ct G l yX11_sign cX11_sign 2 (some .boolean) 3 [.ref (gz G + (v0)), .int (v1)] σ (some (.int r)) σ' := by
  refine met_z (by decide +kernel) (Nat.le_of_ble_eq_true rfl) rfl ?_
  intro p e s m args below meth c Q ls X hW hret hl
  have hx := X.1.1
  have hb := X.1.2.1
  have hl : lv_has ls 2 [(0, .ref (gz G + (v0))), (1, .int (v1))] := hl
  have h := hf
  clear hf
  unfold pf_X11_sign at h
  refine lv_aload_n hx hb dX11_sign_0 rfl (lv_at hl 0 rfl) ?_
  obtain ⟨r_1, σ_1, hcl, h⟩ := bnd2_el h
  refine call_V1 X hW (kC_X11 h0) m_6_125 m_6_127 m_0_42 mv_X11_here (c_X11_here h0 hcl) (by decide) rfl rfl (Nat.le_of_ble_eq_true rfl) hl.1 dX11_sign_1 ?_
  clear hW hcl; intro H locs hW
  refine lv_iload_n hx hb dX11_sign_4 rfl (lv_at hl 1 rfl) ?_
  refine lv_icmp_eq (tgt := 19) hx hb dX11_sign_5 (by decide) (fun hc => ?_) (fun hc => ?_)
  · replace h := if_t hc h
    refine lv_aload_n hx hb dX11_sign_19 rfl (lv_at hl 0 rfl) ?_
    refine lv_dup hx hb dX11_sign_20 rfl ?_
    refine gf_X11_at X hW h0 m_6_22 dX11_sign_21 ?_
    refine lv_iconst (v := 1) hx hb dX11_sign_24 (by decide) ?_
    refine lv_iadd hx hb dX11_sign_25 ?_
    refine sf_X11_at X hW h0 m_6_22 dX11_sign_26 ?_
    clear hW; intro H locs hW
    refine nm_s hW h ?_
    clear hW h; intro σ_2 hW h
    refine lv_iconst (v := 1) hx hb dX11_sign_29 (by decide) ?_
    exact rz_end hret h (by decide) dX11_sign_30 hW
  · replace h := if_f hc h
    refine lv_aload_n hx hb dX11_sign_8 rfl (lv_at hl 0 rfl) ?_
    refine lv_bipush (v := (-2)) hx hb dX11_sign_9 (by decide) ?_
    refine lv_aload_n hx hb dX11_sign_11 rfl (lv_at hl 0 rfl) ?_
    refine gf_X11_at X hW h0 m_6_22 dX11_sign_12 ?_
    obtain ⟨r_3, σ_3, hcl, h⟩ := bnd2_el h
    refine call_V1 X hW (kC_X11 h0) m_6_134 m_6_136 m_0_43 mv_X11_fails (c_X11_fails h0 hcl) (by decide) rfl rfl (Nat.le_of_ble_eq_true rfl) hl.1 dX11_sign_15 ?_
    clear hW hcl; intro H locs hW
    obtain ⟨hz, h⟩ := ckZ_el h
    exact rz_end hret h hz dX11_sign_18 hW
set_option maxRecDepth 20000 in
set_option maxHeartbeats 4000000 in
theorem bl_X11_digits_b97 (X : Cx G p R s m args c cells slots cX11_digits 1 RX11 3) {r : Int32} {σ' : St} (hret : R_Z G p l e R s m args below meth c cells slots Q cX11_digits r σ') {k34 : Nat → St → (Option (Int32 × St))}
    (hk34 : ∀ (v0 : Nat) (h0 : kd v0 = 10) (σ : St) (_ : k34 v0 σ = some (r, σ')) (H : Heap) (locs : List Loc) (ls : Array Slot) (_ : GW G σ s H locs) (_ : lv_has ls 1 [(0, .ref (gz G + (v0)))]), W p l e R s m args below meth c H locs cells slots Q (F0 m 34 ls [])) :
    ∀ (v0 : Nat) (h0 : kd v0 = 10) (s0 : Nat) (hs0 : kd s0 = 10) (s1 : Int32) (σ : St) (_ : pf_X11_digits_b97 k34 v0 s0 s1 σ = some (r, σ')) (H : Heap) (locs : List Loc) (ls : Array Slot) (_ : GW G σ s H locs) (_ : lv_has ls 1 [(0, .ref (gz G + (v0)))]), W p l e R s m args below meth c H locs cells slots Q (F0 m 97 ls [.int (s1), .ref (gz G + (s0))]) := by
  have hx := X.1.1
  have hb := X.1.2.1
  intro v0 h0 s0 hs0 s1 σ h H locs ls hW hl
  unfold pf_X11_digits_b97 at h
  refine sf_X11_number X hW hs0 m_6_25 dX11_digits_97 ?_
  clear hW; intro H locs hW
  refine nm_s hW h ?_
  clear hW h; intro σ_1 hW h
  refine lv_aload_n hx hb dX11_digits_100 rfl (lv_at hl 0 rfl) ?_
  refine lv_dup hx hb dX11_digits_101 rfl ?_
  refine gf_X11_at X hW h0 m_6_22 dX11_digits_102 ?_
  refine lv_iconst (v := 1) hx hb dX11_digits_105 (by decide) ?_
  refine lv_iadd hx hb dX11_digits_106 ?_
  refine sf_X11_at X hW h0 m_6_22 dX11_digits_107 ?_
  clear hW; intro H locs hW
  refine nm_s hW h ?_
  clear hW h; intro σ_2 hW h
  refine lv_goto (tgt := 34) hx hb dX11_digits_110 (by decide) ?_
  exact hk34 v0 h0 σ_2 h _ _ _ hW (lv_sub hl [0] rfl)
set_option maxRecDepth 20000 in
set_option maxHeartbeats 4000000 in
theorem bl_X11_digits_L34 (X : Cx G p R s m args c cells slots cX11_digits 1 RX11 3) {r : Int32} {σ' : St} (hret : R_Z G p l e R s m args below meth c cells slots Q cX11_digits r σ') :
    ∀ (n : Nat), ∀ (v0 : Nat) (h0 : kd v0 = 10) (σ : St) (_ : pf_X11_digits_L34 n v0 σ = some (r, σ')) (H : Heap) (locs : List Loc) (ls : Array Slot) (_ : GW G σ s H locs) (_ : lv_has ls 1 [(0, .ref (gz G + (v0)))]), W p l e R s m args below meth c H locs cells slots Q (F0 m 34 ls []) := by
  have hx := X.1.1
  have hb := X.1.2.1
  intro n
  induction n with
  | zero => intro v0 h0 σ h H locs ls hW hl; cases h
  | succ n ih =>
    intro v0 h0 σ h H locs ls hW hl
    rw [pf_X11_digits_L34.eq_2] at h
    refine lv_aload_n hx hb dX11_digits_34 rfl (lv_at hl 0 rfl) ?_
    refine gf_X11_at X hW h0 m_6_22 dX11_digits_35 ?_
    refine lv_aload_n hx hb dX11_digits_38 rfl (lv_at hl 0 rfl) ?_
    refine gf_X11_length X hW h0 m_6_21 dX11_digits_39 ?_
    refine lv_icmp_ge (tgt := 113) hx hb dX11_digits_42 (by decide) (fun hc => ?_) (fun hc => ?_)
    · replace h := if_t hc h
      refine lv_iconst (v := 1) hx hb dX11_digits_113 (by decide) ?_
      exact rz_end hret h (by decide) dX11_digits_114 hW
    · replace h := if_f hc h
      refine lv_aload_n hx hb dX11_digits_45 rfl (lv_at hl 0 rfl) ?_
      refine gf_X11_text X hW h0 m_6_19 dX11_digits_46 ?_
      refine lv_aload_n hx hb dX11_digits_49 rfl (lv_at hl 0 rfl) ?_
      refine gf_X11_at X hW h0 m_6_22 dX11_digits_50 ?_
      obtain ⟨hi1, h⟩ := ckI_el h
      refine r_iald X hW (kf_X11_text h0) hi1 dX11_digits_53 ?_
      obtain ⟨r_2, hcl, h⟩ := bind_el h
      refine call_S1 X hW m_6_155 m_6_156 mv_X11_isDigit (c_X11_isDigit hcl) (by decide) rfl rfl (Nat.le_of_ble_eq_true rfl) hl.1 dX11_digits_54 ?_
      clear hW hcl; intro H locs hW
      refine lv_if_eq (tgt := 113) hx hb dX11_digits_57 (by decide) (fun hc => ?_) (fun hc => ?_)
      · replace h := if_t hc h
        refine lv_iconst (v := 1) hx hb dX11_digits_113 (by decide) ?_
        exact rz_end hret h (by decide) dX11_digits_114 hW
      · replace h := if_f hc h
        refine lv_aload_n hx hb dX11_digits_60 rfl (lv_at hl 0 rfl) ?_
        refine lv_aload_n hx hb dX11_digits_61 rfl (lv_at hl 0 rfl) ?_
        refine gf_X11_number X hW h0 m_6_25 dX11_digits_62 ?_
        refine lv_ldc (v := 100000) hx hb X.1.2.2.2.1 (X.1.2.2.2.2 _ m_6_158) dX11_digits_65 ?_
        refine lv_icmp_le (tgt := 77) hx hb dX11_digits_67 (by decide) (fun hc => ?_) (fun hc => ?_)
        · replace h := if_t hc h
          refine lv_bipush (v := 10) hx hb dX11_digits_77 (by decide) ?_
          refine lv_aload_n hx hb dX11_digits_79 rfl (lv_at hl 0 rfl) ?_
          refine gf_X11_number X hW h0 m_6_25 dX11_digits_80 ?_
          refine lv_imul hx hb dX11_digits_83 ?_
          refine lv_aload_n hx hb dX11_digits_84 rfl (lv_at hl 0 rfl) ?_
          refine gf_X11_text X hW h0 m_6_19 dX11_digits_85 ?_
          refine lv_aload_n hx hb dX11_digits_88 rfl (lv_at hl 0 rfl) ?_
          refine gf_X11_at X hW h0 m_6_22 dX11_digits_89 ?_
          obtain ⟨hi3, h⟩ := ckI_el h
          refine r_iald X hW (kf_X11_text h0) hi3 dX11_digits_92 ?_
          refine lv_iadd hx hb dX11_digits_93 ?_
          refine lv_bipush (v := 48) hx hb dX11_digits_94 (by decide) ?_
          refine lv_isub hx hb dX11_digits_96 ?_
          exact bl_X11_digits_b97 X hret ih v0 h0 v0 h0 (((10 * (gI σ v0 19)) + (gI σ (v0 + 9) (gI σ v0 16).toNatClampNeg)) - 48) σ h _ _ _ hW (lv_sub hl [0] rfl)
        · replace h := if_f hc h
          refine lv_aload_n hx hb dX11_digits_70 rfl (lv_at hl 0 rfl) ?_
          refine gf_X11_number X hW h0 m_6_25 dX11_digits_71 ?_
          refine lv_goto (tgt := 97) hx hb dX11_digits_74 (by decide) ?_
          exact bl_X11_digits_b97 X hret ih v0 h0 v0 h0 (gI σ v0 19) σ h _ _ _ hW (lv_sub hl [0] rfl)
set_option maxRecDepth 20000 in
set_option maxHeartbeats 4000000 in
theorem c_X11_digits {G : Gt} {l : Launch} {v0 : Nat} (h0 : kd v0 = 10) {σ : St} {r : Int32} {σ' : St} (hf : pf_X11_digits v0 σ = some (r, σ')) : Ct G l yX11_digits cX11_digits 1 (some .boolean) 3 [.ref (gz G + (v0))] σ (some (.int r)) σ' := by
  refine met_z (by decide +kernel) (Nat.le_of_ble_eq_true rfl) rfl ?_
  intro p e s m args below meth c Q ls X hW hret hl
  have hx := X.1.1
  have hb := X.1.2.1
  have hl : lv_has ls 1 [(0, .ref (gz G + (v0)))] := hl
  have h := hf
  clear hf
  unfold pf_X11_digits at h
  refine lv_aload_n hx hb dX11_digits_0 rfl (lv_at hl 0 rfl) ?_
  obtain ⟨r_1, σ_1, hcl, h⟩ := bnd2_el h
  refine call_V1 X hW (kC_X11 h0) m_6_125 m_6_127 m_0_42 mv_X11_here (c_X11_here h0 hcl) (by decide) rfl rfl (Nat.le_of_ble_eq_true rfl) hl.1 dX11_digits_1 ?_
  clear hW hcl; intro H locs hW
  obtain ⟨r_2, hcl, h⟩ := bind_el h
  refine call_S1 X hW m_6_155 m_6_156 mv_X11_isDigit (c_X11_isDigit hcl) (by decide) rfl rfl (Nat.le_of_ble_eq_true rfl) hl.1 dX11_digits_4 ?_
  clear hW hcl; intro H locs hW
  refine lv_if_ne (tgt := 21) hx hb dX11_digits_7 (by decide) (fun hc => ?_) (fun hc => ?_)
  · replace h := if_f hc h
    refine lv_aload_n hx hb dX11_digits_21 rfl (lv_at hl 0 rfl) ?_
    refine lv_aload_n hx hb dX11_digits_22 rfl (lv_at hl 0 rfl) ?_
    refine gf_X11_at X hW h0 m_6_22 dX11_digits_23 ?_
    refine sf_X11_from X hW h0 m_6_26 dX11_digits_26 ?_
    clear hW; intro H locs hW
    refine nm_s hW h ?_
    clear hW h; intro σ_4 hW h
    refine lv_aload_n hx hb dX11_digits_29 rfl (lv_at hl 0 rfl) ?_
    refine lv_iconst (v := 0) hx hb dX11_digits_30 (by decide) ?_
    refine sf_X11_number X hW h0 m_6_25 dX11_digits_31 ?_
    clear hW; intro H locs hW
    refine nm_s hW h ?_
    clear hW h; intro σ_5 hW h
    exact bl_X11_digits_L34 X hret FU v0 h0 σ_5 h _ _ _ hW (lv_sub hl [0] rfl)
  · replace h := if_t hc h
    refine lv_aload_n hx hb dX11_digits_10 rfl (lv_at hl 0 rfl) ?_
    refine lv_bipush (v := (-2)) hx hb dX11_digits_11 (by decide) ?_
    refine lv_aload_n hx hb dX11_digits_13 rfl (lv_at hl 0 rfl) ?_
    refine gf_X11_at X hW h0 m_6_22 dX11_digits_14 ?_
    obtain ⟨r_3, σ_3, hcl, h⟩ := bnd2_el h
    refine call_V1 X hW (kC_X11 h0) m_6_134 m_6_136 m_0_43 mv_X11_fails (c_X11_fails h0 hcl) (by decide) rfl rfl (Nat.le_of_ble_eq_true rfl) hl.1 dX11_digits_17 ?_
    clear hW hcl; intro H locs hW
    obtain ⟨hz, h⟩ := ckZ_el h
    exact rz_end hret h hz dX11_digits_20 hW
set_option maxRecDepth 20000 in
set_option maxHeartbeats 4000000 in
theorem bl_X11_reads_b32 (X : Cx G p R s m args c cells slots cX11_reads 3 RX11 4) {r : Int32} {σ' : St} (hret : R_Z G p l e R s m args below meth c cells slots Q cX11_reads r σ') :
    ∀ (σ : St) (_ : pf_X11_reads_b32 σ = some (r, σ')) (H : Heap) (locs : List Loc) (ls : Array Slot) (_ : GW G σ s H locs) (_ : lv_has ls 3 []), W p l e R s m args below meth c H locs cells slots Q (F0 m 32 ls []) := by
  have hx := X.1.1
  have hb := X.1.2.1
  intro σ h H locs ls hW hl
  unfold pf_X11_reads_b32 at h
  refine lv_iconst (v := 1) hx hb dX11_reads_32 (by decide) ?_
  refine lv_goto (tgt := 37) hx hb dX11_reads_33 (by decide) ?_
  exact rz_end hret h (by decide) dX11_reads_37 hW
set_option maxRecDepth 20000 in
set_option maxHeartbeats 4000000 in
theorem bl_X11_reads_b36 (X : Cx G p R s m args c cells slots cX11_reads 3 RX11 4) {r : Int32} {σ' : St} (hret : R_Z G p l e R s m args below meth c cells slots Q cX11_reads r σ') :
    ∀ (σ : St) (_ : pf_X11_reads_b36 σ = some (r, σ')) (H : Heap) (locs : List Loc) (ls : Array Slot) (_ : GW G σ s H locs) (_ : lv_has ls 3 []), W p l e R s m args below meth c H locs cells slots Q (F0 m 36 ls []) := by
  have hx := X.1.1
  have hb := X.1.2.1
  intro σ h H locs ls hW hl
  unfold pf_X11_reads_b36 at h
  refine lv_iconst (v := 0) hx hb dX11_reads_36 (by decide) ?_
  exact rz_end hret h (by decide) dX11_reads_37 hW
set_option maxRecDepth 20000 in
set_option maxHeartbeats 4000000 in
theorem c_X11_reads {G : Gt} {l : Launch} {v0 : Nat} (h0 : kd v0 = 10) {v1 : Int32} {v2 : Int32} {σ : St} {r : Int32} {σ' : St} (hf : pf_X11_reads v0 v1 v2 σ = some (r, σ')) : Ct G l yX11_reads cX11_reads 3 (some .boolean) 4 [.ref (gz G + (v0)), .int (v1), .int (v2)] σ (some (.int r)) σ' := by
  refine met_z (by decide +kernel) (Nat.le_of_ble_eq_true rfl) rfl ?_
  intro p e s m args below meth c Q ls X hW hret hl
  have hx := X.1.1
  have hb := X.1.2.1
  have hl : lv_has ls 3 [(0, .ref (gz G + (v0))), (1, .int (v1)), (2, .int (v2))] := hl
  have h := hf
  clear hf
  unfold pf_X11_reads at h
  refine lv_aload_n hx hb dX11_reads_0 rfl (lv_at hl 0 rfl) ?_
  obtain ⟨r_1, σ_1, hcl, h⟩ := bnd2_el h
  refine call_V1 X hW (kC_X11 h0) m_6_151 m_6_153 m_0_47 mv_X11_digits (c_X11_digits h0 hcl) (by decide) rfl rfl (Nat.le_of_ble_eq_true rfl) hl.1 dX11_reads_1 ?_
  clear hW hcl; intro H locs hW
  refine lv_if_eq (tgt := 36) hx hb dX11_reads_4 (by decide) (fun hc => ?_) (fun hc => ?_)
  · replace h := if_t hc h
    exact bl_X11_reads_b36 X hret σ_1 h _ _ _ hW (lv_sub hl [] rfl)
  · replace h := if_f hc h
    refine lv_aload_n hx hb dX11_reads_7 rfl (lv_at hl 0 rfl) ?_
    refine gf_X11_number X hW h0 m_6_25 dX11_reads_8 ?_
    refine lv_iload_n hx hb dX11_reads_11 rfl (lv_at hl 1 rfl) ?_
    refine lv_iload_n hx hb dX11_reads_12 rfl (lv_at hl 2 rfl) ?_
    obtain ⟨r_2, hcl, h⟩ := bind_el h
    refine call_S1 X hW m_6_109 m_6_110 mv_X11_isIn (c_X11_isIn hcl) (by decide) rfl rfl (Nat.le_of_ble_eq_true rfl) hl.1 dX11_reads_13 ?_
    clear hW hcl; intro H locs hW
    refine lv_if_ne (tgt := 32) hx hb dX11_reads_16 (by decide) (fun hc => ?_) (fun hc => ?_)
    · replace h := if_f hc h
      exact bl_X11_reads_b32 X hret σ_1 h _ _ _ hW (lv_sub hl [] rfl)
    · replace h := if_t hc h
      refine lv_aload_n hx hb dX11_reads_19 rfl (lv_at hl 0 rfl) ?_
      refine lv_bipush (v := (-3)) hx hb dX11_reads_20 (by decide) ?_
      refine lv_aload_n hx hb dX11_reads_22 rfl (lv_at hl 0 rfl) ?_
      refine gf_X11_from X hW h0 m_6_26 dX11_reads_23 ?_
      obtain ⟨r_3, σ_3, hcl, h⟩ := bnd2_el h
      refine call_V1 X hW (kC_X11 h0) m_6_134 m_6_136 m_0_43 mv_X11_fails (c_X11_fails h0 hcl) (by decide) rfl rfl (Nat.le_of_ble_eq_true rfl) hl.1 dX11_reads_26 ?_
      clear hW hcl; intro H locs hW
      refine lv_if_eq (tgt := 36) hx hb dX11_reads_29 (by decide) (fun hc => ?_) (fun hc => ?_)
      · replace h := if_t hc h
        exact bl_X11_reads_b36 X hret σ_3 h _ _ _ hW (lv_sub hl [] rfl)
      · replace h := if_f hc h
        exact bl_X11_reads_b32 X hret σ_3 h _ _ _ hW (lv_sub hl [] rfl)
set_option maxRecDepth 20000 in
set_option maxHeartbeats 4000000 in
theorem c_X11_more {G : Gt} {l : Launch} {v0 : Nat} (h0 : kd v0 = 10) {σ : St} {r : Int32} {σ' : St} (hf : pf_X11_more v0 σ = some (r, σ')) : Ct G l yX11_more cX11_more 1 (some .boolean) 3 [.ref (gz G + (v0))] σ (some (.int r)) σ' := by
  refine met_z (by decide +kernel) (Nat.le_of_ble_eq_true rfl) rfl ?_
  intro p e s m args below meth c Q ls X hW hret hl
  have hx := X.1.1
  have hb := X.1.2.1
  have hl : lv_has ls 1 [(0, .ref (gz G + (v0)))] := hl
  have h := hf
  clear hf
  unfold pf_X11_more at h
  refine lv_aload_n hx hb dX11_more_0 rfl (lv_at hl 0 rfl) ?_
  obtain ⟨r_1, σ_1, hcl, h⟩ := bnd2_el h
  refine call_V1 X hW (kC_X11 h0) m_6_125 m_6_127 m_0_42 mv_X11_here (c_X11_here h0 hcl) (by decide) rfl rfl (Nat.le_of_ble_eq_true rfl) hl.1 dX11_more_1 ?_
  clear hW hcl; intro H locs hW
  obtain ⟨r_2, hcl, h⟩ := bind_el h
  refine call_S1 X hW m_6_155 m_6_156 mv_X11_isDigit (c_X11_isDigit hcl) (by decide) rfl rfl (Nat.le_of_ble_eq_true rfl) hl.1 dX11_more_4 ?_
  clear hW hcl; intro H locs hW
  obtain ⟨hz, h⟩ := ckZ_el h
  exact rz_end hret h hz dX11_more_7 hW
set_option maxRecDepth 20000 in
set_option maxHeartbeats 4000000 in
theorem c_X11_opens {G : Gt} {l : Launch} {v0 : Nat} (h0 : kd v0 = 10) {σ : St} {r : Int32} {σ' : St} (hf : pf_X11_opens v0 σ = some (r, σ')) : Ct G l yX11_opens cX11_opens 1 (some .boolean) 3 [.ref (gz G + (v0))] σ (some (.int r)) σ' := by
  refine met_z (by decide +kernel) (Nat.le_of_ble_eq_true rfl) rfl ?_
  intro p e s m args below meth c Q ls X hW hret hl
  have hx := X.1.1
  have hb := X.1.2.1
  have hl : lv_has ls 1 [(0, .ref (gz G + (v0)))] := hl
  have h := hf
  clear hf
  unfold pf_X11_opens at h
  refine lv_aload_n hx hb dX11_opens_0 rfl (lv_at hl 0 rfl) ?_
  obtain ⟨r_1, σ_1, hcl, h⟩ := bnd2_el h
  refine call_V1 X hW (kC_X11 h0) m_6_125 m_6_127 m_0_42 mv_X11_here (c_X11_here h0 hcl) (by decide) rfl rfl (Nat.le_of_ble_eq_true rfl) hl.1 dX11_opens_1 ?_
  clear hW hcl; intro H locs hW
  refine lv_bipush (v := 40) hx hb dX11_opens_4 (by decide) ?_
  refine lv_icmp_eq (tgt := 20) hx hb dX11_opens_6 (by decide) (fun hc => ?_) (fun hc => ?_)
  · replace h := if_t hc h
    refine lv_aload_n hx hb dX11_opens_20 rfl (lv_at hl 0 rfl) ?_
    refine gf_X11_nested X hW h0 m_6_27 dX11_opens_21 ?_
    refine lv_iconst (v := 4) hx hb dX11_opens_24 (by decide) ?_
    refine lv_icmp_ne (tgt := 39) hx hb dX11_opens_25 (by decide) (fun hc => ?_) (fun hc => ?_)
    · replace h := if_f hc h
      refine lv_aload_n hx hb dX11_opens_39 rfl (lv_at hl 0 rfl) ?_
      refine lv_dup hx hb dX11_opens_40 rfl ?_
      refine gf_X11_nested X hW h0 m_6_27 dX11_opens_41 ?_
      refine lv_iconst (v := 1) hx hb dX11_opens_44 (by decide) ?_
      refine lv_iadd hx hb dX11_opens_45 ?_
      refine sf_X11_nested X hW h0 m_6_27 dX11_opens_46 ?_
      clear hW; intro H locs hW
      refine nm_s hW h ?_
      clear hW h; intro σ_3 hW h
      refine lv_aload_n hx hb dX11_opens_49 rfl (lv_at hl 0 rfl) ?_
      refine lv_dup hx hb dX11_opens_50 rfl ?_
      refine gf_X11_at X hW h0 m_6_22 dX11_opens_51 ?_
      refine lv_iconst (v := 1) hx hb dX11_opens_54 (by decide) ?_
      refine lv_iadd hx hb dX11_opens_55 ?_
      refine sf_X11_at X hW h0 m_6_22 dX11_opens_56 ?_
      clear hW; intro H locs hW
      refine nm_s hW h ?_
      clear hW h; intro σ_4 hW h
      refine lv_iconst (v := 1) hx hb dX11_opens_59 (by decide) ?_
      exact rz_end hret h (by decide) dX11_opens_60 hW
    · replace h := if_t hc h
      refine lv_aload_n hx hb dX11_opens_28 rfl (lv_at hl 0 rfl) ?_
      refine lv_bipush (v := (-6)) hx hb dX11_opens_29 (by decide) ?_
      refine lv_aload_n hx hb dX11_opens_31 rfl (lv_at hl 0 rfl) ?_
      refine gf_X11_at X hW h0 m_6_22 dX11_opens_32 ?_
      obtain ⟨r_2, σ_2, hcl, h⟩ := bnd2_el h
      refine call_V1 X hW (kC_X11 h0) m_6_134 m_6_136 m_0_43 mv_X11_fails (c_X11_fails h0 hcl) (by decide) rfl rfl (Nat.le_of_ble_eq_true rfl) hl.1 dX11_opens_35 ?_
      clear hW hcl; intro H locs hW
      obtain ⟨hz, h⟩ := ckZ_el h
      exact rz_end hret h hz dX11_opens_38 hW
  · replace h := if_f hc h
    refine lv_aload_n hx hb dX11_opens_9 rfl (lv_at hl 0 rfl) ?_
    refine lv_bipush (v := (-2)) hx hb dX11_opens_10 (by decide) ?_
    refine lv_aload_n hx hb dX11_opens_12 rfl (lv_at hl 0 rfl) ?_
    refine gf_X11_at X hW h0 m_6_22 dX11_opens_13 ?_
    obtain ⟨r_5, σ_5, hcl, h⟩ := bnd2_el h
    refine call_V1 X hW (kC_X11 h0) m_6_134 m_6_136 m_0_43 mv_X11_fails (c_X11_fails h0 hcl) (by decide) rfl rfl (Nat.le_of_ble_eq_true rfl) hl.1 dX11_opens_16 ?_
    clear hW hcl; intro H locs hW
    obtain ⟨hz, h⟩ := ckZ_el h
    exact rz_end hret h hz dX11_opens_19 hW
set_option maxRecDepth 20000 in
set_option maxHeartbeats 4000000 in
theorem c_X11_closes {G : Gt} {l : Launch} {v0 : Nat} (h0 : kd v0 = 10) {σ : St} {r : Int32} {σ' : St} (hf : pf_X11_closes v0 σ = some (r, σ')) : Ct G l yX11_closes cX11_closes 1 (some .boolean) 4 [.ref (gz G + (v0))] σ (some (.int r)) σ' := by
  refine met_z (by decide +kernel) (Nat.le_of_ble_eq_true rfl) rfl ?_
  intro p e s m args below meth c Q ls X hW hret hl
  have hx := X.1.1
  have hb := X.1.2.1
  have hl : lv_has ls 1 [(0, .ref (gz G + (v0)))] := hl
  have h := hf
  clear hf
  unfold pf_X11_closes at h
  refine lv_aload_n hx hb dX11_closes_0 rfl (lv_at hl 0 rfl) ?_
  refine lv_bipush (v := 41) hx hb dX11_closes_1 (by decide) ?_
  obtain ⟨r_1, σ_1, hcl, h⟩ := bnd2_el h
  refine call_V1 X hW (kC_X11 h0) m_6_138 m_6_140 m_0_44 mv_X11_sign (c_X11_sign h0 hcl) (by decide) rfl rfl (Nat.le_of_ble_eq_true rfl) hl.1 dX11_closes_3 ?_
  clear hW hcl; intro H locs hW
  refine lv_if_ne (tgt := 11) hx hb dX11_closes_6 (by decide) (fun hc => ?_) (fun hc => ?_)
  · replace h := if_f hc h
    refine lv_aload_n hx hb dX11_closes_11 rfl (lv_at hl 0 rfl) ?_
    refine lv_dup hx hb dX11_closes_12 rfl ?_
    refine gf_X11_nested X hW h0 m_6_27 dX11_closes_13 ?_
    refine lv_iconst (v := 1) hx hb dX11_closes_16 (by decide) ?_
    refine lv_isub hx hb dX11_closes_17 ?_
    refine sf_X11_nested X hW h0 m_6_27 dX11_closes_18 ?_
    clear hW; intro H locs hW
    refine nm_s hW h ?_
    clear hW h; intro σ_2 hW h
    refine lv_iconst (v := 1) hx hb dX11_closes_21 (by decide) ?_
    exact rz_end hret h (by decide) dX11_closes_22 hW
  · replace h := if_t hc h
    refine lv_iconst (v := 0) hx hb dX11_closes_9 (by decide) ?_
    exact rz_end hret h (by decide) dX11_closes_10 hW
set_option maxRecDepth 20000 in
set_option maxHeartbeats 4000000 in
theorem c_X11_emits {G : Gt} {l : Launch} {v0 : Nat} (h0 : kd v0 = 10) {v1 : Int32} {v2 : Int32} {σ : St} {σ' : St} (hf : pf_X11_emits v0 v1 v2 σ = some σ') : Ct G l yX11_emits cX11_emits 4 none 2 [.ref (gz G + (v0)), .int (v1), .int (v2)] σ none σ' := by
  refine met_v (by decide +kernel) (Nat.le_of_ble_eq_true rfl) rfl ?_
  intro p e s m args below meth c Q ls X hW hret hl
  have hx := X.1.1
  have hb := X.1.2.1
  have hl : lv_has ls 4 [(0, .ref (gz G + (v0))), (1, .int (v1)), (2, .int (v2))] := hl
  have h := hf
  clear hf
  unfold pf_X11_emits at h
  refine lv_sipush (v := 1169) hx hb dX11_emits_0 (by decide) ?_
  refine lv_iconst (v := 2) hx hb dX11_emits_3 (by decide) ?_
  refine lv_aload_n hx hb dX11_emits_4 rfl (lv_at hl 0 rfl) ?_
  refine gf_X11_read X hW h0 m_6_8 dX11_emits_5 ?_
  refine lv_iconst (v := 3) hx hb dX11_emits_8 (by decide) ?_
  obtain ⟨hi1, h⟩ := ckI_el h
  refine r_iald X hW (kf_X11_read h0) hi1 dX11_emits_9 ?_
  refine lv_imul hx hb dX11_emits_10 ?_
  refine lv_iadd hx hb dX11_emits_11 ?_
  refine nm_i h ?_
  clear h; intro v3_2 h
  refine lv_istore_n (lv' := [(3, .int (v3_2)), (0, .ref (gz G + (v0))), (1, .int (v1)), (2, .int (v2))]) hx hb dX11_emits_12 rfl hl (by decide) rfl ?_
  clear hl; intro ls hl
  refine lv_aload_n hx hb dX11_emits_13 rfl (lv_at hl 1 rfl) ?_
  refine gf_X11_read X hW h0 m_6_8 dX11_emits_14 ?_
  refine lv_iload_n hx hb dX11_emits_17 rfl (lv_at hl 0 rfl) ?_
  refine lv_iload_n hx hb dX11_emits_18 rfl (lv_at hl 2 rfl) ?_
  obtain ⟨hi3, h⟩ := ckI_el h
  refine r_iast X hW (kf_X11_read h0) hi3 dX11_emits_19 ?_
  clear hW; intro H locs hW
  refine nm_s hW h ?_
  clear hW h; intro σ_4 hW h
  refine lv_aload_n hx hb dX11_emits_20 rfl (lv_at hl 1 rfl) ?_
  refine gf_X11_read X hW h0 m_6_8 dX11_emits_21 ?_
  refine lv_iload_n hx hb dX11_emits_24 rfl (lv_at hl 0 rfl) ?_
  refine lv_iconst (v := 1) hx hb dX11_emits_25 (by decide) ?_
  refine lv_iadd hx hb dX11_emits_26 ?_
  refine lv_iload_n hx hb dX11_emits_27 rfl (lv_at hl 3 rfl) ?_
  obtain ⟨hi5, h⟩ := ckI_el h
  refine r_iast X hW (kf_X11_read h0) hi5 dX11_emits_28 ?_
  clear hW; intro H locs hW
  refine nm_s hW h ?_
  clear hW h; intro σ_6 hW h
  refine lv_aload_n hx hb dX11_emits_29 rfl (lv_at hl 1 rfl) ?_
  refine gf_X11_read X hW h0 m_6_8 dX11_emits_30 ?_
  refine lv_iconst (v := 3) hx hb dX11_emits_33 (by decide) ?_
  refine lv_dup2_11 hx hb dX11_emits_34 rfl rfl ?_
  obtain ⟨hi7, h⟩ := ckI_el h
  refine r_iald X hW (kf_X11_read h0) hi7 dX11_emits_35 ?_
  refine lv_iconst (v := 1) hx hb dX11_emits_36 (by decide) ?_
  refine lv_iadd hx hb dX11_emits_37 ?_
  obtain ⟨hi8, h⟩ := ckI_el h
  refine r_iast X hW (kf_X11_read h0) hi8 dX11_emits_38 ?_
  clear hW; intro H locs hW
  refine nm_s hW h ?_
  clear hW h; intro σ_9 hW h
  exact rv_end hret h dX11_emits_39 hW
set_option maxRecDepth 20000 in
set_option maxHeartbeats 4000000 in
theorem c_X11_goals {G : Gt} {l : Launch} {v0 : Nat} (h0 : kd v0 = 10) {v1 : Int32} {v2 : Int32} {σ : St} {σ' : St} (hf : pf_X11_goals v0 v1 v2 σ = some σ') : Ct G l yX11_goals cX11_goals 4 none 2 [.ref (gz G + (v0)), .int (v1), .int (v2)] σ none σ' := by
  refine met_v (by decide +kernel) (Nat.le_of_ble_eq_true rfl) rfl ?_
  intro p e s m args below meth c Q ls X hW hret hl
  have hx := X.1.1
  have hb := X.1.2.1
  have hl : lv_has ls 4 [(0, .ref (gz G + (v0))), (1, .int (v1)), (2, .int (v2))] := hl
  have h := hf
  clear hf
  unfold pf_X11_goals at h
  refine lv_sipush (v := 2769) hx hb dX11_goals_0 (by decide) ?_
  refine lv_iconst (v := 2) hx hb dX11_goals_3 (by decide) ?_
  refine lv_aload_n hx hb dX11_goals_4 rfl (lv_at hl 0 rfl) ?_
  refine gf_X11_read X hW h0 m_6_8 dX11_goals_5 ?_
  refine lv_iconst (v := 4) hx hb dX11_goals_8 (by decide) ?_
  obtain ⟨hi1, h⟩ := ckI_el h
  refine r_iald X hW (kf_X11_read h0) hi1 dX11_goals_9 ?_
  refine lv_imul hx hb dX11_goals_10 ?_
  refine lv_iadd hx hb dX11_goals_11 ?_
  refine nm_i h ?_
  clear h; intro v3_2 h
  refine lv_istore_n (lv' := [(3, .int (v3_2)), (0, .ref (gz G + (v0))), (1, .int (v1)), (2, .int (v2))]) hx hb dX11_goals_12 rfl hl (by decide) rfl ?_
  clear hl; intro ls hl
  refine lv_aload_n hx hb dX11_goals_13 rfl (lv_at hl 1 rfl) ?_
  refine gf_X11_read X hW h0 m_6_8 dX11_goals_14 ?_
  refine lv_iload_n hx hb dX11_goals_17 rfl (lv_at hl 0 rfl) ?_
  refine lv_iload_n hx hb dX11_goals_18 rfl (lv_at hl 2 rfl) ?_
  obtain ⟨hi3, h⟩ := ckI_el h
  refine r_iast X hW (kf_X11_read h0) hi3 dX11_goals_19 ?_
  clear hW; intro H locs hW
  refine nm_s hW h ?_
  clear hW h; intro σ_4 hW h
  refine lv_aload_n hx hb dX11_goals_20 rfl (lv_at hl 1 rfl) ?_
  refine gf_X11_read X hW h0 m_6_8 dX11_goals_21 ?_
  refine lv_iload_n hx hb dX11_goals_24 rfl (lv_at hl 0 rfl) ?_
  refine lv_iconst (v := 1) hx hb dX11_goals_25 (by decide) ?_
  refine lv_iadd hx hb dX11_goals_26 ?_
  refine lv_iload_n hx hb dX11_goals_27 rfl (lv_at hl 3 rfl) ?_
  obtain ⟨hi5, h⟩ := ckI_el h
  refine r_iast X hW (kf_X11_read h0) hi5 dX11_goals_28 ?_
  clear hW; intro H locs hW
  refine nm_s hW h ?_
  clear hW h; intro σ_6 hW h
  refine lv_aload_n hx hb dX11_goals_29 rfl (lv_at hl 1 rfl) ?_
  refine gf_X11_read X hW h0 m_6_8 dX11_goals_30 ?_
  refine lv_iconst (v := 4) hx hb dX11_goals_33 (by decide) ?_
  refine lv_dup2_11 hx hb dX11_goals_34 rfl rfl ?_
  obtain ⟨hi7, h⟩ := ckI_el h
  refine r_iald X hW (kf_X11_read h0) hi7 dX11_goals_35 ?_
  refine lv_iconst (v := 1) hx hb dX11_goals_36 (by decide) ?_
  refine lv_iadd hx hb dX11_goals_37 ?_
  obtain ⟨hi8, h⟩ := ckI_el h
  refine r_iast X hW (kf_X11_read h0) hi8 dX11_goals_38 ?_
  clear hW; intro H locs hW
  refine nm_s hW h ?_
  clear hW h; intro σ_9 hW h
  exact rv_end hret h dX11_goals_39 hW
set_option maxRecDepth 20000 in
set_option maxHeartbeats 4000000 in
theorem bl_X11_readsStock_b29 (X : Cx G p R s m args c cells slots cX11_readsStock 2 RX11 5) {r : Int32} {σ' : St} (hret : R_Z G p l e R s m args below meth c cells slots Q cX11_readsStock r σ') :
    ∀ (v0 : Nat) (h0 : kd v0 = 10) (σ : St) (_ : pf_X11_readsStock_b29 v0 σ = some (r, σ')) (H : Heap) (locs : List Loc) (ls : Array Slot) (_ : GW G σ s H locs) (_ : lv_has ls 2 [(0, .ref (gz G + (v0)))]), W p l e R s m args below meth c H locs cells slots Q (F0 m 29 ls []) := by
  have hx := X.1.1
  have hb := X.1.2.1
  intro v0 h0 σ h H locs ls hW hl
  unfold pf_X11_readsStock_b29 at h
  refine lv_aload_n hx hb dX11_readsStock_29 rfl (lv_at hl 0 rfl) ?_
  refine lv_bipush (v := (-4)) hx hb dX11_readsStock_30 (by decide) ?_
  refine lv_aload_n hx hb dX11_readsStock_32 rfl (lv_at hl 0 rfl) ?_
  refine gf_X11_from X hW h0 m_6_26 dX11_readsStock_33 ?_
  obtain ⟨r_1, σ_1, hcl, h⟩ := bnd2_el h
  refine call_V1 X hW (kC_X11 h0) m_6_134 m_6_136 m_0_43 mv_X11_fails (c_X11_fails h0 hcl) (by decide) rfl rfl (Nat.le_of_ble_eq_true rfl) hl.1 dX11_readsStock_36 ?_
  clear hW hcl; intro H locs hW
  obtain ⟨hz, h⟩ := ckZ_el h
  exact rz_end hret h hz dX11_readsStock_39 hW
set_option maxRecDepth 20000 in
set_option maxHeartbeats 4000000 in
theorem bl_X11_readsStock_L0 (X : Cx G p R s m args c cells slots cX11_readsStock 2 RX11 5) {r : Int32} {σ' : St} (hret : R_Z G p l e R s m args below meth c cells slots Q cX11_readsStock r σ') {k29 : Nat → St → (Option (Int32 × St))}
    (hk29 : ∀ (v0 : Nat) (h0 : kd v0 = 10) (σ : St) (_ : k29 v0 σ = some (r, σ')) (H : Heap) (locs : List Loc) (ls : Array Slot) (_ : GW G σ s H locs) (_ : lv_has ls 2 [(0, .ref (gz G + (v0)))]), W p l e R s m args below meth c H locs cells slots Q (F0 m 29 ls [])) :
    ∀ (n : Nat), ∀ (v0 : Nat) (h0 : kd v0 = 10) (σ : St) (_ : pf_X11_readsStock_L0 k29 n v0 σ = some (r, σ')) (H : Heap) (locs : List Loc) (ls : Array Slot) (_ : GW G σ s H locs) (_ : lv_has ls 2 [(0, .ref (gz G + (v0)))]), W p l e R s m args below meth c H locs cells slots Q (F0 m 0 ls []) := by
  have hx := X.1.1
  have hb := X.1.2.1
  intro n
  induction n with
  | zero => intro v0 h0 σ h H locs ls hW hl; cases h
  | succ n ih =>
    intro v0 h0 σ h H locs ls hW hl
    rw [pf_X11_readsStock_L0.eq_2] at h
    refine lv_aload_n hx hb dX11_readsStock_0 rfl (lv_at hl 0 rfl) ?_
    refine lv_iconst (v := 0) hx hb dX11_readsStock_1 (by decide) ?_
    refine lv_bipush (v := 7) hx hb dX11_readsStock_2 (by decide) ?_
    obtain ⟨r_1, σ_1, hcl, h⟩ := bnd2_el h
    refine call_V1 X hW (kC_X11 h0) m_6_147 m_6_149 m_0_46 mv_X11_reads (c_X11_reads h0 hcl) (by decide) rfl rfl (Nat.le_of_ble_eq_true rfl) hl.1 dX11_readsStock_4 ?_
    clear hW hcl; intro H locs hW
    refine lv_if_ne (tgt := 12) hx hb dX11_readsStock_7 (by decide) (fun hc => ?_) (fun hc => ?_)
    · replace h := if_f hc h
      refine lv_aload_n hx hb dX11_readsStock_12 rfl (lv_at hl 0 rfl) ?_
      refine gf_X11_number X hW h0 m_6_25 dX11_readsStock_13 ?_
      refine nm_i h ?_
      clear h; intro v1_2 h
      refine lv_istore_n (lv' := [(1, .int (v1_2)), (0, .ref (gz G + (v0)))]) hx hb dX11_readsStock_16 rfl hl (by decide) rfl ?_
      clear hl; intro ls hl
      refine lv_aload_n hx hb dX11_readsStock_17 rfl (lv_at hl 1 rfl) ?_
      refine gf_X11_stocked X hW h0 m_6_31 dX11_readsStock_18 ?_
      refine lv_iload_n hx hb dX11_readsStock_21 rfl (lv_at hl 0 rfl) ?_
      refine w_ishr hx hb dX11_readsStock_22 ?_
      refine lv_iconst (v := 1) hx hb dX11_readsStock_23 (by decide) ?_
      refine lv_iand hx hb dX11_readsStock_24 ?_
      refine lv_iconst (v := 1) hx hb dX11_readsStock_25 (by decide) ?_
      refine lv_icmp_ne (tgt := 40) hx hb dX11_readsStock_26 (by decide) (fun hc => ?_) (fun hc => ?_)
      · replace h := if_f hc h
        refine lv_aload_n hx hb dX11_readsStock_40 rfl (lv_at hl 1 rfl) ?_
        refine lv_dup hx hb dX11_readsStock_41 rfl ?_
        refine gf_X11_stocked X hW h0 m_6_31 dX11_readsStock_42 ?_
        refine lv_iconst (v := 1) hx hb dX11_readsStock_45 (by decide) ?_
        refine lv_iload_n hx hb dX11_readsStock_46 rfl (lv_at hl 0 rfl) ?_
        refine w_ishl hx hb dX11_readsStock_47 ?_
        refine lv_ior hx hb dX11_readsStock_48 ?_
        refine sf_X11_stocked X hW h0 m_6_31 dX11_readsStock_49 ?_
        clear hW; intro H locs hW
        refine nm_s hW h ?_
        clear hW h; intro σ_3 hW h
        refine lv_aload_n hx hb dX11_readsStock_52 rfl (lv_at hl 1 rfl) ?_
        refine lv_iconst (v := 0) hx hb dX11_readsStock_53 (by decide) ?_
        refine lv_sipush (v := 999) hx hb dX11_readsStock_54 (by decide) ?_
        obtain ⟨r_4, σ_4, hcl, h⟩ := bnd2_el h
        refine call_V1 X hW (kC_X11 h0) m_6_147 m_6_149 m_0_46 mv_X11_reads (c_X11_reads h0 hcl) (by decide) rfl rfl (Nat.le_of_ble_eq_true rfl) hl.1 dX11_readsStock_57 ?_
        clear hW hcl; intro H locs hW
        refine lv_if_ne (tgt := 65) hx hb dX11_readsStock_60 (by decide) (fun hc => ?_) (fun hc => ?_)
        · replace h := if_f hc h
          refine lv_aload_n hx hb dX11_readsStock_65 rfl (lv_at hl 1 rfl) ?_
          refine gf_X11_read X hW h0 m_6_8 dX11_readsStock_66 ?_
          refine lv_iconst (v := 5) hx hb dX11_readsStock_69 (by decide) ?_
          refine lv_iload_n hx hb dX11_readsStock_70 rfl (lv_at hl 0 rfl) ?_
          refine lv_iadd hx hb dX11_readsStock_71 ?_
          refine lv_aload_n hx hb dX11_readsStock_72 rfl (lv_at hl 1 rfl) ?_
          refine gf_X11_number X hW h0 m_6_25 dX11_readsStock_73 ?_
          obtain ⟨hi5, h⟩ := ckI_el h
          refine r_iast X hW (kf_X11_read h0) hi5 dX11_readsStock_76 ?_
          clear hW; intro H locs hW
          refine nm_s hW h ?_
          clear hW h; intro σ_6 hW h
          refine lv_aload_n hx hb dX11_readsStock_77 rfl (lv_at hl 1 rfl) ?_
          obtain ⟨r_7, σ_7, hcl, h⟩ := bnd2_el h
          refine call_V1 X hW (kC_X11 h0) m_6_159 m_6_161 m_0_48 mv_X11_more (c_X11_more h0 hcl) (by decide) rfl rfl (Nat.le_of_ble_eq_true rfl) hl.1 dX11_readsStock_78 ?_
          clear hW hcl; intro H locs hW
          refine lv_if_ne (tgt := 0) hx hb dX11_readsStock_81 (by decide) (fun hc => ?_) (fun hc => ?_)
          · replace h := if_f hc h
            exact ih v0 h0 σ_7 h _ _ _ hW (lv_sub hl [1] rfl)
          · replace h := if_t hc h
            refine lv_iconst (v := 1) hx hb dX11_readsStock_84 (by decide) ?_
            exact rz_end hret h (by decide) dX11_readsStock_85 hW
        · replace h := if_t hc h
          refine lv_iconst (v := 0) hx hb dX11_readsStock_63 (by decide) ?_
          exact rz_end hret h (by decide) dX11_readsStock_64 hW
      · replace h := if_t hc h
        exact hk29 v0 h0 σ_1 h _ _ _ hW (lv_sub hl [1] rfl)
    · replace h := if_t hc h
      refine lv_iconst (v := 0) hx hb dX11_readsStock_10 (by decide) ?_
      exact rz_end hret h (by decide) dX11_readsStock_11 hW
set_option maxRecDepth 20000 in
set_option maxHeartbeats 4000000 in
theorem c_X11_readsStock {G : Gt} {l : Launch} {v0 : Nat} (h0 : kd v0 = 10) {σ : St} {r : Int32} {σ' : St} (hf : pf_X11_readsStock v0 σ = some (r, σ')) : Ct G l yX11_readsStock cX11_readsStock 2 (some .boolean) 5 [.ref (gz G + (v0))] σ (some (.int r)) σ' := by
  refine met_z (by decide +kernel) (Nat.le_of_ble_eq_true rfl) rfl ?_
  intro p e s m args below meth c Q ls X hW hret hl
  have hx := X.1.1
  have hb := X.1.2.1
  have hl : lv_has ls 2 [(0, .ref (gz G + (v0)))] := hl
  have h := hf
  clear hf
  unfold pf_X11_readsStock at h
  exact bl_X11_readsStock_L0 X hret (bl_X11_readsStock_b29 X hret) FU v0 h0 σ h _ _ _ hW (lv_sub hl [0] rfl)
set_option maxRecDepth 20000 in
set_option maxHeartbeats 4000000 in
theorem bl_X11_readsAmounts_b28 (X : Cx G p R s m args c cells slots cX11_readsAmounts 3 RX11 5) {r : Int32} {σ' : St} (hret : R_Z G p l e R s m args below meth c cells slots Q cX11_readsAmounts r σ') :
    ∀ (v0 : Nat) (h0 : kd v0 = 10) (σ : St) (_ : pf_X11_readsAmounts_b28 v0 σ = some (r, σ')) (H : Heap) (locs : List Loc) (ls : Array Slot) (_ : GW G σ s H locs) (_ : lv_has ls 3 [(0, .ref (gz G + (v0)))]), W p l e R s m args below meth c H locs cells slots Q (F0 m 28 ls []) := by
  have hx := X.1.1
  have hb := X.1.2.1
  intro v0 h0 σ h H locs ls hW hl
  unfold pf_X11_readsAmounts_b28 at h
  refine lv_aload_n hx hb dX11_readsAmounts_28 rfl (lv_at hl 0 rfl) ?_
  refine lv_bipush (v := (-4)) hx hb dX11_readsAmounts_29 (by decide) ?_
  refine lv_aload_n hx hb dX11_readsAmounts_31 rfl (lv_at hl 0 rfl) ?_
  refine gf_X11_from X hW h0 m_6_26 dX11_readsAmounts_32 ?_
  obtain ⟨r_1, σ_1, hcl, h⟩ := bnd2_el h
  refine call_V1 X hW (kC_X11 h0) m_6_134 m_6_136 m_0_43 mv_X11_fails (c_X11_fails h0 hcl) (by decide) rfl rfl (Nat.le_of_ble_eq_true rfl) hl.1 dX11_readsAmounts_35 ?_
  clear hW hcl; intro H locs hW
  obtain ⟨hz, h⟩ := ckZ_el h
  exact rz_end hret h hz dX11_readsAmounts_38 hW
set_option maxRecDepth 20000 in
set_option maxHeartbeats 4000000 in
theorem bl_X11_readsAmounts_L0 (X : Cx G p R s m args c cells slots cX11_readsAmounts 3 RX11 5) {r : Int32} {σ' : St} (hret : R_Z G p l e R s m args below meth c cells slots Q cX11_readsAmounts r σ') {k28 : Nat → St → (Option (Int32 × St))}
    (hk28 : ∀ (v0 : Nat) (h0 : kd v0 = 10) (σ : St) (_ : k28 v0 σ = some (r, σ')) (H : Heap) (locs : List Loc) (ls : Array Slot) (_ : GW G σ s H locs) (_ : lv_has ls 3 [(0, .ref (gz G + (v0)))]), W p l e R s m args below meth c H locs cells slots Q (F0 m 28 ls [])) :
    ∀ (n : Nat), ∀ (v0 : Nat) (h0 : kd v0 = 10) (v1 : Int32) (σ : St) (_ : pf_X11_readsAmounts_L0 k28 n v0 v1 σ = some (r, σ')) (H : Heap) (locs : List Loc) (ls : Array Slot) (_ : GW G σ s H locs) (_ : lv_has ls 3 [(0, .ref (gz G + (v0))), (1, .int (v1))]), W p l e R s m args below meth c H locs cells slots Q (F0 m 0 ls []) := by
  have hx := X.1.1
  have hb := X.1.2.1
  intro n
  induction n with
  | zero => intro v0 h0 v1 σ h H locs ls hW hl; cases h
  | succ n ih =>
    intro v0 h0 v1 σ h H locs ls hW hl
    rw [pf_X11_readsAmounts_L0.eq_2] at h
    refine lv_aload_n hx hb dX11_readsAmounts_0 rfl (lv_at hl 0 rfl) ?_
    refine lv_iconst (v := 0) hx hb dX11_readsAmounts_1 (by decide) ?_
    refine lv_bipush (v := 7) hx hb dX11_readsAmounts_2 (by decide) ?_
    obtain ⟨r_1, σ_1, hcl, h⟩ := bnd2_el h
    refine call_V1 X hW (kC_X11 h0) m_6_147 m_6_149 m_0_46 mv_X11_reads (c_X11_reads h0 hcl) (by decide) rfl rfl (Nat.le_of_ble_eq_true rfl) hl.1 dX11_readsAmounts_4 ?_
    clear hW hcl; intro H locs hW
    refine lv_if_ne (tgt := 12) hx hb dX11_readsAmounts_7 (by decide) (fun hc => ?_) (fun hc => ?_)
    · replace h := if_f hc h
      refine lv_aload_n hx hb dX11_readsAmounts_12 rfl (lv_at hl 0 rfl) ?_
      refine gf_X11_number X hW h0 m_6_25 dX11_readsAmounts_13 ?_
      refine nm_i h ?_
      clear h; intro v2_2 h
      refine lv_istore_n (lv' := [(2, .int (v2_2)), (0, .ref (gz G + (v0))), (1, .int (v1))]) hx hb dX11_readsAmounts_16 rfl hl (by decide) rfl ?_
      clear hl; intro ls hl
      refine lv_aload_n hx hb dX11_readsAmounts_17 rfl (lv_at hl 1 rfl) ?_
      refine gf_X11_read X hW h0 m_6_8 dX11_readsAmounts_18 ?_
      refine lv_iload_n hx hb dX11_readsAmounts_21 rfl (lv_at hl 2 rfl) ?_
      refine lv_iload_n hx hb dX11_readsAmounts_22 rfl (lv_at hl 0 rfl) ?_
      refine lv_iadd hx hb dX11_readsAmounts_23 ?_
      obtain ⟨hi3, h⟩ := ckI_el h
      refine r_iald X hW (kf_X11_read h0) hi3 dX11_readsAmounts_24 ?_
      refine lv_if_le (tgt := 39) hx hb dX11_readsAmounts_25 (by decide) (fun hc => ?_) (fun hc => ?_)
      · replace h := if_t hc h
        refine lv_aload_n hx hb dX11_readsAmounts_39 rfl (lv_at hl 1 rfl) ?_
        refine lv_iconst (v := 1) hx hb dX11_readsAmounts_40 (by decide) ?_
        refine lv_bipush (v := 99) hx hb dX11_readsAmounts_41 (by decide) ?_
        obtain ⟨r_4, σ_4, hcl, h⟩ := bnd2_el h
        refine call_V1 X hW (kC_X11 h0) m_6_147 m_6_149 m_0_46 mv_X11_reads (c_X11_reads h0 hcl) (by decide) rfl rfl (Nat.le_of_ble_eq_true rfl) hl.1 dX11_readsAmounts_43 ?_
        clear hW hcl; intro H locs hW
        refine lv_if_ne (tgt := 51) hx hb dX11_readsAmounts_46 (by decide) (fun hc => ?_) (fun hc => ?_)
        · replace h := if_f hc h
          refine lv_aload_n hx hb dX11_readsAmounts_51 rfl (lv_at hl 1 rfl) ?_
          refine gf_X11_read X hW h0 m_6_8 dX11_readsAmounts_52 ?_
          refine lv_iload_n hx hb dX11_readsAmounts_55 rfl (lv_at hl 2 rfl) ?_
          refine lv_iload_n hx hb dX11_readsAmounts_56 rfl (lv_at hl 0 rfl) ?_
          refine lv_iadd hx hb dX11_readsAmounts_57 ?_
          refine lv_aload_n hx hb dX11_readsAmounts_58 rfl (lv_at hl 1 rfl) ?_
          refine gf_X11_number X hW h0 m_6_25 dX11_readsAmounts_59 ?_
          obtain ⟨hi5, h⟩ := ckI_el h
          refine r_iast X hW (kf_X11_read h0) hi5 dX11_readsAmounts_62 ?_
          clear hW; intro H locs hW
          refine nm_s hW h ?_
          clear hW h; intro σ_6 hW h
          refine lv_aload_n hx hb dX11_readsAmounts_63 rfl (lv_at hl 1 rfl) ?_
          obtain ⟨r_7, σ_7, hcl, h⟩ := bnd2_el h
          refine call_V1 X hW (kC_X11 h0) m_6_159 m_6_161 m_0_48 mv_X11_more (c_X11_more h0 hcl) (by decide) rfl rfl (Nat.le_of_ble_eq_true rfl) hl.1 dX11_readsAmounts_64 ?_
          clear hW hcl; intro H locs hW
          refine lv_if_ne (tgt := 0) hx hb dX11_readsAmounts_67 (by decide) (fun hc => ?_) (fun hc => ?_)
          · replace h := if_f hc h
            exact ih v0 h0 v1 σ_7 h _ _ _ hW (lv_sub hl [1, 2] rfl)
          · replace h := if_t hc h
            refine lv_iconst (v := 1) hx hb dX11_readsAmounts_70 (by decide) ?_
            exact rz_end hret h (by decide) dX11_readsAmounts_71 hW
        · replace h := if_t hc h
          refine lv_iconst (v := 0) hx hb dX11_readsAmounts_49 (by decide) ?_
          exact rz_end hret h (by decide) dX11_readsAmounts_50 hW
      · replace h := if_f hc h
        exact hk28 v0 h0 σ_1 h _ _ _ hW (lv_sub hl [1] rfl)
    · replace h := if_t hc h
      refine lv_iconst (v := 0) hx hb dX11_readsAmounts_10 (by decide) ?_
      exact rz_end hret h (by decide) dX11_readsAmounts_11 hW
set_option maxRecDepth 20000 in
set_option maxHeartbeats 4000000 in
theorem c_X11_readsAmounts {G : Gt} {l : Launch} {v0 : Nat} (h0 : kd v0 = 10) {v1 : Int32} {σ : St} {r : Int32} {σ' : St} (hf : pf_X11_readsAmounts v0 v1 σ = some (r, σ')) : Ct G l yX11_readsAmounts cX11_readsAmounts 3 (some .boolean) 5 [.ref (gz G + (v0)), .int (v1)] σ (some (.int r)) σ' := by
  refine met_z (by decide +kernel) (Nat.le_of_ble_eq_true rfl) rfl ?_
  intro p e s m args below meth c Q ls X hW hret hl
  have hx := X.1.1
  have hb := X.1.2.1
  have hl : lv_has ls 3 [(0, .ref (gz G + (v0))), (1, .int (v1))] := hl
  have h := hf
  clear hf
  unfold pf_X11_readsAmounts at h
  exact bl_X11_readsAmounts_L0 X hret (bl_X11_readsAmounts_b28 X hret) FU v0 h0 v1 σ h _ _ _ hW (lv_sub hl [0, 1] rfl)
set_option maxRecDepth 20000 in
set_option maxHeartbeats 4000000 in
theorem bl_X11_readsAfter_b35 (X : Cx G p R s m args c cells slots cX11_readsAfter 2 RX11 5) {r : Int32} {σ' : St} (hret : R_Z G p l e R s m args below meth c cells slots Q cX11_readsAfter r σ') :
    ∀ (v0 : Nat) (h0 : kd v0 = 10) (σ : St) (_ : pf_X11_readsAfter_b35 v0 σ = some (r, σ')) (H : Heap) (locs : List Loc) (ls : Array Slot) (_ : GW G σ s H locs) (_ : lv_has ls 2 [(0, .ref (gz G + (v0)))]), W p l e R s m args below meth c H locs cells slots Q (F0 m 35 ls []) := by
  have hx := X.1.1
  have hb := X.1.2.1
  intro v0 h0 σ h H locs ls hW hl
  unfold pf_X11_readsAfter_b35 at h
  refine lv_aload_n hx hb dX11_readsAfter_35 rfl (lv_at hl 0 rfl) ?_
  refine lv_bipush (v := (-4)) hx hb dX11_readsAfter_36 (by decide) ?_
  refine lv_aload_n hx hb dX11_readsAfter_38 rfl (lv_at hl 0 rfl) ?_
  refine gf_X11_from X hW h0 m_6_26 dX11_readsAfter_39 ?_
  obtain ⟨r_1, σ_1, hcl, h⟩ := bnd2_el h
  refine call_V1 X hW (kC_X11 h0) m_6_134 m_6_136 m_0_43 mv_X11_fails (c_X11_fails h0 hcl) (by decide) rfl rfl (Nat.le_of_ble_eq_true rfl) hl.1 dX11_readsAfter_42 ?_
  clear hW hcl; intro H locs hW
  obtain ⟨hz, h⟩ := ckZ_el h
  exact rz_end hret h hz dX11_readsAfter_45 hW
set_option maxRecDepth 20000 in
set_option maxHeartbeats 4000000 in
theorem bl_X11_readsAfter_L0 (X : Cx G p R s m args c cells slots cX11_readsAfter 2 RX11 5) {r : Int32} {σ' : St} (hret : R_Z G p l e R s m args below meth c cells slots Q cX11_readsAfter r σ') {k35 : Nat → St → (Option (Int32 × St))}
    (hk35 : ∀ (v0 : Nat) (h0 : kd v0 = 10) (σ : St) (_ : k35 v0 σ = some (r, σ')) (H : Heap) (locs : List Loc) (ls : Array Slot) (_ : GW G σ s H locs) (_ : lv_has ls 2 [(0, .ref (gz G + (v0)))]), W p l e R s m args below meth c H locs cells slots Q (F0 m 35 ls [])) :
    ∀ (n : Nat), ∀ (v0 : Nat) (h0 : kd v0 = 10) (v1 : Int32) (σ : St) (_ : pf_X11_readsAfter_L0 k35 n v0 v1 σ = some (r, σ')) (H : Heap) (locs : List Loc) (ls : Array Slot) (_ : GW G σ s H locs) (_ : lv_has ls 2 [(0, .ref (gz G + (v0))), (1, .int (v1))]), W p l e R s m args below meth c H locs cells slots Q (F0 m 0 ls []) := by
  have hx := X.1.1
  have hb := X.1.2.1
  intro n
  induction n with
  | zero => intro v0 h0 v1 σ h H locs ls hW hl; cases h
  | succ n ih =>
    intro v0 h0 v1 σ h H locs ls hW hl
    rw [pf_X11_readsAfter_L0.eq_2] at h
    refine lv_aload_n hx hb dX11_readsAfter_0 rfl (lv_at hl 0 rfl) ?_
    refine lv_iconst (v := 0) hx hb dX11_readsAfter_1 (by decide) ?_
    refine lv_aload_n hx hb dX11_readsAfter_2 rfl (lv_at hl 0 rfl) ?_
    refine gf_X11_stepsRead X hW h0 m_6_28 dX11_readsAfter_3 ?_
    refine lv_iconst (v := 1) hx hb dX11_readsAfter_6 (by decide) ?_
    refine lv_isub hx hb dX11_readsAfter_7 ?_
    obtain ⟨r_1, σ_1, hcl, h⟩ := bnd2_el h
    refine call_V1 X hW (kC_X11 h0) m_6_147 m_6_149 m_0_46 mv_X11_reads (c_X11_reads h0 hcl) (by decide) rfl rfl (Nat.le_of_ble_eq_true rfl) hl.1 dX11_readsAfter_8 ?_
    clear hW hcl; intro H locs hW
    refine lv_if_ne (tgt := 16) hx hb dX11_readsAfter_11 (by decide) (fun hc => ?_) (fun hc => ?_)
    · replace h := if_f hc h
      refine lv_aload_n hx hb dX11_readsAfter_16 rfl (lv_at hl 0 rfl) ?_
      refine gf_X11_read X hW h0 m_6_8 dX11_readsAfter_17 ?_
      refine lv_iload_n hx hb dX11_readsAfter_20 rfl (lv_at hl 1 rfl) ?_
      refine lv_iconst (v := 4) hx hb dX11_readsAfter_21 (by decide) ?_
      refine lv_iadd hx hb dX11_readsAfter_22 ?_
      obtain ⟨hi2, h⟩ := ckI_el h
      refine r_iald X hW (kf_X11_read h0) hi2 dX11_readsAfter_23 ?_
      refine lv_aload_n hx hb dX11_readsAfter_24 rfl (lv_at hl 0 rfl) ?_
      refine gf_X11_number X hW h0 m_6_25 dX11_readsAfter_25 ?_
      refine w_ishr hx hb dX11_readsAfter_28 ?_
      refine lv_iconst (v := 1) hx hb dX11_readsAfter_29 (by decide) ?_
      refine lv_iand hx hb dX11_readsAfter_30 ?_
      refine lv_iconst (v := 1) hx hb dX11_readsAfter_31 (by decide) ?_
      refine lv_icmp_ne (tgt := 46) hx hb dX11_readsAfter_32 (by decide) (fun hc => ?_) (fun hc => ?_)
      · replace h := if_f hc h
        refine lv_aload_n hx hb dX11_readsAfter_46 rfl (lv_at hl 0 rfl) ?_
        refine gf_X11_read X hW h0 m_6_8 dX11_readsAfter_47 ?_
        refine lv_iload_n hx hb dX11_readsAfter_50 rfl (lv_at hl 1 rfl) ?_
        refine lv_iconst (v := 4) hx hb dX11_readsAfter_51 (by decide) ?_
        refine lv_iadd hx hb dX11_readsAfter_52 ?_
        refine lv_dup2_11 hx hb dX11_readsAfter_53 rfl rfl ?_
        obtain ⟨hi3, h⟩ := ckI_el h
        refine r_iald X hW (kf_X11_read h0) hi3 dX11_readsAfter_54 ?_
        refine lv_iconst (v := 1) hx hb dX11_readsAfter_55 (by decide) ?_
        refine lv_aload_n hx hb dX11_readsAfter_56 rfl (lv_at hl 0 rfl) ?_
        refine gf_X11_number X hW h0 m_6_25 dX11_readsAfter_57 ?_
        refine w_ishl hx hb dX11_readsAfter_60 ?_
        refine lv_ior hx hb dX11_readsAfter_61 ?_
        obtain ⟨hi4, h⟩ := ckI_el h
        refine r_iast X hW (kf_X11_read h0) hi4 dX11_readsAfter_62 ?_
        clear hW; intro H locs hW
        refine nm_s hW h ?_
        clear hW h; intro σ_5 hW h
        refine lv_aload_n hx hb dX11_readsAfter_63 rfl (lv_at hl 0 rfl) ?_
        obtain ⟨r_6, σ_6, hcl, h⟩ := bnd2_el h
        refine call_V1 X hW (kC_X11 h0) m_6_159 m_6_161 m_0_48 mv_X11_more (c_X11_more h0 hcl) (by decide) rfl rfl (Nat.le_of_ble_eq_true rfl) hl.1 dX11_readsAfter_64 ?_
        clear hW hcl; intro H locs hW
        refine lv_if_ne (tgt := 0) hx hb dX11_readsAfter_67 (by decide) (fun hc => ?_) (fun hc => ?_)
        · replace h := if_f hc h
          exact ih v0 h0 v1 σ_6 h _ _ _ hW (lv_sub hl [0, 1] rfl)
        · replace h := if_t hc h
          refine lv_iconst (v := 1) hx hb dX11_readsAfter_70 (by decide) ?_
          exact rz_end hret h (by decide) dX11_readsAfter_71 hW
      · replace h := if_t hc h
        exact hk35 v0 h0 σ_1 h _ _ _ hW (lv_sub hl [0] rfl)
    · replace h := if_t hc h
      refine lv_iconst (v := 0) hx hb dX11_readsAfter_14 (by decide) ?_
      exact rz_end hret h (by decide) dX11_readsAfter_15 hW
set_option maxRecDepth 20000 in
set_option maxHeartbeats 4000000 in
theorem c_X11_readsAfter {G : Gt} {l : Launch} {v0 : Nat} (h0 : kd v0 = 10) {v1 : Int32} {σ : St} {r : Int32} {σ' : St} (hf : pf_X11_readsAfter v0 v1 σ = some (r, σ')) : Ct G l yX11_readsAfter cX11_readsAfter 2 (some .boolean) 5 [.ref (gz G + (v0)), .int (v1)] σ (some (.int r)) σ' := by
  refine met_z (by decide +kernel) (Nat.le_of_ble_eq_true rfl) rfl ?_
  intro p e s m args below meth c Q ls X hW hret hl
  have hx := X.1.1
  have hb := X.1.2.1
  have hl : lv_has ls 2 [(0, .ref (gz G + (v0))), (1, .int (v1))] := hl
  have h := hf
  clear hf
  unfold pf_X11_readsAfter at h
  exact bl_X11_readsAfter_L0 X hret (bl_X11_readsAfter_b35 X hret) FU v0 h0 v1 σ h _ _ _ hW (lv_sub hl [0, 1] rfl)
set_option maxRecDepth 20000 in
set_option maxHeartbeats 4000000 in
theorem bl_X11_counted_b115 (X : Cx G p R s m args c cells slots cX11_counted 4 RX11 10) {r : Int32} {σ' : St} (hret : R_I G p l e R s m args below meth c cells slots Q cX11_counted r σ') {k4 : Nat → Int32 → Int32 → Int32 → St → (Option (Int32 × St))}
    (hk4 : ∀ (v0 : Nat) (h0 : kd v0 = 10) (v1 : Int32) (v2 : Int32) (v3 : Int32) (σ : St) (_ : k4 v0 v1 v2 v3 σ = some (r, σ')) (H : Heap) (locs : List Loc) (ls : Array Slot) (_ : GW G σ s H locs) (_ : lv_has ls 4 [(0, .ref (gz G + (v0))), (1, .int (v1)), (2, .int (v2)), (3, .int (v3))]), W p l e R s m args below meth c H locs cells slots Q (F0 m 4 ls [])) :
    ∀ (v0 : Nat) (h0 : kd v0 = 10) (v1 : Int32) (v3 : Int32) (s0 : Int32) (s1 : Int32) (σ : St) (_ : pf_X11_counted_b115 k4 v0 v1 v3 s0 s1 σ = some (r, σ')) (H : Heap) (locs : List Loc) (ls : Array Slot) (_ : GW G σ s H locs) (_ : lv_has ls 4 [(0, .ref (gz G + (v0))), (1, .int (v1)), (3, .int (v3))]), W p l e R s m args below meth c H locs cells slots Q (F0 m 115 ls [.int (s1), .int (s0)]) := by
  have hx := X.1.1
  have hb := X.1.2.1
  intro v0 h0 v1 v3 s0 s1 σ h H locs ls hW hl
  unfold pf_X11_counted_b115 at h
  refine lv_iadd hx hb dX11_counted_115 ?_
  refine nm_i h ?_
  clear h; intro v2_1 h
  refine lv_istore_n (lv' := [(2, .int (v2_1)), (0, .ref (gz G + (v0))), (1, .int (v1)), (3, .int (v3))]) hx hb dX11_counted_116 rfl hl (by decide) rfl ?_
  clear hl; intro ls hl
  refine w_iinc (v := 1) (lv' := fun y => [(3, .int (y)), (2, .int (v2_1)), (0, .ref (gz G + (v0))), (1, .int (v1))]) hx hb dX11_counted_117 hl (k := 3) rfl (by decide) (by decide) (fun _ => rfl) h ?_
  clear h hl; intro v3_2 h ls hl
  refine lv_goto (tgt := 4) hx hb dX11_counted_120 (by decide) ?_
  exact hk4 v0 h0 v1 v2_1 v3_2 σ h _ _ _ hW (lv_sub hl [2, 3, 1, 0] rfl)
set_option maxRecDepth 20000 in
set_option maxHeartbeats 4000000 in
theorem bl_X11_counted_L4 (X : Cx G p R s m args c cells slots cX11_counted 4 RX11 10) {r : Int32} {σ' : St} (hret : R_I G p l e R s m args below meth c cells slots Q cX11_counted r σ') :
    ∀ (n : Nat), ∀ (v0 : Nat) (h0 : kd v0 = 10) (v1 : Int32) (v2 : Int32) (v3 : Int32) (σ : St) (_ : pf_X11_counted_L4 n v0 v1 v2 v3 σ = some (r, σ')) (H : Heap) (locs : List Loc) (ls : Array Slot) (_ : GW G σ s H locs) (_ : lv_has ls 4 [(0, .ref (gz G + (v0))), (1, .int (v1)), (2, .int (v2)), (3, .int (v3))]), W p l e R s m args below meth c H locs cells slots Q (F0 m 4 ls []) := by
  have hx := X.1.1
  have hb := X.1.2.1
  intro n
  induction n with
  | zero => intro v0 h0 v1 v2 v3 σ h H locs ls hW hl; cases h
  | succ n ih =>
    intro v0 h0 v1 v2 v3 σ h H locs ls hW hl
    rw [pf_X11_counted_L4.eq_2] at h
    refine lv_iload_n hx hb dX11_counted_4 rfl (lv_at hl 3 rfl) ?_
    refine lv_aload_n hx hb dX11_counted_5 rfl (lv_at hl 0 rfl) ?_
    refine lv_iconst (v := 0) hx hb dX11_counted_6 (by decide) ?_
    obtain ⟨r_1, hcl, h⟩ := bind_el h
    refine call_V1 X hW (kC_X11 h0) m_7_17 m_7_19 m_0_68 mv_X11_get (c_X11_get h0 hcl) (by decide) rfl rfl (Nat.le_of_ble_eq_true rfl) hl.1 dX11_counted_7 ?_
    clear hW hcl; intro H locs hW
    refine lv_icmp_ge (tgt := 123) hx hb dX11_counted_10 (by decide) (fun hc => ?_) (fun hc => ?_)
    · replace h := if_t hc h
      refine lv_iload_n hx hb dX11_counted_123 rfl (lv_at hl 2 rfl) ?_
      exact ri_end hret h dX11_counted_124 hW
    · replace h := if_f hc h
      refine lv_iload_n hx hb dX11_counted_13 rfl (lv_at hl 2 rfl) ?_
      refine lv_iload_n hx hb dX11_counted_14 rfl (lv_at hl 1 rfl) ?_
      refine lv_iconst (v := 1) hx hb dX11_counted_15 (by decide) ?_
      refine lv_icmp_ne (tgt := 27) hx hb dX11_counted_16 (by decide) (fun hc => ?_) (fun hc => ?_)
      · replace h := if_f hc h
        refine lv_iload_n hx hb dX11_counted_27 rfl (lv_at hl 1 rfl) ?_
        refine lv_iconst (v := 2) hx hb dX11_counted_28 (by decide) ?_
        refine lv_icmp_ne (tgt := 50) hx hb dX11_counted_29 (by decide) (fun hc => ?_) (fun hc => ?_)
        · replace h := if_f hc h
          refine lv_iload_n hx hb dX11_counted_50 rfl (lv_at hl 1 rfl) ?_
          refine lv_iconst (v := 3) hx hb dX11_counted_51 (by decide) ?_
          refine lv_icmp_ne (tgt := 73) hx hb dX11_counted_52 (by decide) (fun hc => ?_) (fun hc => ?_)
          · replace h := if_f hc h
            refine lv_iload_n hx hb dX11_counted_73 rfl (lv_at hl 1 rfl) ?_
            refine lv_iconst (v := 4) hx hb dX11_counted_74 (by decide) ?_
            refine lv_icmp_ne (tgt := 89) hx hb dX11_counted_75 (by decide) (fun hc => ?_) (fun hc => ?_)
            · replace h := if_f hc h
              refine lv_iload_n hx hb dX11_counted_89 rfl (lv_at hl 1 rfl) ?_
              refine lv_iconst (v := 5) hx hb dX11_counted_90 (by decide) ?_
              refine lv_icmp_ne (tgt := 102) hx hb dX11_counted_91 (by decide) (fun hc => ?_) (fun hc => ?_)
              · replace h := if_f hc h
                refine lv_aload_n hx hb dX11_counted_102 rfl (lv_at hl 0 rfl) ?_
                refine lv_iload_n hx hb dX11_counted_103 rfl (lv_at hl 3 rfl) ?_
                obtain ⟨r_8, σ_8, hcl, h⟩ := bnd2_el h
                refine call_V1 X hW (kC_X11 h0) m_7_62 m_7_64 m_0_77 mv_X11_isPossible (c_X11_isPossible h0 hcl) (by decide) rfl rfl (Nat.le_of_ble_eq_true rfl) hl.1 dX11_counted_104 ?_
                clear hW hcl; intro H locs hW
                refine lv_if_eq (tgt := 114) hx hb dX11_counted_107 (by decide) (fun hc => ?_) (fun hc => ?_)
                · replace h := if_t hc h
                  refine lv_iconst (v := 0) hx hb dX11_counted_114 (by decide) ?_
                  exact bl_X11_counted_b115 X hret ih v0 h0 v1 v3 v2 0 σ_8 h _ _ _ hW (lv_sub hl [0, 1, 3] rfl)
                · replace h := if_f hc h
                  refine lv_iconst (v := 1) hx hb dX11_counted_110 (by decide) ?_
                  refine lv_goto (tgt := 115) hx hb dX11_counted_111 (by decide) ?_
                  exact bl_X11_counted_b115 X hret ih v0 h0 v1 v3 v2 1 σ_8 h _ _ _ hW (lv_sub hl [0, 1, 3] rfl)
              · replace h := if_t hc h
                refine lv_aload_n hx hb dX11_counted_94 rfl (lv_at hl 0 rfl) ?_
                refine lv_iload_n hx hb dX11_counted_95 rfl (lv_at hl 3 rfl) ?_
                obtain ⟨r_7, hcl, h⟩ := bind_el h
                refine call_V1 X hW (kC_X11 h0) m_7_58 m_7_60 m_0_76 mv_X11_failsOf (c_X11_failsOf h0 hcl) (by decide) rfl rfl (Nat.le_of_ble_eq_true rfl) hl.1 dX11_counted_96 ?_
                clear hW hcl; intro H locs hW
                refine lv_goto (tgt := 115) hx hb dX11_counted_99 (by decide) ?_
                exact bl_X11_counted_b115 X hret ih v0 h0 v1 v3 v2 r_7 σ h _ _ _ hW (lv_sub hl [0, 1, 3] rfl)
            · replace h := if_t hc h
              refine lv_aload_n hx hb dX11_counted_78 rfl (lv_at hl 0 rfl) ?_
              refine lv_iload_n hx hb dX11_counted_79 rfl (lv_at hl 3 rfl) ?_
              obtain ⟨r_5, hcl, h⟩ := bind_el h
              refine call_V1 X hW (kC_X11 h0) m_7_46 m_7_48 m_0_74 mv_X11_doneSet (c_X11_doneSet h0 hcl) (by decide) rfl rfl (Nat.le_of_ble_eq_true rfl) hl.1 dX11_counted_80 ?_
              clear hW hcl; intro H locs hW
              obtain ⟨r_6, hcl, h⟩ := bind_el h
              refine call_S1 X hW m_7_57 m_2_221 mv_J6_bitCount_0f7a4 (c_J6_bitCount_0f7a4 hcl) (by decide) rfl rfl (Nat.le_of_ble_eq_true rfl) hl.1 dX11_counted_83 ?_
              clear hW hcl; intro H locs hW
              refine lv_goto (tgt := 115) hx hb dX11_counted_86 (by decide) ?_
              exact bl_X11_counted_b115 X hret ih v0 h0 v1 v3 v2 r_6 σ h _ _ _ hW (lv_sub hl [0, 1, 3] rfl)
          · replace h := if_t hc h
            refine lv_aload_n hx hb dX11_counted_55 rfl (lv_at hl 0 rfl) ?_
            refine lv_iload_n hx hb dX11_counted_56 rfl (lv_at hl 3 rfl) ?_
            refine lv_iconst (v := 1) hx hb dX11_counted_57 (by decide) ?_
            obtain ⟨r_4, hcl, h⟩ := bind_el h
            refine call_V1 X hW (kC_X11 h0) m_7_42 m_7_44 m_0_73 mv_X11_ofQuest (c_X11_ofQuest h0 hcl) (by decide) rfl rfl (Nat.le_of_ble_eq_true rfl) hl.1 dX11_counted_58 ?_
            clear hW hcl; intro H locs hW
            refine lv_iconst (v := 2) hx hb dX11_counted_61 (by decide) ?_
            refine lv_icmp_ne (tgt := 69) hx hb dX11_counted_62 (by decide) (fun hc => ?_) (fun hc => ?_)
            · replace h := if_f hc h
              refine lv_iconst (v := 0) hx hb dX11_counted_69 (by decide) ?_
              refine lv_goto (tgt := 115) hx hb dX11_counted_70 (by decide) ?_
              exact bl_X11_counted_b115 X hret ih v0 h0 v1 v3 v2 0 σ h _ _ _ hW (lv_sub hl [0, 1, 3] rfl)
            · replace h := if_t hc h
              refine lv_iconst (v := 1) hx hb dX11_counted_65 (by decide) ?_
              refine lv_goto (tgt := 115) hx hb dX11_counted_66 (by decide) ?_
              exact bl_X11_counted_b115 X hret ih v0 h0 v1 v3 v2 1 σ h _ _ _ hW (lv_sub hl [0, 1, 3] rfl)
        · replace h := if_t hc h
          refine lv_aload_n hx hb dX11_counted_32 rfl (lv_at hl 0 rfl) ?_
          refine lv_iload_n hx hb dX11_counted_33 rfl (lv_at hl 3 rfl) ?_
          refine lv_iconst (v := 1) hx hb dX11_counted_34 (by decide) ?_
          obtain ⟨r_3, hcl, h⟩ := bind_el h
          refine call_V1 X hW (kC_X11 h0) m_7_42 m_7_44 m_0_73 mv_X11_ofQuest (c_X11_ofQuest h0 hcl) (by decide) rfl rfl (Nat.le_of_ble_eq_true rfl) hl.1 dX11_counted_35 ?_
          clear hW hcl; intro H locs hW
          refine lv_iconst (v := 1) hx hb dX11_counted_38 (by decide) ?_
          refine lv_icmp_ne (tgt := 46) hx hb dX11_counted_39 (by decide) (fun hc => ?_) (fun hc => ?_)
          · replace h := if_f hc h
            refine lv_iconst (v := 0) hx hb dX11_counted_46 (by decide) ?_
            refine lv_goto (tgt := 115) hx hb dX11_counted_47 (by decide) ?_
            exact bl_X11_counted_b115 X hret ih v0 h0 v1 v3 v2 0 σ h _ _ _ hW (lv_sub hl [0, 1, 3] rfl)
          · replace h := if_t hc h
            refine lv_iconst (v := 1) hx hb dX11_counted_42 (by decide) ?_
            refine lv_goto (tgt := 115) hx hb dX11_counted_43 (by decide) ?_
            exact bl_X11_counted_b115 X hret ih v0 h0 v1 v3 v2 1 σ h _ _ _ hW (lv_sub hl [0, 1, 3] rfl)
      · replace h := if_t hc h
        refine lv_aload_n hx hb dX11_counted_19 rfl (lv_at hl 0 rfl) ?_
        refine lv_iload_n hx hb dX11_counted_20 rfl (lv_at hl 3 rfl) ?_
        obtain ⟨r_2, hcl, h⟩ := bind_el h
        refine call_V1 X hW (kC_X11 h0) m_7_38 m_7_40 m_0_72 mv_X11_stepsOf (c_X11_stepsOf h0 hcl) (by decide) rfl rfl (Nat.le_of_ble_eq_true rfl) hl.1 dX11_counted_21 ?_
        clear hW hcl; intro H locs hW
        refine lv_goto (tgt := 115) hx hb dX11_counted_24 (by decide) ?_
        exact bl_X11_counted_b115 X hret ih v0 h0 v1 v3 v2 r_2 σ h _ _ _ hW (lv_sub hl [0, 1, 3] rfl)
set_option maxRecDepth 20000 in
set_option maxHeartbeats 4000000 in
theorem c_X11_counted {G : Gt} {l : Launch} {v0 : Nat} (h0 : kd v0 = 10) {v1 : Int32} {σ : St} {r : Int32} {σ' : St} (hf : pf_X11_counted v0 v1 σ = some (r, σ')) : Ct G l yX11_counted cX11_counted 4 (some .int) 10 [.ref (gz G + (v0)), .int (v1)] σ (some (.int r)) σ' := by
  refine met_i (by decide +kernel) (Nat.le_of_ble_eq_true rfl) rfl ?_
  intro p e s m args below meth c Q ls X hW hret hl
  have hx := X.1.1
  have hb := X.1.2.1
  have hl : lv_has ls 4 [(0, .ref (gz G + (v0))), (1, .int (v1))] := hl
  have h := hf
  clear hf
  unfold pf_X11_counted at h
  refine lv_iconst (v := 0) hx hb dX11_counted_0 (by decide) ?_
  refine lv_istore_n (lv' := [(2, .int (0)), (0, .ref (gz G + (v0))), (1, .int (v1))]) hx hb dX11_counted_1 rfl hl (by decide) rfl ?_
  clear hl; intro ls hl
  refine lv_iconst (v := 0) hx hb dX11_counted_2 (by decide) ?_
  refine lv_istore_n (lv' := [(3, .int (0)), (2, .int (0)), (0, .ref (gz G + (v0))), (1, .int (v1))]) hx hb dX11_counted_3 rfl hl (by decide) rfl ?_
  clear hl; intro ls hl
  exact bl_X11_counted_L4 X hret FU v0 h0 v1 0 0 σ h _ _ _ hW (lv_sub hl [2, 3, 1, 0] rfl)
end
