section
variable {G : Gt} {p : Program} {l : Launch} {e : Env} {R : Room} {s : State} {m : MethodId} {args : Array Value} {below : List Frame} {meth : Method} {c : Code} {cells slots : Nat} {Q : State → Prop}
set_option maxRecDepth 20000 in
set_option maxHeartbeats 4000000 in
theorem bl_X11_finishes_b69 (X : Cx G p R s m args c cells slots cX11_finishes 4 RX11 9) {σ' : St} (hret : R_V G p l e R s m args below meth c cells slots Q cX11_finishes σ') {k7 : Nat → Int32 → Int32 → St → (Option St)}
    (hk7 : ∀ (v0 : Nat) (h0 : kd v0 = 10) (v1 : Int32) (v2 : Int32) (σ : St) (_ : k7 v0 v1 v2 σ = some σ') (H : Heap) (locs : List Loc) (ls : Array Slot) (_ : GW G σ s H locs) (_ : lv_has ls 4 [(0, .ref (gz G + (v0))), (1, .int (v1)), (2, .int (v2))]), W p l e R s m args below meth c H locs cells slots Q (F0 m 7 ls [])) :
    ∀ (v0 : Nat) (h0 : kd v0 = 10) (v1 : Int32) (v2 : Int32) (σ : St) (_ : pf_X11_finishes_b69 k7 v0 v1 v2 σ = some σ') (H : Heap) (locs : List Loc) (ls : Array Slot) (_ : GW G σ s H locs) (_ : lv_has ls 4 [(0, .ref (gz G + (v0))), (1, .int (v1)), (2, .int (v2))]), W p l e R s m args below meth c H locs cells slots Q (F0 m 69 ls []) := by
  have hx := X.1.1
  have hb := X.1.2.1
  intro v0 h0 v1 v2 σ h H locs ls hW hl
  unfold pf_X11_finishes_b69 at h
  refine w_iinc (v := 1) (lv' := fun y => [(2, .int (y)), (0, .ref (gz G + (v0))), (1, .int (v1))]) hx hb dX11_finishes_69 hl (k := 2) rfl (by decide) (by decide) (fun _ => rfl) h ?_
  clear h hl; intro v2_1 h ls hl
  refine lv_goto (tgt := 7) hx hb dX11_finishes_72 (by decide) ?_
  exact hk7 v0 h0 v1 v2_1 σ h _ _ _ hW (lv_sub hl [1, 2, 0] rfl)
set_option maxRecDepth 20000 in
set_option maxHeartbeats 4000000 in
theorem bl_X11_finishes_L17 (X : Cx G p R s m args c cells slots cX11_finishes 4 RX11 9) {σ' : St} (hret : R_V G p l e R s m args below meth c cells slots Q cX11_finishes σ') {k69 : Nat → Int32 → Int32 → St → (Option St)}
    (hk69 : ∀ (v0 : Nat) (h0 : kd v0 = 10) (v1 : Int32) (v2 : Int32) (σ : St) (_ : k69 v0 v1 v2 σ = some σ') (H : Heap) (locs : List Loc) (ls : Array Slot) (_ : GW G σ s H locs) (_ : lv_has ls 4 [(0, .ref (gz G + (v0))), (1, .int (v1)), (2, .int (v2))]), W p l e R s m args below meth c H locs cells slots Q (F0 m 69 ls [])) :
    ∀ (n : Nat), ∀ (v0 : Nat) (h0 : kd v0 = 10) (v1 : Int32) (v2 : Int32) (v3 : Int32) (σ : St) (_ : pf_X11_finishes_L17 k69 n v0 v1 v2 v3 σ = some σ') (H : Heap) (locs : List Loc) (ls : Array Slot) (_ : GW G σ s H locs) (_ : lv_has ls 4 [(0, .ref (gz G + (v0))), (1, .int (v1)), (2, .int (v2)), (3, .int (v3))]), W p l e R s m args below meth c H locs cells slots Q (F0 m 17 ls []) := by
  have hx := X.1.1
  have hb := X.1.2.1
  intro n
  induction n with
  | zero => intro v0 h0 v1 v2 v3 σ h H locs ls hW hl; cases h
  | succ n ih =>
    intro v0 h0 v1 v2 v3 σ h H locs ls hW hl
    rw [pf_X11_finishes_L17.eq_2] at h
    refine lv_iload_n hx hb dX11_finishes_17 rfl (lv_at hl 3 rfl) ?_
    refine lv_bipush (v := 8) hx hb dX11_finishes_18 (by decide) ?_
    refine lv_icmp_ge (tgt := 69) hx hb dX11_finishes_20 (by decide) (fun hc => ?_) (fun hc => ?_)
    · replace h := if_t hc h
      exact hk69 v0 h0 v1 v2 σ h _ _ _ hW (lv_sub hl [0, 1, 2] rfl)
    · replace h := if_f hc h
      refine lv_aload_n hx hb dX11_finishes_23 rfl (lv_at hl 0 rfl) ?_
      refine gf_X11_by X hW h0 m_6_12 dX11_finishes_24 ?_
      refine lv_iload_n hx hb dX11_finishes_27 rfl (lv_at hl 3 rfl) ?_
      refine lv_dup2_11 hx hb dX11_finishes_28 rfl rfl ?_
      obtain ⟨hi1, h⟩ := ckI_el h
      refine r_iald X hW (kf_X11_by h0) hi1 dX11_finishes_29 ?_
      refine lv_aload_n hx hb dX11_finishes_30 rfl (lv_at hl 0 rfl) ?_
      refine lv_iload_n hx hb dX11_finishes_31 rfl (lv_at hl 1 rfl) ?_
      refine lv_aload_n hx hb dX11_finishes_32 rfl (lv_at hl 0 rfl) ?_
      refine gf_X11_plan X hW h0 m_6_16 dX11_finishes_33 ?_
      refine lv_iload_n hx hb dX11_finishes_36 rfl (lv_at hl 2 rfl) ?_
      obtain ⟨hi2, h⟩ := ckI_el h
      refine r_iald X hW (kf_X11_plan h0) hi2 dX11_finishes_37 ?_
      refine lv_bipush (v := 22) hx hb dX11_finishes_38 (by decide) ?_
      refine lv_iload_n hx hb dX11_finishes_40 rfl (lv_at hl 3 rfl) ?_
      refine lv_iadd hx hb dX11_finishes_41 ?_
      obtain ⟨r_3, hcl, h⟩ := bind_el h
      refine call_V1 X hW (kC_X11 h0) m_7_50 m_7_52 m_0_75 mv_X11_ofStep (c_X11_ofStep h0 hcl) (by decide) rfl rfl (Nat.le_of_ble_eq_true rfl) hl.1 dX11_finishes_42 ?_
      clear hW hcl; intro H locs hW
      refine lv_aload_n hx hb dX11_finishes_45 rfl (lv_at hl 0 rfl) ?_
      refine lv_iload_n hx hb dX11_finishes_46 rfl (lv_at hl 1 rfl) ?_
      refine lv_aload_n hx hb dX11_finishes_47 rfl (lv_at hl 0 rfl) ?_
      refine gf_X11_plan X hW h0 m_6_16 dX11_finishes_48 ?_
      refine lv_iload_n hx hb dX11_finishes_51 rfl (lv_at hl 2 rfl) ?_
      obtain ⟨hi4, h⟩ := ckI_el h
      refine r_iald X hW (kf_X11_plan h0) hi4 dX11_finishes_52 ?_
      refine lv_bipush (v := 6) hx hb dX11_finishes_53 (by decide) ?_
      refine lv_iload_n hx hb dX11_finishes_55 rfl (lv_at hl 3 rfl) ?_
      refine lv_iadd hx hb dX11_finishes_56 ?_
      obtain ⟨r_5, hcl, h⟩ := bind_el h
      refine call_V1 X hW (kC_X11 h0) m_7_50 m_7_52 m_0_75 mv_X11_ofStep (c_X11_ofStep h0 hcl) (by decide) rfl rfl (Nat.le_of_ble_eq_true rfl) hl.1 dX11_finishes_57 ?_
      clear hW hcl; intro H locs hW
      refine lv_isub hx hb dX11_finishes_60 ?_
      refine lv_iadd hx hb dX11_finishes_61 ?_
      obtain ⟨hi6, h⟩ := ckI_el h
      refine r_iast X hW (kf_X11_by h0) hi6 dX11_finishes_62 ?_
      clear hW; intro H locs hW
      refine nm_s hW h ?_
      clear hW h; intro σ_7 hW h
      refine w_iinc (v := 1) (lv' := fun y => [(3, .int (y)), (0, .ref (gz G + (v0))), (1, .int (v1)), (2, .int (v2))]) hx hb dX11_finishes_63 hl (k := 3) rfl (by decide) (by decide) (fun _ => rfl) h ?_
      clear h hl; intro v3_8 h ls hl
      refine lv_goto (tgt := 17) hx hb dX11_finishes_66 (by decide) ?_
      exact ih v0 h0 v1 v2 v3_8 σ_7 h _ _ _ hW (lv_sub hl [1, 2, 3, 0] rfl)
set_option maxRecDepth 20000 in
set_option maxHeartbeats 4000000 in
theorem bl_X11_finishes_b75 (X : Cx G p R s m args c cells slots cX11_finishes 4 RX11 9) {σ' : St} (hret : R_V G p l e R s m args below meth c cells slots Q cX11_finishes σ') :
    ∀ (v0 : Nat) (h0 : kd v0 = 10) (v1 : Int32) (σ : St) (_ : pf_X11_finishes_b75 v0 v1 σ = some σ') (H : Heap) (locs : List Loc) (ls : Array Slot) (_ : GW G σ s H locs) (_ : lv_has ls 4 [(0, .ref (gz G + (v0))), (1, .int (v1))]), W p l e R s m args below meth c H locs cells slots Q (F0 m 75 ls []) := by
  have hx := X.1.1
  have hb := X.1.2.1
  intro v0 h0 v1 σ h H locs ls hW hl
  unfold pf_X11_finishes_b75 at h
  refine lv_aload_n hx hb dX11_finishes_75 rfl (lv_at hl 0 rfl) ?_
  refine gf_X11_by X hW h0 m_6_12 dX11_finishes_76 ?_
  refine lv_aload_n hx hb dX11_finishes_79 rfl (lv_at hl 0 rfl) ?_
  refine lv_iload_n hx hb dX11_finishes_80 rfl (lv_at hl 1 rfl) ?_
  refine lv_iconst (v := 2) hx hb dX11_finishes_81 (by decide) ?_
  obtain ⟨r_1, hcl, h⟩ := bind_el h
  refine call_V1 X hW (kC_X11 h0) m_7_42 m_7_44 m_0_73 mv_X11_ofQuest (c_X11_ofQuest h0 hcl) (by decide) rfl rfl (Nat.le_of_ble_eq_true rfl) hl.1 dX11_finishes_82 ?_
  clear hW hcl; intro H locs hW
  refine lv_dup2_11 hx hb dX11_finishes_85 rfl rfl ?_
  obtain ⟨hi2, h⟩ := ckI_el h
  refine r_iald X hW (kf_X11_by h0) hi2 dX11_finishes_86 ?_
  refine lv_aload_n hx hb dX11_finishes_87 rfl (lv_at hl 0 rfl) ?_
  refine lv_iload_n hx hb dX11_finishes_88 rfl (lv_at hl 1 rfl) ?_
  refine lv_iconst (v := 3) hx hb dX11_finishes_89 (by decide) ?_
  obtain ⟨r_3, hcl, h⟩ := bind_el h
  refine call_V1 X hW (kC_X11 h0) m_7_42 m_7_44 m_0_73 mv_X11_ofQuest (c_X11_ofQuest h0 hcl) (by decide) rfl rfl (Nat.le_of_ble_eq_true rfl) hl.1 dX11_finishes_90 ?_
  clear hW hcl; intro H locs hW
  refine lv_iadd hx hb dX11_finishes_93 ?_
  obtain ⟨hi4, h⟩ := ckI_el h
  refine r_iast X hW (kf_X11_by h0) hi4 dX11_finishes_94 ?_
  clear hW; intro H locs hW
  refine nm_s hW h ?_
  clear hW h; intro σ_5 hW h
  exact rv_end hret h dX11_finishes_95 hW
set_option maxRecDepth 20000 in
set_option maxHeartbeats 4000000 in
theorem bl_X11_finishes_L7 (X : Cx G p R s m args c cells slots cX11_finishes 4 RX11 9) {σ' : St} (hret : R_V G p l e R s m args below meth c cells slots Q cX11_finishes σ') {k75 : Nat → Int32 → St → (Option St)}
    (hk75 : ∀ (v0 : Nat) (h0 : kd v0 = 10) (v1 : Int32) (σ : St) (_ : k75 v0 v1 σ = some σ') (H : Heap) (locs : List Loc) (ls : Array Slot) (_ : GW G σ s H locs) (_ : lv_has ls 4 [(0, .ref (gz G + (v0))), (1, .int (v1))]), W p l e R s m args below meth c H locs cells slots Q (F0 m 75 ls [])) :
    ∀ (n : Nat), ∀ (v0 : Nat) (h0 : kd v0 = 10) (v1 : Int32) (v2 : Int32) (σ : St) (_ : pf_X11_finishes_L7 k75 n v0 v1 v2 σ = some σ') (H : Heap) (locs : List Loc) (ls : Array Slot) (_ : GW G σ s H locs) (_ : lv_has ls 4 [(0, .ref (gz G + (v0))), (1, .int (v1)), (2, .int (v2))]), W p l e R s m args below meth c H locs cells slots Q (F0 m 7 ls []) := by
  have hx := X.1.1
  have hb := X.1.2.1
  intro n
  induction n with
  | zero => intro v0 h0 v1 v2 σ h H locs ls hW hl; cases h
  | succ n ih =>
    intro v0 h0 v1 v2 σ h H locs ls hW hl
    rw [pf_X11_finishes_L7.eq_2] at h
    refine lv_iload_n hx hb dX11_finishes_7 rfl (lv_at hl 2 rfl) ?_
    refine lv_aload_n hx hb dX11_finishes_8 rfl (lv_at hl 0 rfl) ?_
    refine gf_X11_planMany X hW h0 m_6_17 dX11_finishes_9 ?_
    refine lv_icmp_ge (tgt := 75) hx hb dX11_finishes_12 (by decide) (fun hc => ?_) (fun hc => ?_)
    · replace h := if_t hc h
      exact hk75 v0 h0 v1 σ h _ _ _ hW (lv_sub hl [0, 1] rfl)
    · replace h := if_f hc h
      refine lv_iconst (v := 0) hx hb dX11_finishes_15 (by decide) ?_
      refine lv_istore_n (lv' := [(3, .int (0)), (0, .ref (gz G + (v0))), (1, .int (v1)), (2, .int (v2))]) hx hb dX11_finishes_16 rfl hl (by decide) rfl ?_
      clear hl; intro ls hl
      exact bl_X11_finishes_L17 X hret (bl_X11_finishes_b69 X hret ih) FU v0 h0 v1 v2 0 σ h _ _ _ hW (lv_sub hl [1, 2, 3, 0] rfl)
set_option maxRecDepth 20000 in
set_option maxHeartbeats 4000000 in
theorem c_X11_finishes {G : Gt} {l : Launch} {v0 : Nat} (h0 : kd v0 = 10) {v1 : Int32} {σ : St} {σ' : St} (hf : pf_X11_finishes v0 v1 σ = some σ') : Ct G l yX11_finishes cX11_finishes 4 none 9 [.ref (gz G + (v0)), .int (v1)] σ none σ' := by
  refine met_v (by decide +kernel) (Nat.le_of_ble_eq_true rfl) rfl ?_
  intro p e s m args below meth c Q ls X hW hret hl
  have hx := X.1.1
  have hb := X.1.2.1
  have hl : lv_has ls 4 [(0, .ref (gz G + (v0))), (1, .int (v1))] := hl
  have h := hf
  clear hf
  unfold pf_X11_finishes at h
  refine lv_aload_n hx hb dX11_finishes_0 rfl (lv_at hl 0 rfl) ?_
  refine lv_iload_n hx hb dX11_finishes_1 rfl (lv_at hl 1 rfl) ?_
  obtain ⟨σ_1, hcl, h⟩ := bind_el h
  refine call_V0 X hW (kC_X11 h0) m_7_168 m_7_170 m_0_94 mv_X11_plans (c_X11_plans h0 hcl) (by decide) rfl rfl (Nat.le_of_ble_eq_true rfl) hl.1 dX11_finishes_2 ?_
  clear hW hcl; intro H locs hW
  refine lv_iconst (v := 0) hx hb dX11_finishes_5 (by decide) ?_
  refine lv_istore_n (lv' := [(2, .int (0)), (0, .ref (gz G + (v0))), (1, .int (v1))]) hx hb dX11_finishes_6 rfl hl (by decide) rfl ?_
  clear hl; intro ls hl
  exact bl_X11_finishes_L7 X hret (bl_X11_finishes_b75 X hret) FU v0 h0 v1 0 σ_1 h _ _ _ hW (lv_sub hl [1, 2, 0] rfl)
set_option maxRecDepth 20000 in
set_option maxHeartbeats 4000000 in
theorem bl_X11_campaign_b45 (X : Cx G p R s m args c cells slots cX11_campaign 4 RX11 10) {r : Int32} {σ' : St} (hret : R_I G p l e R s m args below meth c cells slots Q cX11_campaign r σ') {k19 : Nat → Int32 → Int32 → St → (Option (Int32 × St))}
    (hk19 : ∀ (v0 : Nat) (h0 : kd v0 = 10) (v1 : Int32) (v3 : Int32) (σ : St) (_ : k19 v0 v1 v3 σ = some (r, σ')) (H : Heap) (locs : List Loc) (ls : Array Slot) (_ : GW G σ s H locs) (_ : lv_has ls 4 [(0, .ref (gz G + (v0))), (1, .int (v1)), (3, .int (v3))]), W p l e R s m args below meth c H locs cells slots Q (F0 m 19 ls [])) :
    ∀ (v0 : Nat) (h0 : kd v0 = 10) (v1 : Int32) (v3 : Int32) (σ : St) (_ : pf_X11_campaign_b45 k19 v0 v1 v3 σ = some (r, σ')) (H : Heap) (locs : List Loc) (ls : Array Slot) (_ : GW G σ s H locs) (_ : lv_has ls 4 [(0, .ref (gz G + (v0))), (1, .int (v1)), (3, .int (v3))]), W p l e R s m args below meth c H locs cells slots Q (F0 m 45 ls []) := by
  have hx := X.1.1
  have hb := X.1.2.1
  intro v0 h0 v1 v3 σ h H locs ls hW hl
  unfold pf_X11_campaign_b45 at h
  refine w_iinc (v := 1) (lv' := fun y => [(3, .int (y)), (0, .ref (gz G + (v0))), (1, .int (v1))]) hx hb dX11_campaign_45 hl (k := 2) rfl (by decide) (by decide) (fun _ => rfl) h ?_
  clear h hl; intro v3_1 h ls hl
  refine lv_goto (tgt := 19) hx hb dX11_campaign_48 (by decide) ?_
  exact hk19 v0 h0 v1 v3_1 σ h _ _ _ hW (lv_sub hl [1, 2, 0] rfl)
set_option maxRecDepth 20000 in
set_option maxHeartbeats 4000000 in
theorem bl_X11_campaign_b65 (X : Cx G p R s m args c cells slots cX11_campaign 4 RX11 10) {r : Int32} {σ' : St} (hret : R_I G p l e R s m args below meth c cells slots Q cX11_campaign r σ') {k13 : Nat → Int32 → Int32 → St → (Option (Int32 × St))}
    (hk13 : ∀ (v0 : Nat) (h0 : kd v0 = 10) (v1 : Int32) (v2 : Int32) (σ : St) (_ : k13 v0 v1 v2 σ = some (r, σ')) (H : Heap) (locs : List Loc) (ls : Array Slot) (_ : GW G σ s H locs) (_ : lv_has ls 4 [(0, .ref (gz G + (v0))), (1, .int (v1)), (2, .int (v2))]), W p l e R s m args below meth c H locs cells slots Q (F0 m 13 ls [])) :
    ∀ (v0 : Nat) (h0 : kd v0 = 10) (v1 : Int32) (v3 : Int32) (s0 : Int32) (σ : St) (_ : pf_X11_campaign_b65 k13 v0 v1 v3 s0 σ = some (r, σ')) (H : Heap) (locs : List Loc) (ls : Array Slot) (_ : GW G σ s H locs) (_ : lv_has ls 4 [(0, .ref (gz G + (v0))), (1, .int (v1)), (3, .int (v3))]), W p l e R s m args below meth c H locs cells slots Q (F0 m 65 ls [.int (s0)]) := by
  have hx := X.1.1
  have hb := X.1.2.1
  intro v0 h0 v1 v3 s0 σ h H locs ls hW hl
  unfold pf_X11_campaign_b65 at h
  refine lv_istore_n (lv' := [(2, .int (s0)), (0, .ref (gz G + (v0))), (1, .int (v1)), (3, .int (v3))]) hx hb dX11_campaign_65 rfl hl (by decide) rfl ?_
  clear hl; intro ls hl
  refine lv_iload_n hx hb dX11_campaign_66 rfl (lv_at hl 0 rfl) ?_
  refine lv_if_ne (tgt := 73) hx hb dX11_campaign_67 (by decide) (fun hc => ?_) (fun hc => ?_)
  · replace h := if_f hc h
    refine lv_aload_n hx hb dX11_campaign_73 rfl (lv_at hl 1 rfl) ?_
    refine lv_iload_n hx hb dX11_campaign_74 rfl (lv_at hl 3 rfl) ?_
    obtain ⟨σ_1, hcl, h⟩ := bind_el h
    refine call_V0 X hW (kC_X11 h0) m_7_188 m_7_190 m_0_95 mv_X11_finishes (c_X11_finishes h0 hcl) (by decide) rfl rfl (Nat.le_of_ble_eq_true rfl) hl.1 dX11_campaign_75 ?_
    clear hW hcl; intro H locs hW
    refine lv_iload_n hx hb dX11_campaign_78 rfl (lv_at hl 2 rfl) ?_
    refine lv_iconst (v := 1) hx hb dX11_campaign_79 (by decide) ?_
    refine lv_iload_n hx hb dX11_campaign_80 rfl (lv_at hl 3 rfl) ?_
    refine w_ishl hx hb dX11_campaign_81 ?_
    refine lv_ior hx hb dX11_campaign_82 ?_
    refine nm_i h ?_
    clear h; intro v1_2 h
    refine lv_istore_n (lv' := [(1, .int (v1_2)), (2, .int (s0)), (0, .ref (gz G + (v0))), (3, .int (v3))]) hx hb dX11_campaign_83 rfl hl (by decide) rfl ?_
    clear hl; intro ls hl
    refine lv_goto (tgt := 13) hx hb dX11_campaign_84 (by decide) ?_
    exact hk13 v0 h0 v1_2 s0 σ_1 h _ _ _ hW (lv_sub hl [2, 0, 1] rfl)
  · replace h := if_t hc h
    refine lv_goto (tgt := 13) hx hb dX11_campaign_70 (by decide) ?_
    exact hk13 v0 h0 v1 s0 σ h _ _ _ hW (lv_sub hl [1, 2, 0] rfl)
set_option maxRecDepth 20000 in
set_option maxHeartbeats 4000000 in
theorem bl_X11_campaign_b51 (X : Cx G p R s m args c cells slots cX11_campaign 4 RX11 10) {r : Int32} {σ' : St} (hret : R_I G p l e R s m args below meth c cells slots Q cX11_campaign r σ') {k13 : Nat → Int32 → Int32 → St → (Option (Int32 × St))}
    (hk13 : ∀ (v0 : Nat) (h0 : kd v0 = 10) (v1 : Int32) (v2 : Int32) (σ : St) (_ : k13 v0 v1 v2 σ = some (r, σ')) (H : Heap) (locs : List Loc) (ls : Array Slot) (_ : GW G σ s H locs) (_ : lv_has ls 4 [(0, .ref (gz G + (v0))), (1, .int (v1)), (2, .int (v2))]), W p l e R s m args below meth c H locs cells slots Q (F0 m 13 ls [])) :
    ∀ (v0 : Nat) (h0 : kd v0 = 10) (v1 : Int32) (v3 : Int32) (σ : St) (_ : pf_X11_campaign_b51 k13 v0 v1 v3 σ = some (r, σ')) (H : Heap) (locs : List Loc) (ls : Array Slot) (_ : GW G σ s H locs) (_ : lv_has ls 4 [(0, .ref (gz G + (v0))), (1, .int (v1)), (3, .int (v3))]), W p l e R s m args below meth c H locs cells slots Q (F0 m 51 ls []) := by
  have hx := X.1.1
  have hb := X.1.2.1
  intro v0 h0 v1 v3 σ h H locs ls hW hl
  unfold pf_X11_campaign_b51 at h
  refine lv_iload_n hx hb dX11_campaign_51 rfl (lv_at hl 2 rfl) ?_
  refine lv_aload_n hx hb dX11_campaign_52 rfl (lv_at hl 0 rfl) ?_
  refine lv_iconst (v := 0) hx hb dX11_campaign_53 (by decide) ?_
  obtain ⟨r_1, hcl, h⟩ := bind_el h
  refine call_V1 X hW (kC_X11 h0) m_7_17 m_7_19 m_0_68 mv_X11_get (c_X11_get h0 hcl) (by decide) rfl rfl (Nat.le_of_ble_eq_true rfl) hl.1 dX11_campaign_54 ?_
  clear hW hcl; intro H locs hW
  refine lv_icmp_ge (tgt := 64) hx hb dX11_campaign_57 (by decide) (fun hc => ?_) (fun hc => ?_)
  · replace h := if_t hc h
    refine lv_iconst (v := 0) hx hb dX11_campaign_64 (by decide) ?_
    exact bl_X11_campaign_b65 X hret hk13 v0 h0 v1 v3 0 σ h _ _ _ hW (lv_sub hl [0, 1, 2] rfl)
  · replace h := if_f hc h
    refine lv_iconst (v := 1) hx hb dX11_campaign_60 (by decide) ?_
    refine lv_goto (tgt := 65) hx hb dX11_campaign_61 (by decide) ?_
    exact bl_X11_campaign_b65 X hret hk13 v0 h0 v1 v3 1 σ h _ _ _ hW (lv_sub hl [0, 1, 2] rfl)
set_option maxRecDepth 20000 in
set_option maxHeartbeats 4000000 in
theorem bl_X11_campaign_L19 (X : Cx G p R s m args c cells slots cX11_campaign 4 RX11 10) {r : Int32} {σ' : St} (hret : R_I G p l e R s m args below meth c cells slots Q cX11_campaign r σ') {k51 : Nat → Int32 → Int32 → St → (Option (Int32 × St))}
    (hk51 : ∀ (v0 : Nat) (h0 : kd v0 = 10) (v1 : Int32) (v3 : Int32) (σ : St) (_ : k51 v0 v1 v3 σ = some (r, σ')) (H : Heap) (locs : List Loc) (ls : Array Slot) (_ : GW G σ s H locs) (_ : lv_has ls 4 [(0, .ref (gz G + (v0))), (1, .int (v1)), (3, .int (v3))]), W p l e R s m args below meth c H locs cells slots Q (F0 m 51 ls [])) :
    ∀ (n : Nat), ∀ (v0 : Nat) (h0 : kd v0 = 10) (v1 : Int32) (v3 : Int32) (σ : St) (_ : pf_X11_campaign_L19 k51 n v0 v1 v3 σ = some (r, σ')) (H : Heap) (locs : List Loc) (ls : Array Slot) (_ : GW G σ s H locs) (_ : lv_has ls 4 [(0, .ref (gz G + (v0))), (1, .int (v1)), (3, .int (v3))]), W p l e R s m args below meth c H locs cells slots Q (F0 m 19 ls []) := by
  have hx := X.1.1
  have hb := X.1.2.1
  intro n
  induction n with
  | zero => intro v0 h0 v1 v3 σ h H locs ls hW hl; cases h
  | succ n ih =>
    intro v0 h0 v1 v3 σ h H locs ls hW hl
    rw [pf_X11_campaign_L19.eq_2] at h
    refine lv_iload_n hx hb dX11_campaign_19 rfl (lv_at hl 2 rfl) ?_
    refine lv_aload_n hx hb dX11_campaign_20 rfl (lv_at hl 0 rfl) ?_
    refine lv_iconst (v := 0) hx hb dX11_campaign_21 (by decide) ?_
    obtain ⟨r_1, hcl, h⟩ := bind_el h
    refine call_V1 X hW (kC_X11 h0) m_7_17 m_7_19 m_0_68 mv_X11_get (c_X11_get h0 hcl) (by decide) rfl rfl (Nat.le_of_ble_eq_true rfl) hl.1 dX11_campaign_22 ?_
    clear hW hcl; intro H locs hW
    refine lv_icmp_ge (tgt := 51) hx hb dX11_campaign_25 (by decide) (fun hc => ?_) (fun hc => ?_)
    · replace h := if_t hc h
      exact hk51 v0 h0 v1 v3 σ h _ _ _ hW (lv_sub hl [0, 1, 2] rfl)
    · replace h := if_f hc h
      refine lv_iload_n hx hb dX11_campaign_28 rfl (lv_at hl 1 rfl) ?_
      refine lv_iload_n hx hb dX11_campaign_29 rfl (lv_at hl 2 rfl) ?_
      refine w_ishr hx hb dX11_campaign_30 ?_
      refine lv_iconst (v := 1) hx hb dX11_campaign_31 (by decide) ?_
      refine lv_iand hx hb dX11_campaign_32 ?_
      refine lv_iconst (v := 1) hx hb dX11_campaign_33 (by decide) ?_
      refine lv_icmp_eq (tgt := 45) hx hb dX11_campaign_34 (by decide) (fun hc => ?_) (fun hc => ?_)
      · replace h := if_t hc h
        exact bl_X11_campaign_b45 X hret ih v0 h0 v1 v3 σ h _ _ _ hW (lv_sub hl [0, 1, 2] rfl)
      · replace h := if_f hc h
        refine lv_aload_n hx hb dX11_campaign_37 rfl (lv_at hl 0 rfl) ?_
        refine lv_iload_n hx hb dX11_campaign_38 rfl (lv_at hl 2 rfl) ?_
        obtain ⟨r_2, σ_2, hcl, h⟩ := bnd2_el h
        refine call_V1 X hW (kC_X11 h0) m_7_70 m_7_72 m_0_79 mv_X11_ways (c_X11_ways h0 hcl) (by decide) rfl rfl (Nat.le_of_ble_eq_true rfl) hl.1 dX11_campaign_39 ?_
        clear hW hcl; intro H locs hW
        refine lv_if_ne (tgt := 51) hx hb dX11_campaign_42 (by decide) (fun hc => ?_) (fun hc => ?_)
        · replace h := if_f hc h
          exact hk51 v0 h0 v1 v3 σ_2 h _ _ _ hW (lv_sub hl [0, 1, 2] rfl)
        · replace h := if_t hc h
          exact bl_X11_campaign_b45 X hret ih v0 h0 v1 v3 σ_2 h _ _ _ hW (lv_sub hl [0, 1, 2] rfl)
set_option maxRecDepth 20000 in
set_option maxHeartbeats 4000000 in
theorem bl_X11_campaign_b87 (X : Cx G p R s m args c cells slots cX11_campaign 4 RX11 10) {r : Int32} {σ' : St} (hret : R_I G p l e R s m args below meth c cells slots Q cX11_campaign r σ') :
    ∀ (v1 : Int32) (σ : St) (_ : pf_X11_campaign_b87 v1 σ = some (r, σ')) (H : Heap) (locs : List Loc) (ls : Array Slot) (_ : GW G σ s H locs) (_ : lv_has ls 4 [(1, .int (v1))]), W p l e R s m args below meth c H locs cells slots Q (F0 m 87 ls []) := by
  have hx := X.1.1
  have hb := X.1.2.1
  intro v1 σ h H locs ls hW hl
  unfold pf_X11_campaign_b87 at h
  refine lv_iload_n hx hb dX11_campaign_87 rfl (lv_at hl 0 rfl) ?_
  obtain ⟨r_1, hcl, h⟩ := bind_el h
  refine call_S1 X hW m_7_57 m_2_221 mv_J6_bitCount_0f7a4 (c_J6_bitCount_0f7a4 hcl) (by decide) rfl rfl (Nat.le_of_ble_eq_true rfl) hl.1 dX11_campaign_88 ?_
  clear hW hcl; intro H locs hW
  exact ri_end hret h dX11_campaign_91 hW
set_option maxRecDepth 20000 in
set_option maxHeartbeats 4000000 in
theorem bl_X11_campaign_L13 (X : Cx G p R s m args c cells slots cX11_campaign 4 RX11 10) {r : Int32} {σ' : St} (hret : R_I G p l e R s m args below meth c cells slots Q cX11_campaign r σ') {k87 : Int32 → St → (Option (Int32 × St))}
    (hk87 : ∀ (v1 : Int32) (σ : St) (_ : k87 v1 σ = some (r, σ')) (H : Heap) (locs : List Loc) (ls : Array Slot) (_ : GW G σ s H locs) (_ : lv_has ls 4 [(1, .int (v1))]), W p l e R s m args below meth c H locs cells slots Q (F0 m 87 ls [])) :
    ∀ (n : Nat), ∀ (v0 : Nat) (h0 : kd v0 = 10) (v1 : Int32) (v2 : Int32) (σ : St) (_ : pf_X11_campaign_L13 k87 n v0 v1 v2 σ = some (r, σ')) (H : Heap) (locs : List Loc) (ls : Array Slot) (_ : GW G σ s H locs) (_ : lv_has ls 4 [(0, .ref (gz G + (v0))), (1, .int (v1)), (2, .int (v2))]), W p l e R s m args below meth c H locs cells slots Q (F0 m 13 ls []) := by
  have hx := X.1.1
  have hb := X.1.2.1
  intro n
  induction n with
  | zero => intro v0 h0 v1 v2 σ h H locs ls hW hl; cases h
  | succ n ih =>
    intro v0 h0 v1 v2 σ h H locs ls hW hl
    rw [pf_X11_campaign_L13.eq_2] at h
    refine lv_iload_n hx hb dX11_campaign_13 rfl (lv_at hl 2 rfl) ?_
    refine lv_if_eq (tgt := 87) hx hb dX11_campaign_14 (by decide) (fun hc => ?_) (fun hc => ?_)
    · replace h := if_t hc h
      exact hk87 v1 σ h _ _ _ hW (lv_sub hl [1] rfl)
    · replace h := if_f hc h
      refine lv_iconst (v := 0) hx hb dX11_campaign_17 (by decide) ?_
      refine lv_istore_n (lv' := [(3, .int (0)), (0, .ref (gz G + (v0))), (1, .int (v1)), (2, .int (v2))]) hx hb dX11_campaign_18 rfl hl (by decide) rfl ?_
      clear hl; intro ls hl
      exact bl_X11_campaign_L19 X hret (bl_X11_campaign_b51 X hret ih) FU v0 h0 v1 0 σ h _ _ _ hW (lv_sub hl [1, 2, 0] rfl)
set_option maxRecDepth 20000 in
set_option maxHeartbeats 4000000 in
theorem c_X11_campaign {G : Gt} {l : Launch} {v0 : Nat} (h0 : kd v0 = 10) {σ : St} {r : Int32} {σ' : St} (hf : pf_X11_campaign v0 σ = some (r, σ')) : Ct G l yX11_campaign cX11_campaign 4 (some .int) 10 [.ref (gz G + (v0))] σ (some (.int r)) σ' := by
  refine met_i (by decide +kernel) (Nat.le_of_ble_eq_true rfl) rfl ?_
  intro p e s m args below meth c Q ls X hW hret hl
  have hx := X.1.1
  have hb := X.1.2.1
  have hl : lv_has ls 4 [(0, .ref (gz G + (v0)))] := hl
  have h := hf
  clear hf
  unfold pf_X11_campaign at h
  refine lv_aload_n hx hb dX11_campaign_0 rfl (lv_at hl 0 rfl) ?_
  refine lv_iconst (v := 0) hx hb dX11_campaign_1 (by decide) ?_
  refine sf_X11_thrown X hW h0 m_6_6 dX11_campaign_2 ?_
  clear hW; intro H locs hW
  refine nm_s hW h ?_
  clear hW h; intro σ_1 hW h
  refine lv_aload_n hx hb dX11_campaign_5 rfl (lv_at hl 0 rfl) ?_
  obtain ⟨σ_2, hcl, h⟩ := bind_el h
  refine call_V0 X hW (kC_X11 h0) m_7_66 m_7_68 m_0_78 mv_X11_asItIs (c_X11_asItIs h0 hcl) (by decide) rfl rfl (Nat.le_of_ble_eq_true rfl) hl.1 dX11_campaign_6 ?_
  clear hW hcl; intro H locs hW
  refine lv_iconst (v := 0) hx hb dX11_campaign_9 (by decide) ?_
  refine lv_istore_n (lv' := [(1, .int (0)), (0, .ref (gz G + (v0)))]) hx hb dX11_campaign_10 rfl hl (by decide) rfl ?_
  clear hl; intro ls hl
  refine lv_iconst (v := 1) hx hb dX11_campaign_11 (by decide) ?_
  refine lv_istore_n (lv' := [(2, .int (1)), (1, .int (0)), (0, .ref (gz G + (v0)))]) hx hb dX11_campaign_12 rfl hl (by decide) rfl ?_
  clear hl; intro ls hl
  exact bl_X11_campaign_L13 X hret (bl_X11_campaign_b87 X hret) FU v0 h0 0 1 σ_2 h _ _ _ hW (lv_sub hl [2, 1, 0] rfl)
set_option maxRecDepth 20000 in
set_option maxHeartbeats 4000000 in
theorem c_X11_worth {G : Gt} {l : Launch} {v0 : Nat} (h0 : kd v0 = 10) {v1 : Int32} {σ : St} {r : Int32} {σ' : St} (hf : pf_X11_worth v0 v1 σ = some (r, σ')) : Ct G l yX11_worth cX11_worth 2 (some .int) 12 [.ref (gz G + (v0)), .int (v1)] σ (some (.int r)) σ' := by
  refine met_i (by decide +kernel) (Nat.le_of_ble_eq_true rfl) rfl ?_
  intro p e s m args below meth c Q ls X hW hret hl
  have hx := X.1.1
  have hb := X.1.2.1
  have hl : lv_has ls 2 [(0, .ref (gz G + (v0))), (1, .int (v1))] := hl
  have h := hf
  clear hf
  unfold pf_X11_worth at h
  refine lv_aload_n hx hb dX11_worth_0 rfl (lv_at hl 0 rfl) ?_
  refine lv_iconst (v := 0) hx hb dX11_worth_1 (by decide) ?_
  refine sf_X11_thrown X hW h0 m_6_6 dX11_worth_2 ?_
  clear hW; intro H locs hW
  refine nm_s hW h ?_
  clear hW h; intro σ_1 hW h
  refine lv_aload_n hx hb dX11_worth_5 rfl (lv_at hl 0 rfl) ?_
  refine lv_iload_n hx hb dX11_worth_6 rfl (lv_at hl 1 rfl) ?_
  obtain ⟨r_2, σ_2, hcl, h⟩ := bnd2_el h
  refine call_V1 X hW (kC_X11 h0) m_7_112 m_7_114 m_0_87 mv_X11_isQuest (c_X11_isQuest h0 hcl) (by decide) rfl rfl (Nat.le_of_ble_eq_true rfl) hl.1 dX11_worth_7 ?_
  clear hW hcl; intro H locs hW
  refine lv_if_eq (tgt := 21) hx hb dX11_worth_10 (by decide) (fun hc => ?_) (fun hc => ?_)
  · replace h := if_t hc h
    refine lv_iconst (v := 0) hx hb dX11_worth_21 (by decide) ?_
    exact ri_end hret h dX11_worth_22 hW
  · replace h := if_f hc h
    refine lv_aload_n hx hb dX11_worth_13 rfl (lv_at hl 0 rfl) ?_
    refine lv_iload_n hx hb dX11_worth_14 rfl (lv_at hl 1 rfl) ?_
    obtain ⟨r_3, σ_3, hcl, h⟩ := bnd2_el h
    refine call_V1 X hW (kC_X11 h0) m_7_196 m_7_198 m_0_96 mv_X11_worthOf (c_X11_worthOf h0 hcl) (by decide) rfl rfl (Nat.le_of_ble_eq_true rfl) hl.1 dX11_worth_15 ?_
    clear hW hcl; intro H locs hW
    refine lv_goto (tgt := 22) hx hb dX11_worth_18 (by decide) ?_
    exact ri_end hret h dX11_worth_22 hW
set_option maxRecDepth 20000 in
set_option maxHeartbeats 4000000 in
theorem bl_X11_best_b46 (X : Cx G p R s m args c cells slots cX11_best 3 RX11 12) {r : Int32} {σ' : St} (hret : R_I G p l e R s m args below meth c cells slots Q cX11_best r σ') {k9 : Nat → Int32 → Int32 → St → (Option (Int32 × St))}
    (hk9 : ∀ (v0 : Nat) (h0 : kd v0 = 10) (v1 : Int32) (v2 : Int32) (σ : St) (_ : k9 v0 v1 v2 σ = some (r, σ')) (H : Heap) (locs : List Loc) (ls : Array Slot) (_ : GW G σ s H locs) (_ : lv_has ls 3 [(0, .ref (gz G + (v0))), (1, .int (v1)), (2, .int (v2))]), W p l e R s m args below meth c H locs cells slots Q (F0 m 9 ls [])) :
    ∀ (v0 : Nat) (h0 : kd v0 = 10) (v1 : Int32) (v2 : Int32) (σ : St) (_ : pf_X11_best_b46 k9 v0 v1 v2 σ = some (r, σ')) (H : Heap) (locs : List Loc) (ls : Array Slot) (_ : GW G σ s H locs) (_ : lv_has ls 3 [(0, .ref (gz G + (v0))), (1, .int (v1)), (2, .int (v2))]), W p l e R s m args below meth c H locs cells slots Q (F0 m 46 ls []) := by
  have hx := X.1.1
  have hb := X.1.2.1
  intro v0 h0 v1 v2 σ h H locs ls hW hl
  unfold pf_X11_best_b46 at h
  refine w_iinc (v := 1) (lv' := fun y => [(2, .int (y)), (0, .ref (gz G + (v0))), (1, .int (v1))]) hx hb dX11_best_46 hl (k := 2) rfl (by decide) (by decide) (fun _ => rfl) h ?_
  clear h hl; intro v2_1 h ls hl
  refine lv_goto (tgt := 9) hx hb dX11_best_49 (by decide) ?_
  exact hk9 v0 h0 v1 v2_1 σ h _ _ _ hW (lv_sub hl [1, 2, 0] rfl)
set_option maxRecDepth 20000 in
set_option maxHeartbeats 4000000 in
theorem bl_X11_best_b44 (X : Cx G p R s m args c cells slots cX11_best 3 RX11 12) {r : Int32} {σ' : St} (hret : R_I G p l e R s m args below meth c cells slots Q cX11_best r σ') {k9 : Nat → Int32 → Int32 → St → (Option (Int32 × St))}
    (hk9 : ∀ (v0 : Nat) (h0 : kd v0 = 10) (v1 : Int32) (v2 : Int32) (σ : St) (_ : k9 v0 v1 v2 σ = some (r, σ')) (H : Heap) (locs : List Loc) (ls : Array Slot) (_ : GW G σ s H locs) (_ : lv_has ls 3 [(0, .ref (gz G + (v0))), (1, .int (v1)), (2, .int (v2))]), W p l e R s m args below meth c H locs cells slots Q (F0 m 9 ls [])) :
    ∀ (v0 : Nat) (h0 : kd v0 = 10) (v2 : Int32) (σ : St) (_ : pf_X11_best_b44 k9 v0 v2 σ = some (r, σ')) (H : Heap) (locs : List Loc) (ls : Array Slot) (_ : GW G σ s H locs) (_ : lv_has ls 3 [(0, .ref (gz G + (v0))), (2, .int (v2))]), W p l e R s m args below meth c H locs cells slots Q (F0 m 44 ls []) := by
  have hx := X.1.1
  have hb := X.1.2.1
  intro v0 h0 v2 σ h H locs ls hW hl
  unfold pf_X11_best_b44 at h
  refine lv_iload_n hx hb dX11_best_44 rfl (lv_at hl 1 rfl) ?_
  refine lv_istore_n (lv' := [(1, .int (v2)), (0, .ref (gz G + (v0))), (2, .int (v2))]) hx hb dX11_best_45 rfl hl (by decide) rfl ?_
  clear hl; intro ls hl
  exact bl_X11_best_b46 X hret hk9 v0 h0 v2 v2 σ h _ _ _ hW (lv_sub hl [1, 0, 2] rfl)
set_option maxRecDepth 20000 in
set_option maxHeartbeats 4000000 in
theorem bl_X11_best_L9 (X : Cx G p R s m args c cells slots cX11_best 3 RX11 12) {r : Int32} {σ' : St} (hret : R_I G p l e R s m args below meth c cells slots Q cX11_best r σ') :
    ∀ (n : Nat), ∀ (v0 : Nat) (h0 : kd v0 = 10) (v1 : Int32) (v2 : Int32) (σ : St) (_ : pf_X11_best_L9 n v0 v1 v2 σ = some (r, σ')) (H : Heap) (locs : List Loc) (ls : Array Slot) (_ : GW G σ s H locs) (_ : lv_has ls 3 [(0, .ref (gz G + (v0))), (1, .int (v1)), (2, .int (v2))]), W p l e R s m args below meth c H locs cells slots Q (F0 m 9 ls []) := by
  have hx := X.1.1
  have hb := X.1.2.1
  intro n
  induction n with
  | zero => intro v0 h0 v1 v2 σ h H locs ls hW hl; cases h
  | succ n ih =>
    intro v0 h0 v1 v2 σ h H locs ls hW hl
    rw [pf_X11_best_L9.eq_2] at h
    refine lv_iload_n hx hb dX11_best_9 rfl (lv_at hl 2 rfl) ?_
    refine lv_aload_n hx hb dX11_best_10 rfl (lv_at hl 0 rfl) ?_
    refine lv_iconst (v := 0) hx hb dX11_best_11 (by decide) ?_
    obtain ⟨r_1, hcl, h⟩ := bind_el h
    refine call_V1 X hW (kC_X11 h0) m_7_17 m_7_19 m_0_68 mv_X11_get (c_X11_get h0 hcl) (by decide) rfl rfl (Nat.le_of_ble_eq_true rfl) hl.1 dX11_best_12 ?_
    clear hW hcl; intro H locs hW
    refine lv_icmp_ge (tgt := 52) hx hb dX11_best_15 (by decide) (fun hc => ?_) (fun hc => ?_)
    · replace h := if_t hc h
      refine lv_iload_n hx hb dX11_best_52 rfl (lv_at hl 1 rfl) ?_
      exact ri_end hret h dX11_best_53 hW
    · replace h := if_f hc h
      refine lv_aload_n hx hb dX11_best_18 rfl (lv_at hl 0 rfl) ?_
      refine lv_iload_n hx hb dX11_best_19 rfl (lv_at hl 2 rfl) ?_
      obtain ⟨r_2, σ_2, hcl, h⟩ := bnd2_el h
      refine call_V1 X hW (kC_X11 h0) m_7_62 m_7_64 m_0_77 mv_X11_isPossible (c_X11_isPossible h0 hcl) (by decide) rfl rfl (Nat.le_of_ble_eq_true rfl) hl.1 dX11_best_20 ?_
      clear hW hcl; intro H locs hW
      refine lv_if_eq (tgt := 46) hx hb dX11_best_23 (by decide) (fun hc => ?_) (fun hc => ?_)
      · replace h := if_t hc h
        exact bl_X11_best_b46 X hret ih v0 h0 v1 v2 σ_2 h _ _ _ hW (lv_sub hl [0, 1, 2] rfl)
      · replace h := if_f hc h
        refine lv_iload_n hx hb dX11_best_26 rfl (lv_at hl 1 rfl) ?_
        refine lv_iconst (v := (-1)) hx hb dX11_best_27 (by decide) ?_
        refine lv_icmp_eq (tgt := 44) hx hb dX11_best_28 (by decide) (fun hc => ?_) (fun hc => ?_)
        · replace h := if_t hc h
          exact bl_X11_best_b44 X hret ih v0 h0 v2 σ_2 h _ _ _ hW (lv_sub hl [0, 2] rfl)
        · replace h := if_f hc h
          refine lv_aload_n hx hb dX11_best_31 rfl (lv_at hl 0 rfl) ?_
          refine lv_iload_n hx hb dX11_best_32 rfl (lv_at hl 2 rfl) ?_
          obtain ⟨r_3, σ_3, hcl, h⟩ := bnd2_el h
          refine call_V1 X hW (kC_X11 h0) m_7_196 m_7_198 m_0_96 mv_X11_worthOf (c_X11_worthOf h0 hcl) (by decide) rfl rfl (Nat.le_of_ble_eq_true rfl) hl.1 dX11_best_33 ?_
          clear hW hcl; intro H locs hW
          refine lv_aload_n hx hb dX11_best_36 rfl (lv_at hl 0 rfl) ?_
          refine lv_iload_n hx hb dX11_best_37 rfl (lv_at hl 1 rfl) ?_
          obtain ⟨r_4, σ_4, hcl, h⟩ := bnd2_el h
          refine call_V1 X hW (kC_X11 h0) m_7_196 m_7_198 m_0_96 mv_X11_worthOf (c_X11_worthOf h0 hcl) (by decide) rfl rfl (Nat.le_of_ble_eq_true rfl) hl.1 dX11_best_38 ?_
          clear hW hcl; intro H locs hW
          refine lv_icmp_le (tgt := 46) hx hb dX11_best_41 (by decide) (fun hc => ?_) (fun hc => ?_)
          · replace h := if_t hc h
            exact bl_X11_best_b46 X hret ih v0 h0 v1 v2 σ_4 h _ _ _ hW (lv_sub hl [0, 1, 2] rfl)
          · replace h := if_f hc h
            exact bl_X11_best_b44 X hret ih v0 h0 v2 σ_4 h _ _ _ hW (lv_sub hl [0, 2] rfl)
set_option maxRecDepth 20000 in
set_option maxHeartbeats 4000000 in
theorem c_X11_best {G : Gt} {l : Launch} {v0 : Nat} (h0 : kd v0 = 10) {σ : St} {r : Int32} {σ' : St} (hf : pf_X11_best v0 σ = some (r, σ')) : Ct G l yX11_best cX11_best 3 (some .int) 12 [.ref (gz G + (v0))] σ (some (.int r)) σ' := by
  refine met_i (by decide +kernel) (Nat.le_of_ble_eq_true rfl) rfl ?_
  intro p e s m args below meth c Q ls X hW hret hl
  have hx := X.1.1
  have hb := X.1.2.1
  have hl : lv_has ls 3 [(0, .ref (gz G + (v0)))] := hl
  have h := hf
  clear hf
  unfold pf_X11_best at h
  refine lv_aload_n hx hb dX11_best_0 rfl (lv_at hl 0 rfl) ?_
  refine lv_iconst (v := 0) hx hb dX11_best_1 (by decide) ?_
  refine sf_X11_thrown X hW h0 m_6_6 dX11_best_2 ?_
  clear hW; intro H locs hW
  refine nm_s hW h ?_
  clear hW h; intro σ_1 hW h
  refine lv_iconst (v := (-1)) hx hb dX11_best_5 (by decide) ?_
  refine lv_istore_n (lv' := [(1, .int ((-1))), (0, .ref (gz G + (v0)))]) hx hb dX11_best_6 rfl hl (by decide) rfl ?_
  clear hl; intro ls hl
  refine lv_iconst (v := 0) hx hb dX11_best_7 (by decide) ?_
  refine lv_istore_n (lv' := [(2, .int (0)), (1, .int ((-1))), (0, .ref (gz G + (v0)))]) hx hb dX11_best_8 rfl hl (by decide) rfl ?_
  clear hl; intro ls hl
  exact bl_X11_best_L9 X hret FU v0 h0 (-1) 0 σ_1 h _ _ _ hW (lv_sub hl [2, 1, 0] rfl)
set_option maxRecDepth 20000 in
set_option maxHeartbeats 4000000 in
theorem bl_X11_chance_b21 (X : Cx G p R s m args c cells slots cX11_chance 5 RX11 11) {r : UInt64} {σ' : St} (hret : R_D G p l e R s m args below meth c cells slots Q cX11_chance r σ') :
    ∀ (σ : St) (_ : pf_X11_chance_b21 σ = some (r, σ')) (H : Heap) (locs : List Loc) (ls : Array Slot) (_ : GW G σ s H locs) (_ : lv_has ls 5 []), W p l e R s m args below meth c H locs cells slots Q (F0 m 21 ls []) := by
  have hx := X.1.1
  have hb := X.1.2.1
  intro σ h H locs ls hW hl
  unfold pf_X11_chance_b21 at h
  refine lv_dconst0 hx hb dX11_chance_21 ?_
  exact rd_end hret h dX11_chance_22 hW
set_option maxRecDepth 20000 in
set_option maxHeartbeats 4000000 in
theorem bl_X11_chance_b67 (X : Cx G p R s m args c cells slots cX11_chance 5 RX11 11) {r : UInt64} {σ' : St} (hret : R_D G p l e R s m args below meth c cells slots Q cX11_chance r σ') :
    ∀ (v2 : UInt64) (σ : St) (_ : pf_X11_chance_b67 v2 σ = some (r, σ')) (H : Heap) (locs : List Loc) (ls : Array Slot) (_ : GW G σ s H locs) (_ : lv_has ls 5 [(2, .double (v2))]), W p l e R s m args below meth c H locs cells slots Q (F0 m 67 ls []) := by
  have hx := X.1.1
  have hb := X.1.2.1
  intro v2 σ h H locs ls hW hl
  unfold pf_X11_chance_b67 at h
  refine lv_dload_n hx hb dX11_chance_67 rfl (lv_at hl 0 rfl) ?_
  exact rd_end hret h dX11_chance_68 hW
set_option maxRecDepth 20000 in
set_option maxHeartbeats 4000000 in
theorem bl_X11_chance_L28 (X : Cx G p R s m args c cells slots cX11_chance 5 RX11 11) {r : UInt64} {σ' : St} (hret : R_D G p l e R s m args below meth c cells slots Q cX11_chance r σ') {k67 : UInt64 → St → (Option (UInt64 × St))}
    (hk67 : ∀ (v2 : UInt64) (σ : St) (_ : k67 v2 σ = some (r, σ')) (H : Heap) (locs : List Loc) (ls : Array Slot) (_ : GW G σ s H locs) (_ : lv_has ls 5 [(2, .double (v2))]), W p l e R s m args below meth c H locs cells slots Q (F0 m 67 ls [])) :
    ∀ (n : Nat), ∀ (v0 : Nat) (h0 : kd v0 = 10) (v1 : Int32) (v2 : UInt64) (v4 : Int32) (σ : St) (_ : pf_X11_chance_L28 k67 n v0 v1 v2 v4 σ = some (r, σ')) (H : Heap) (locs : List Loc) (ls : Array Slot) (_ : GW G σ s H locs) (_ : lv_has ls 5 [(0, .ref (gz G + (v0))), (1, .int (v1)), (2, .double (v2)), (4, .int (v4))]), W p l e R s m args below meth c H locs cells slots Q (F0 m 28 ls []) := by
  have hx := X.1.1
  have hb := X.1.2.1
  intro n
  induction n with
  | zero => intro v0 h0 v1 v2 v4 σ h H locs ls hW hl; cases h
  | succ n ih =>
    intro v0 h0 v1 v2 v4 σ h H locs ls hW hl
    rw [pf_X11_chance_L28.eq_2] at h
    refine lv_iload hx hb dX11_chance_28 (lv_at hl 3 rfl) ?_
    refine lv_aload_n hx hb dX11_chance_30 rfl (lv_at hl 0 rfl) ?_
    refine gf_X11_planMany X hW h0 m_6_17 dX11_chance_31 ?_
    refine lv_icmp_ge (tgt := 67) hx hb dX11_chance_34 (by decide) (fun hc => ?_) (fun hc => ?_)
    · replace h := if_t hc h
      exact hk67 v2 σ h _ _ _ hW (lv_sub hl [2] rfl)
    · replace h := if_f hc h
      refine lv_dload_n hx hb dX11_chance_37 rfl (lv_at hl 2 rfl) ?_
      refine lv_bipush (v := 100) hx hb dX11_chance_38 (by decide) ?_
      refine lv_aload_n hx hb dX11_chance_40 rfl (lv_at hl 0 rfl) ?_
      refine lv_iload_n hx hb dX11_chance_41 rfl (lv_at hl 1 rfl) ?_
      refine lv_aload_n hx hb dX11_chance_42 rfl (lv_at hl 0 rfl) ?_
      refine gf_X11_plan X hW h0 m_6_16 dX11_chance_43 ?_
      refine lv_iload hx hb dX11_chance_46 (lv_at hl 3 rfl) ?_
      obtain ⟨hi1, h⟩ := ckI_el h
      refine r_iald X hW (kf_X11_plan h0) hi1 dX11_chance_48 ?_
      refine lv_iconst (v := 0) hx hb dX11_chance_49 (by decide) ?_
      obtain ⟨r_2, hcl, h⟩ := bind_el h
      refine call_V1 X hW (kC_X11 h0) m_7_50 m_7_52 m_0_75 mv_X11_ofStep (c_X11_ofStep h0 hcl) (by decide) rfl rfl (Nat.le_of_ble_eq_true rfl) hl.1 dX11_chance_50 ?_
      clear hW hcl; intro H locs hW
      refine lv_isub hx hb dX11_chance_53 ?_
      refine lv_i2d hx hb dX11_chance_54 ?_
      refine lv_ldc2d (v := 4636737291354636288) hx hb X.1.2.2.2.1 (X.1.2.2.2.2 _ m_7_219) dX11_chance_55 ?_
      obtain ⟨hnn, h⟩ := ckD_el h
      refine lv_ddiv hx hb dX11_chance_58 hnn ?_
      obtain ⟨hnn, h⟩ := ckD_el h
      refine lv_dmul hx hb dX11_chance_59 hnn ?_
      refine nm_d h ?_
      clear h; intro v2_3 h
      refine lv_dstore_n (lv' := [(2, .double (v2_3)), (0, .ref (gz G + (v0))), (1, .int (v1)), (4, .int (v4))]) hx hb dX11_chance_60 rfl hl (by decide) rfl ?_
      clear hl; intro ls hl
      refine w_iinc (v := 1) (lv' := fun y => [(4, .int (y)), (2, .double (v2_3)), (0, .ref (gz G + (v0))), (1, .int (v1))]) hx hb dX11_chance_61 hl (k := 3) rfl (by decide) (by decide) (fun _ => rfl) h ?_
      clear h hl; intro v4_4 h ls hl
      refine lv_goto (tgt := 28) hx hb dX11_chance_64 (by decide) ?_
      exact ih v0 h0 v1 v2_3 v4_4 σ h _ _ _ hW (lv_sub hl [2, 3, 1, 0] rfl)
set_option maxRecDepth 20000 in
set_option maxHeartbeats 4000000 in
theorem c_X11_chance {G : Gt} {l : Launch} {v0 : Nat} (h0 : kd v0 = 10) {v1 : Int32} {σ : St} {r : UInt64} {σ' : St} (hf : pf_X11_chance v0 v1 σ = some (r, σ')) : Ct G l yX11_chance cX11_chance 5 (some .double) 11 [.ref (gz G + (v0)), .int (v1)] σ (some (.double r)) σ' := by
  refine met_d (by decide +kernel) (Nat.le_of_ble_eq_true rfl) rfl ?_
  intro p e s m args below meth c Q ls X hW hret hl
  have hx := X.1.1
  have hb := X.1.2.1
  have hl : lv_has ls 5 [(0, .ref (gz G + (v0))), (1, .int (v1))] := hl
  have h := hf
  clear hf
  unfold pf_X11_chance at h
  refine lv_aload_n hx hb dX11_chance_0 rfl (lv_at hl 0 rfl) ?_
  refine lv_iconst (v := 0) hx hb dX11_chance_1 (by decide) ?_
  refine sf_X11_thrown X hW h0 m_6_6 dX11_chance_2 ?_
  clear hW; intro H locs hW
  refine nm_s hW h ?_
  clear hW h; intro σ_1 hW h
  refine lv_aload_n hx hb dX11_chance_5 rfl (lv_at hl 0 rfl) ?_
  refine lv_iload_n hx hb dX11_chance_6 rfl (lv_at hl 1 rfl) ?_
  obtain ⟨r_2, σ_2, hcl, h⟩ := bnd2_el h
  refine call_V1 X hW (kC_X11 h0) m_7_112 m_7_114 m_0_87 mv_X11_isQuest (c_X11_isQuest h0 hcl) (by decide) rfl rfl (Nat.le_of_ble_eq_true rfl) hl.1 dX11_chance_7 ?_
  clear hW hcl; intro H locs hW
  refine lv_if_eq (tgt := 21) hx hb dX11_chance_10 (by decide) (fun hc => ?_) (fun hc => ?_)
  · replace h := if_t hc h
    exact bl_X11_chance_b21 X hret σ_2 h _ _ _ hW (lv_sub hl [] rfl)
  · replace h := if_f hc h
    refine lv_aload_n hx hb dX11_chance_13 rfl (lv_at hl 0 rfl) ?_
    refine lv_iload_n hx hb dX11_chance_14 rfl (lv_at hl 1 rfl) ?_
    obtain ⟨r_3, σ_3, hcl, h⟩ := bnd2_el h
    refine call_V1 X hW (kC_X11 h0) m_7_164 m_7_166 m_0_93 mv_X11_hasPlan (c_X11_hasPlan h0 hcl) (by decide) rfl rfl (Nat.le_of_ble_eq_true rfl) hl.1 dX11_chance_15 ?_
    clear hW hcl; intro H locs hW
    refine lv_if_ne (tgt := 23) hx hb dX11_chance_18 (by decide) (fun hc => ?_) (fun hc => ?_)
    · replace h := if_f hc h
      refine lv_dconst1 hx hb dX11_chance_23 ?_
      refine lv_dstore_n (lv' := [(2, .double (FP.dconst1)), (0, .ref (gz G + (v0))), (1, .int (v1))]) hx hb dX11_chance_24 rfl hl (by decide) rfl ?_
      clear hl; intro ls hl
      refine lv_iconst (v := 0) hx hb dX11_chance_25 (by decide) ?_
      refine lv_istore (lv' := [(4, .int (0)), (2, .double (FP.dconst1)), (0, .ref (gz G + (v0))), (1, .int (v1))]) hx hb dX11_chance_26 hl (by decide) rfl ?_
      clear hl; intro ls hl
      exact bl_X11_chance_L28 X hret (bl_X11_chance_b67 X hret) FU v0 h0 v1 (FP.dconst1) 0 σ_3 h _ _ _ hW (lv_sub hl [2, 3, 1, 0] rfl)
    · replace h := if_t hc h
      exact bl_X11_chance_b21 X hret σ_3 h _ _ _ hW (lv_sub hl [] rfl)
set_option maxRecDepth 20000 in
set_option maxHeartbeats 4000000 in
theorem bl_X11_progress_b30 (X : Cx G p R s m args c cells slots cX11_progress 1 RX11 11) {r : UInt32} {σ' : St} (hret : R_F G p l e R s m args below meth c cells slots Q cX11_progress r σ') :
    ∀ (s0 : UInt32) (σ : St) (_ : pf_X11_progress_b30 s0 σ = some (r, σ')) (H : Heap) (locs : List Loc) (ls : Array Slot) (_ : GW G σ s H locs) (_ : lv_has ls 1 []), W p l e R s m args below meth c H locs cells slots Q (F0 m 30 ls [.float (s0)]) := by
  have hx := X.1.1
  have hb := X.1.2.1
  intro s0 σ h H locs ls hW hl
  unfold pf_X11_progress_b30 at h
  exact rf_end hret h dX11_progress_30 hW
set_option maxRecDepth 20000 in
set_option maxHeartbeats 4000000 in
theorem c_X11_progress {G : Gt} {l : Launch} {v0 : Nat} (h0 : kd v0 = 10) {σ : St} {r : UInt32} {σ' : St} (hf : pf_X11_progress v0 σ = some (r, σ')) : Ct G l yX11_progress cX11_progress 1 (some .float) 11 [.ref (gz G + (v0))] σ (some (.float r)) σ' := by
  refine met_f (by decide +kernel) (Nat.le_of_ble_eq_true rfl) rfl ?_
  intro p e s m args below meth c Q ls X hW hret hl
  have hx := X.1.1
  have hb := X.1.2.1
  have hl : lv_has ls 1 [(0, .ref (gz G + (v0)))] := hl
  have h := hf
  clear hf
  unfold pf_X11_progress at h
  refine lv_aload_n hx hb dX11_progress_0 rfl (lv_at hl 0 rfl) ?_
  refine lv_iconst (v := 0) hx hb dX11_progress_1 (by decide) ?_
  refine sf_X11_thrown X hW h0 m_6_6 dX11_progress_2 ?_
  clear hW; intro H locs hW
  refine nm_s hW h ?_
  clear hW h; intro σ_1 hW h
  refine lv_aload_n hx hb dX11_progress_5 rfl (lv_at hl 0 rfl) ?_
  refine lv_iconst (v := 1) hx hb dX11_progress_6 (by decide) ?_
  obtain ⟨r_2, σ_2, hcl, h⟩ := bnd2_el h
  refine call_V1 X hW (kC_X11 h0) m_7_34 m_7_36 m_0_71 mv_X11_counted (c_X11_counted h0 hcl) (by decide) rfl rfl (Nat.le_of_ble_eq_true rfl) hl.1 dX11_progress_7 ?_
  clear hW hcl; intro H locs hW
  refine lv_if_ne (tgt := 17) hx hb dX11_progress_10 (by decide) (fun hc => ?_) (fun hc => ?_)
  · replace h := if_f hc h
    refine lv_aload_n hx hb dX11_progress_17 rfl (lv_at hl 0 rfl) ?_
    refine lv_iconst (v := 4) hx hb dX11_progress_18 (by decide) ?_
    obtain ⟨r_3, σ_3, hcl, h⟩ := bnd2_el h
    refine call_V1 X hW (kC_X11 h0) m_7_34 m_7_36 m_0_71 mv_X11_counted (c_X11_counted h0 hcl) (by decide) rfl rfl (Nat.le_of_ble_eq_true rfl) hl.1 dX11_progress_19 ?_
    clear hW hcl; intro H locs hW
    refine lv_i2f hx hb dX11_progress_22 ?_
    refine lv_aload_n hx hb dX11_progress_23 rfl (lv_at hl 0 rfl) ?_
    refine lv_iconst (v := 1) hx hb dX11_progress_24 (by decide) ?_
    obtain ⟨r_4, σ_4, hcl, h⟩ := bnd2_el h
    refine call_V1 X hW (kC_X11 h0) m_7_34 m_7_36 m_0_71 mv_X11_counted (c_X11_counted h0 hcl) (by decide) rfl rfl (Nat.le_of_ble_eq_true rfl) hl.1 dX11_progress_25 ?_
    clear hW hcl; intro H locs hW
    refine lv_i2f hx hb dX11_progress_28 ?_
    obtain ⟨hnn, h⟩ := ckF_el h
    refine lv_fdiv hx hb dX11_progress_29 hnn ?_
    exact bl_X11_progress_b30 X hret (FP.fdiv (FP.i2f r_3) (FP.i2f r_4)) σ_4 h _ _ _ hW (lv_sub hl [] rfl)
  · replace h := if_t hc h
    refine lv_fconst0 hx hb dX11_progress_13 ?_
    refine lv_goto (tgt := 30) hx hb dX11_progress_14 (by decide) ?_
    exact bl_X11_progress_b30 X hret (FP.fconst0) σ_2 h _ _ _ hW (lv_sub hl [] rfl)
set_option maxRecDepth 20000 in
set_option maxHeartbeats 4000000 in
theorem bl_X11_tell_b56 (X : Cx G p R s m args c cells slots cX11_tell 3 RX11 4) {r : Int32} {σ' : St} (hret : R_I G p l e R s m args below meth c cells slots Q cX11_tell r σ') :
    ∀ (v0 : Nat) (h0 : kd v0 = 10) (v1 : Int32) (v2 : Int32) (s0 : Nat) (hs0 : kd s0 = 10) (s1 : Int32) (σ : St) (_ : pf_X11_tell_b56 v0 v1 v2 s0 s1 σ = some (r, σ')) (H : Heap) (locs : List Loc) (ls : Array Slot) (_ : GW G σ s H locs) (_ : lv_has ls 3 [(0, .ref (gz G + (v0))), (1, .int (v1)), (2, .int (v2))]), W p l e R s m args below meth c H locs cells slots Q (F0 m 56 ls [.int (s1), .ref (gz G + (s0))]) := by
  have hx := X.1.1
  have hb := X.1.2.1
  intro v0 h0 v1 v2 s0 hs0 s1 σ h H locs ls hW hl
  unfold pf_X11_tell_b56 at h
  refine lv_iconst (v := 2) hx hb dX11_tell_56 (by decide) ?_
  obtain ⟨r_1, σ_1, hcl, h⟩ := bnd2_el h
  refine call_V1 X hW (kC_X11 hs0) m_6_112 m_6_114 m_0_39 mv_X11_right (c_X11_right hs0 hcl) (by decide) rfl rfl (Nat.le_of_ble_eq_true rfl) hl.1 dX11_tell_57 ?_
  clear hW hcl; intro H locs hW
  refine lv_if_ne (tgt := 65) hx hb dX11_tell_60 (by decide) (fun hc => ?_) (fun hc => ?_)
  · replace h := if_f hc h
    refine lv_aload_n hx hb dX11_tell_65 rfl (lv_at hl 0 rfl) ?_
    obtain ⟨σ_2, hcl, h⟩ := bind_el h
    refine call_V0 X hW (kC_X11 h0) m_7_13 m_7_15 m_0_67 mv_X11_change (c_X11_change h0 hcl) (by decide) rfl rfl (Nat.le_of_ble_eq_true rfl) hl.1 dX11_tell_66 ?_
    clear hW hcl; intro H locs hW
    refine lv_aload_n hx hb dX11_tell_69 rfl (lv_at hl 0 rfl) ?_
    refine lv_bipush (v := 13) hx hb dX11_tell_70 (by decide) ?_
    refine lv_aload_n hx hb dX11_tell_72 rfl (lv_at hl 0 rfl) ?_
    refine lv_iconst (v := 2) hx hb dX11_tell_73 (by decide) ?_
    obtain ⟨r_3, hcl, h⟩ := bind_el h
    refine call_V1 X hW (kC_X11 h0) m_7_17 m_7_19 m_0_68 mv_X11_get (c_X11_get h0 hcl) (by decide) rfl rfl (Nat.le_of_ble_eq_true rfl) hl.1 dX11_tell_74 ?_
    clear hW hcl; intro H locs hW
    refine lv_iadd hx hb dX11_tell_77 ?_
    refine lv_iload_n hx hb dX11_tell_78 rfl (lv_at hl 1 rfl) ?_
    obtain ⟨σ_4, hcl, h⟩ := bind_el h
    refine call_V0 X hW (kC_X11 h0) m_7_21 m_7_23 m_0_69 mv_X11_put (c_X11_put h0 hcl) (by decide) rfl rfl (Nat.le_of_ble_eq_true rfl) hl.1 dX11_tell_79 ?_
    clear hW hcl; intro H locs hW
    refine lv_aload_n hx hb dX11_tell_82 rfl (lv_at hl 0 rfl) ?_
    refine lv_bipush (v := 13) hx hb dX11_tell_83 (by decide) ?_
    refine lv_aload_n hx hb dX11_tell_85 rfl (lv_at hl 0 rfl) ?_
    refine lv_iconst (v := 2) hx hb dX11_tell_86 (by decide) ?_
    obtain ⟨r_5, hcl, h⟩ := bind_el h
    refine call_V1 X hW (kC_X11 h0) m_7_17 m_7_19 m_0_68 mv_X11_get (c_X11_get h0 hcl) (by decide) rfl rfl (Nat.le_of_ble_eq_true rfl) hl.1 dX11_tell_87 ?_
    clear hW hcl; intro H locs hW
    refine lv_iadd hx hb dX11_tell_90 ?_
    refine lv_iconst (v := 1) hx hb dX11_tell_91 (by decide) ?_
    refine lv_iadd hx hb dX11_tell_92 ?_
    refine lv_iload_n hx hb dX11_tell_93 rfl (lv_at hl 2 rfl) ?_
    obtain ⟨σ_6, hcl, h⟩ := bind_el h
    refine call_V0 X hW (kC_X11 h0) m_7_21 m_7_23 m_0_69 mv_X11_put (c_X11_put h0 hcl) (by decide) rfl rfl (Nat.le_of_ble_eq_true rfl) hl.1 dX11_tell_94 ?_
    clear hW hcl; intro H locs hW
    refine lv_aload_n hx hb dX11_tell_97 rfl (lv_at hl 0 rfl) ?_
    refine lv_iconst (v := 2) hx hb dX11_tell_98 (by decide) ?_
    refine lv_aload_n hx hb dX11_tell_99 rfl (lv_at hl 0 rfl) ?_
    refine lv_iconst (v := 2) hx hb dX11_tell_100 (by decide) ?_
    obtain ⟨r_7, hcl, h⟩ := bind_el h
    refine call_V1 X hW (kC_X11 h0) m_7_17 m_7_19 m_0_68 mv_X11_get (c_X11_get h0 hcl) (by decide) rfl rfl (Nat.le_of_ble_eq_true rfl) hl.1 dX11_tell_101 ?_
    clear hW hcl; intro H locs hW
    refine lv_iconst (v := 2) hx hb dX11_tell_104 (by decide) ?_
    refine lv_iadd hx hb dX11_tell_105 ?_
    obtain ⟨σ_8, hcl, h⟩ := bind_el h
    refine call_V0 X hW (kC_X11 h0) m_7_21 m_7_23 m_0_69 mv_X11_put (c_X11_put h0 hcl) (by decide) rfl rfl (Nat.le_of_ble_eq_true rfl) hl.1 dX11_tell_106 ?_
    clear hW hcl; intro H locs hW
    refine lv_aload_n hx hb dX11_tell_109 rfl (lv_at hl 0 rfl) ?_
    refine lv_iconst (v := 2) hx hb dX11_tell_110 (by decide) ?_
    obtain ⟨r_9, hcl, h⟩ := bind_el h
    refine call_V1 X hW (kC_X11 h0) m_7_17 m_7_19 m_0_68 mv_X11_get (c_X11_get h0 hcl) (by decide) rfl rfl (Nat.le_of_ble_eq_true rfl) hl.1 dX11_tell_111 ?_
    clear hW hcl; intro H locs hW
    exact ri_end hret h dX11_tell_114 hW
  · replace h := if_t hc h
    refine lv_iconst (v := 0) hx hb dX11_tell_63 (by decide) ?_
    exact ri_end hret h dX11_tell_64 hW
set_option maxRecDepth 20000 in
set_option maxHeartbeats 4000000 in
theorem bl_X11_tell_b31 (X : Cx G p R s m args c cells slots cX11_tell 3 RX11 4) {r : Int32} {σ' : St} (hret : R_I G p l e R s m args below meth c cells slots Q cX11_tell r σ') :
    ∀ (v0 : Nat) (h0 : kd v0 = 10) (v1 : Int32) (v2 : Int32) (s0 : Nat) (hs0 : kd s0 = 10) (s1 : Int32) (σ : St) (_ : pf_X11_tell_b31 v0 v1 v2 s0 s1 σ = some (r, σ')) (H : Heap) (locs : List Loc) (ls : Array Slot) (_ : GW G σ s H locs) (_ : lv_has ls 3 [(0, .ref (gz G + (v0))), (1, .int (v1)), (2, .int (v2))]), W p l e R s m args below meth c H locs cells slots Q (F0 m 31 ls [.int (s1), .ref (gz G + (s0))]) := by
  have hx := X.1.1
  have hb := X.1.2.1
  intro v0 h0 v1 v2 s0 hs0 s1 σ h H locs ls hW hl
  unfold pf_X11_tell_b31 at h
  refine lv_iconst (v := 1) hx hb dX11_tell_31 (by decide) ?_
  obtain ⟨r_1, σ_1, hcl, h⟩ := bnd2_el h
  refine call_V1 X hW (kC_X11 hs0) m_6_112 m_6_114 m_0_39 mv_X11_right (c_X11_right hs0 hcl) (by decide) rfl rfl (Nat.le_of_ble_eq_true rfl) hl.1 dX11_tell_32 ?_
  clear hW hcl; intro H locs hW
  refine lv_if_eq (tgt := 63) hx hb dX11_tell_35 (by decide) (fun hc => ?_) (fun hc => ?_)
  · replace h := if_t hc h
    refine lv_iconst (v := 0) hx hb dX11_tell_63 (by decide) ?_
    exact ri_end hret h dX11_tell_64 hW
  · replace h := if_f hc h
    refine lv_aload_n hx hb dX11_tell_38 rfl (lv_at hl 0 rfl) ?_
    refine lv_aload_n hx hb dX11_tell_39 rfl (lv_at hl 0 rfl) ?_
    refine lv_iconst (v := 2) hx hb dX11_tell_40 (by decide) ?_
    obtain ⟨r_2, hcl, h⟩ := bind_el h
    refine call_V1 X hW (kC_X11 h0) m_7_17 m_7_19 m_0_68 mv_X11_get (c_X11_get h0 hcl) (by decide) rfl rfl (Nat.le_of_ble_eq_true rfl) hl.1 dX11_tell_41 ?_
    clear hW hcl; intro H locs hW
    refine lv_iconst (v := 2) hx hb dX11_tell_44 (by decide) ?_
    refine lv_iadd hx hb dX11_tell_45 ?_
    refine lv_bipush (v := 40) hx hb dX11_tell_46 (by decide) ?_
    refine lv_icmp_gt (tgt := 55) hx hb dX11_tell_48 (by decide) (fun hc => ?_) (fun hc => ?_)
    · replace h := if_t hc h
      refine lv_iconst (v := 0) hx hb dX11_tell_55 (by decide) ?_
      exact bl_X11_tell_b56 X hret v0 h0 v1 v2 v0 h0 0 σ_1 h _ _ _ hW (lv_sub hl [0, 1, 2] rfl)
    · replace h := if_f hc h
      refine lv_iconst (v := 1) hx hb dX11_tell_51 (by decide) ?_
      refine lv_goto (tgt := 56) hx hb dX11_tell_52 (by decide) ?_
      exact bl_X11_tell_b56 X hret v0 h0 v1 v2 v0 h0 1 σ_1 h _ _ _ hW (lv_sub hl [0, 1, 2] rfl)
set_option maxRecDepth 20000 in
set_option maxHeartbeats 4000000 in
theorem bl_X11_tell_b30 (X : Cx G p R s m args c cells slots cX11_tell 3 RX11 4) {r : Int32} {σ' : St} (hret : R_I G p l e R s m args below meth c cells slots Q cX11_tell r σ') :
    ∀ (v0 : Nat) (h0 : kd v0 = 10) (v1 : Int32) (v2 : Int32) (s0 : Nat) (hs0 : kd s0 = 10) (σ : St) (_ : pf_X11_tell_b30 v0 v1 v2 s0 σ = some (r, σ')) (H : Heap) (locs : List Loc) (ls : Array Slot) (_ : GW G σ s H locs) (_ : lv_has ls 3 [(0, .ref (gz G + (v0))), (1, .int (v1)), (2, .int (v2))]), W p l e R s m args below meth c H locs cells slots Q (F0 m 30 ls [.ref (gz G + (s0))]) := by
  have hx := X.1.1
  have hb := X.1.2.1
  intro v0 h0 v1 v2 s0 hs0 σ h H locs ls hW hl
  unfold pf_X11_tell_b30 at h
  refine lv_iconst (v := 0) hx hb dX11_tell_30 (by decide) ?_
  exact bl_X11_tell_b31 X hret v0 h0 v1 v2 s0 hs0 0 σ h _ _ _ hW (lv_sub hl [0, 1, 2] rfl)
set_option maxRecDepth 20000 in
set_option maxHeartbeats 4000000 in
theorem c_X11_tell {G : Gt} {l : Launch} {v0 : Nat} (h0 : kd v0 = 10) {v1 : Int32} {v2 : Int32} {σ : St} {r : Int32} {σ' : St} (hf : pf_X11_tell v0 v1 v2 σ = some (r, σ')) : Ct G l yX11_tell cX11_tell 3 (some .int) 4 [.ref (gz G + (v0)), .int (v1), .int (v2)] σ (some (.int r)) σ' := by
  refine met_i (by decide +kernel) (Nat.le_of_ble_eq_true rfl) rfl ?_
  intro p e s m args below meth c Q ls X hW hret hl
  have hx := X.1.1
  have hb := X.1.2.1
  have hl : lv_has ls 3 [(0, .ref (gz G + (v0))), (1, .int (v1)), (2, .int (v2))] := hl
  have h := hf
  clear hf
  unfold pf_X11_tell at h
  refine lv_aload_n hx hb dX11_tell_0 rfl (lv_at hl 0 rfl) ?_
  refine lv_iconst (v := 0) hx hb dX11_tell_1 (by decide) ?_
  refine sf_X11_thrown X hW h0 m_6_6 dX11_tell_2 ?_
  clear hW; intro H locs hW
  refine nm_s hW h ?_
  clear hW h; intro σ_1 hW h
  refine lv_aload_n hx hb dX11_tell_5 rfl (lv_at hl 0 rfl) ?_
  refine lv_iload_n hx hb dX11_tell_6 rfl (lv_at hl 1 rfl) ?_
  refine lv_iconst (v := 0) hx hb dX11_tell_7 (by decide) ?_
  refine lv_bipush (v := 99) hx hb dX11_tell_8 (by decide) ?_
  obtain ⟨r_2, hcl, h⟩ := bind_el h
  refine call_S1 X hW m_6_109 m_6_110 mv_X11_isIn (c_X11_isIn hcl) (by decide) rfl rfl (Nat.le_of_ble_eq_true rfl) hl.1 dX11_tell_10 ?_
  clear hW hcl; intro H locs hW
  refine lv_if_eq (tgt := 30) hx hb dX11_tell_13 (by decide) (fun hc => ?_) (fun hc => ?_)
  · replace h := if_t hc h
    exact bl_X11_tell_b30 X hret v0 h0 v1 v2 v0 h0 σ_1 h _ _ _ hW (lv_sub hl [0, 1, 2] rfl)
  · replace h := if_f hc h
    refine lv_iload_n hx hb dX11_tell_16 rfl (lv_at hl 2 rfl) ?_
    refine lv_iconst (v := 0) hx hb dX11_tell_17 (by decide) ?_
    refine lv_bipush (v := 99) hx hb dX11_tell_18 (by decide) ?_
    obtain ⟨r_3, hcl, h⟩ := bind_el h
    refine call_S1 X hW m_6_109 m_6_110 mv_X11_isIn (c_X11_isIn hcl) (by decide) rfl rfl (Nat.le_of_ble_eq_true rfl) hl.1 dX11_tell_20 ?_
    clear hW hcl; intro H locs hW
    refine lv_if_eq (tgt := 30) hx hb dX11_tell_23 (by decide) (fun hc => ?_) (fun hc => ?_)
    · replace h := if_t hc h
      exact bl_X11_tell_b30 X hret v0 h0 v1 v2 v0 h0 σ_1 h _ _ _ hW (lv_sub hl [0, 1, 2] rfl)
    · replace h := if_f hc h
      refine lv_iconst (v := 1) hx hb dX11_tell_26 (by decide) ?_
      refine lv_goto (tgt := 31) hx hb dX11_tell_27 (by decide) ?_
      exact bl_X11_tell_b31 X hret v0 h0 v1 v2 v0 h0 1 σ_1 h _ _ _ hW (lv_sub hl [0, 1, 2] rfl)
set_option maxRecDepth 20000 in
set_option maxHeartbeats 4000000 in
theorem bl_X11_drawn_L63 (X : Cx G p R s m args c cells slots cX11_drawn 3 RX11 3) {r : Int32} {σ' : St} (hret : R_I G p l e R s m args below meth c cells slots Q cX11_drawn r σ') :
    ∀ (n : Nat), ∀ (v0 : Nat) (h0 : kd v0 = 10) (v1 : Int32) (v2 : Int32) (σ : St) (_ : pf_X11_drawn_L63 n v0 v1 v2 σ = some (r, σ')) (H : Heap) (locs : List Loc) (ls : Array Slot) (_ : GW G σ s H locs) (_ : lv_has ls 3 [(0, .ref (gz G + (v0))), (1, .int (v1)), (2, .int (v2))]), W p l e R s m args below meth c H locs cells slots Q (F0 m 63 ls []) := by
  have hx := X.1.1
  have hb := X.1.2.1
  intro n
  induction n with
  | zero => intro v0 h0 v1 v2 σ h H locs ls hW hl; cases h
  | succ n ih =>
    intro v0 h0 v1 v2 σ h H locs ls hW hl
    rw [pf_X11_drawn_L63.eq_2] at h
    refine lv_iload_n hx hb dX11_drawn_63 rfl (lv_at hl 2 rfl) ?_
    refine lv_aload_n hx hb dX11_drawn_64 rfl (lv_at hl 0 rfl) ?_
    refine lv_iconst (v := 2) hx hb dX11_drawn_65 (by decide) ?_
    obtain ⟨r_1, hcl, h⟩ := bind_el h
    refine call_V1 X hW (kC_X11 h0) m_7_17 m_7_19 m_0_68 mv_X11_get (c_X11_get h0 hcl) (by decide) rfl rfl (Nat.le_of_ble_eq_true rfl) hl.1 dX11_drawn_66 ?_
    clear hW hcl; intro H locs hW
    refine lv_icmp_ge (tgt := 96) hx hb dX11_drawn_69 (by decide) (fun hc => ?_) (fun hc => ?_)
    · replace h := if_t hc h
      refine lv_iload_n hx hb dX11_drawn_96 rfl (lv_at hl 1 rfl) ?_
      exact ri_end hret h dX11_drawn_97 hW
    · replace h := if_f hc h
      refine lv_aload_n hx hb dX11_drawn_72 rfl (lv_at hl 0 rfl) ?_
      refine lv_bipush (v := 13) hx hb dX11_drawn_73 (by decide) ?_
      refine lv_iload_n hx hb dX11_drawn_75 rfl (lv_at hl 2 rfl) ?_
      refine lv_iadd hx hb dX11_drawn_76 ?_
      refine lv_aload_n hx hb dX11_drawn_77 rfl (lv_at hl 0 rfl) ?_
      refine lv_bipush (v := 13) hx hb dX11_drawn_78 (by decide) ?_
      refine lv_iload_n hx hb dX11_drawn_80 rfl (lv_at hl 2 rfl) ?_
      refine lv_iadd hx hb dX11_drawn_81 ?_
      refine lv_iconst (v := 1) hx hb dX11_drawn_82 (by decide) ?_
      refine lv_iadd hx hb dX11_drawn_83 ?_
      obtain ⟨r_2, hcl, h⟩ := bind_el h
      refine call_V1 X hW (kC_X11 h0) m_7_17 m_7_19 m_0_68 mv_X11_get (c_X11_get h0 hcl) (by decide) rfl rfl (Nat.le_of_ble_eq_true rfl) hl.1 dX11_drawn_84 ?_
      clear hW hcl; intro H locs hW
      obtain ⟨σ_3, hcl, h⟩ := bind_el h
      refine call_V0 X hW (kC_X11 h0) m_7_21 m_7_23 m_0_69 mv_X11_put (c_X11_put h0 hcl) (by decide) rfl rfl (Nat.le_of_ble_eq_true rfl) hl.1 dX11_drawn_87 ?_
      clear hW hcl; intro H locs hW
      refine w_iinc (v := 1) (lv' := fun y => [(2, .int (y)), (0, .ref (gz G + (v0))), (1, .int (v1))]) hx hb dX11_drawn_90 hl (k := 2) rfl (by decide) (by decide) (fun _ => rfl) h ?_
      clear h hl; intro v2_4 h ls hl
      refine lv_goto (tgt := 63) hx hb dX11_drawn_93 (by decide) ?_
      exact ih v0 h0 v1 v2_4 σ_3 h _ _ _ hW (lv_sub hl [1, 2, 0] rfl)
set_option maxRecDepth 20000 in
set_option maxHeartbeats 4000000 in
theorem c_X11_drawn {G : Gt} {l : Launch} {v0 : Nat} (h0 : kd v0 = 10) {σ : St} {r : Int32} {σ' : St} (hf : pf_X11_drawn v0 σ = some (r, σ')) : Ct G l yX11_drawn cX11_drawn 3 (some .int) 3 [.ref (gz G + (v0))] σ (some (.int r)) σ' := by
  refine met_i (by decide +kernel) (Nat.le_of_ble_eq_true rfl) rfl ?_
  intro p e s m args below meth c Q ls X hW hret hl
  have hx := X.1.1
  have hb := X.1.2.1
  have hl : lv_has ls 3 [(0, .ref (gz G + (v0)))] := hl
  have h := hf
  clear hf
  unfold pf_X11_drawn at h
  refine lv_aload_n hx hb dX11_drawn_0 rfl (lv_at hl 0 rfl) ?_
  refine lv_iconst (v := 2) hx hb dX11_drawn_1 (by decide) ?_
  obtain ⟨r_1, hcl, h⟩ := bind_el h
  refine call_V1 X hW (kC_X11 h0) m_7_17 m_7_19 m_0_68 mv_X11_get (c_X11_get h0 hcl) (by decide) rfl rfl (Nat.le_of_ble_eq_true rfl) hl.1 dX11_drawn_2 ?_
  clear hW hcl; intro H locs hW
  refine lv_if_ne (tgt := 42) hx hb dX11_drawn_5 (by decide) (fun hc => ?_) (fun hc => ?_)
  · replace h := if_f hc h
    refine lv_aload_n hx hb dX11_drawn_42 rfl (lv_at hl 0 rfl) ?_
    refine lv_bipush (v := 13) hx hb dX11_drawn_43 (by decide) ?_
    obtain ⟨r_5, hcl, h⟩ := bind_el h
    refine call_V1 X hW (kC_X11 h0) m_7_17 m_7_19 m_0_68 mv_X11_get (c_X11_get h0 hcl) (by decide) rfl rfl (Nat.le_of_ble_eq_true rfl) hl.1 dX11_drawn_45 ?_
    clear hW hcl; intro H locs hW
    refine lv_istore_n (lv' := [(1, .int (r_5)), (0, .ref (gz G + (v0)))]) hx hb dX11_drawn_48 rfl hl (by decide) rfl ?_
    clear hl; intro ls hl
    refine lv_aload_n hx hb dX11_drawn_49 rfl (lv_at hl 1 rfl) ?_
    refine lv_iconst (v := 2) hx hb dX11_drawn_50 (by decide) ?_
    refine lv_aload_n hx hb dX11_drawn_51 rfl (lv_at hl 1 rfl) ?_
    refine lv_iconst (v := 2) hx hb dX11_drawn_52 (by decide) ?_
    obtain ⟨r_6, hcl, h⟩ := bind_el h
    refine call_V1 X hW (kC_X11 h0) m_7_17 m_7_19 m_0_68 mv_X11_get (c_X11_get h0 hcl) (by decide) rfl rfl (Nat.le_of_ble_eq_true rfl) hl.1 dX11_drawn_53 ?_
    clear hW hcl; intro H locs hW
    refine lv_iconst (v := 1) hx hb dX11_drawn_56 (by decide) ?_
    refine lv_isub hx hb dX11_drawn_57 ?_
    obtain ⟨σ_7, hcl, h⟩ := bind_el h
    refine call_V0 X hW (kC_X11 h0) m_7_21 m_7_23 m_0_69 mv_X11_put (c_X11_put h0 hcl) (by decide) rfl rfl (Nat.le_of_ble_eq_true rfl) hl.1 dX11_drawn_58 ?_
    clear hW hcl; intro H locs hW
    refine lv_iconst (v := 0) hx hb dX11_drawn_61 (by decide) ?_
    refine lv_istore_n (lv' := [(2, .int (0)), (1, .int (r_5)), (0, .ref (gz G + (v0)))]) hx hb dX11_drawn_62 rfl hl (by decide) rfl ?_
    clear hl; intro ls hl
    exact bl_X11_drawn_L63 X hret FU v0 h0 r_5 0 σ_7 h _ _ _ hW (lv_sub hl [2, 1, 0] rfl)
  · replace h := if_t hc h
    refine lv_aload_n hx hb dX11_drawn_8 rfl (lv_at hl 0 rfl) ?_
    refine lv_iconst (v := 1) hx hb dX11_drawn_9 (by decide) ?_
    refine lv_aload_n hx hb dX11_drawn_10 rfl (lv_at hl 0 rfl) ?_
    refine lv_iconst (v := 1) hx hb dX11_drawn_11 (by decide) ?_
    obtain ⟨r_2, hcl, h⟩ := bind_el h
    refine call_V1 X hW (kC_X11 h0) m_7_17 m_7_19 m_0_68 mv_X11_get (c_X11_get h0 hcl) (by decide) rfl rfl (Nat.le_of_ble_eq_true rfl) hl.1 dX11_drawn_12 ?_
    clear hW hcl; intro H locs hW
    refine lv_ldcw (v := 1103515245) hx hb X.1.2.2.2.1 (X.1.2.2.2.2 _ m_8_0) dX11_drawn_15 ?_
    refine lv_imul hx hb dX11_drawn_18 ?_
    refine lv_sipush (v := 12345) hx hb dX11_drawn_19 (by decide) ?_
    refine lv_iadd hx hb dX11_drawn_22 ?_
    obtain ⟨σ_3, hcl, h⟩ := bind_el h
    refine call_V0 X hW (kC_X11 h0) m_7_21 m_7_23 m_0_69 mv_X11_put (c_X11_put h0 hcl) (by decide) rfl rfl (Nat.le_of_ble_eq_true rfl) hl.1 dX11_drawn_23 ?_
    clear hW hcl; intro H locs hW
    refine lv_aload_n hx hb dX11_drawn_26 rfl (lv_at hl 0 rfl) ?_
    refine lv_iconst (v := 1) hx hb dX11_drawn_27 (by decide) ?_
    obtain ⟨r_4, hcl, h⟩ := bind_el h
    refine call_V1 X hW (kC_X11 h0) m_7_17 m_7_19 m_0_68 mv_X11_get (c_X11_get h0 hcl) (by decide) rfl rfl (Nat.le_of_ble_eq_true rfl) hl.1 dX11_drawn_28 ?_
    clear hW hcl; intro H locs hW
    refine lv_bipush (v := 16) hx hb dX11_drawn_31 (by decide) ?_
    refine w_ishr hx hb dX11_drawn_33 ?_
    refine lv_sipush (v := 32767) hx hb dX11_drawn_34 (by decide) ?_
    refine lv_iand hx hb dX11_drawn_37 ?_
    refine lv_bipush (v := 100) hx hb dX11_drawn_38 (by decide) ?_
    refine w_irem hx hb dX11_drawn_40 (by decide) ?_
    exact ri_end hret h dX11_drawn_41 hW
set_option maxRecDepth 20000 in
set_option maxHeartbeats 4000000 in
theorem bl_X11_deadSet_b82 {σ : St} (X : Cx G p R s m args c cells slots cX11_deadSet 5 RX11 6) {r : Int32} (hret : R_I G p l e R s m args below meth c cells slots Q cX11_deadSet r σ) {k25 : Nat → Int32 → Int32 → Int32 → Int32 → (Option (Int32))}
    (hk25 : ∀ (v0 : Nat) (h0 : kd v0 = 10) (v1 : Int32) (v2 : Int32) (v3 : Int32) (v4 : Int32) (_ : k25 v0 v1 v2 v3 v4 = some r) (H : Heap) (locs : List Loc) (ls : Array Slot) (_ : GW G σ s H locs) (_ : lv_has ls 5 [(0, .ref (gz G + (v0))), (1, .int (v1)), (2, .int (v2)), (3, .int (v3)), (4, .int (v4))]), W p l e R s m args below meth c H locs cells slots Q (F0 m 25 ls [])) :
    ∀ (v0 : Nat) (h0 : kd v0 = 10) (v1 : Int32) (v2 : Int32) (v3 : Int32) (v4 : Int32) (_ : pf_X11_deadSet_b82 σ k25 v0 v1 v2 v3 v4 = some r) (H : Heap) (locs : List Loc) (ls : Array Slot) (_ : GW G σ s H locs) (_ : lv_has ls 5 [(0, .ref (gz G + (v0))), (1, .int (v1)), (2, .int (v2)), (3, .int (v3)), (4, .int (v4))]), W p l e R s m args below meth c H locs cells slots Q (F0 m 82 ls []) := by
  have hx := X.1.1
  have hb := X.1.2.1
  intro v0 h0 v1 v2 v3 v4 h H locs ls hW hl
  unfold pf_X11_deadSet_b82 at h
  refine w_iinc (v := 1) (lv' := fun y => [(4, .int (y)), (0, .ref (gz G + (v0))), (1, .int (v1)), (2, .int (v2)), (3, .int (v3))]) hx hb dX11_deadSet_82 hl (k := 4) rfl (by decide) (by decide) (fun _ => rfl) h ?_
  clear h hl; intro v4_1 h ls hl
  refine lv_goto (tgt := 25) hx hb dX11_deadSet_85 (by decide) ?_
  exact hk25 v0 h0 v1 v2 v3 v4_1 h _ _ _ hW (lv_sub hl [1, 2, 3, 4, 0] rfl)
set_option maxRecDepth 20000 in
set_option maxHeartbeats 4000000 in
theorem bl_X11_deadSet_b88 {σ : St} (X : Cx G p R s m args c cells slots cX11_deadSet 5 RX11 6) {r : Int32} (hret : R_I G p l e R s m args below meth c cells slots Q cX11_deadSet r σ) {k16 : Nat → Int32 → Int32 → Int32 → (Option (Int32))}
    (hk16 : ∀ (v0 : Nat) (h0 : kd v0 = 10) (v1 : Int32) (v2 : Int32) (v3 : Int32) (_ : k16 v0 v1 v2 v3 = some r) (H : Heap) (locs : List Loc) (ls : Array Slot) (_ : GW G σ s H locs) (_ : lv_has ls 5 [(0, .ref (gz G + (v0))), (1, .int (v1)), (2, .int (v2)), (3, .int (v3))]), W p l e R s m args below meth c H locs cells slots Q (F0 m 16 ls [])) :
    ∀ (v0 : Nat) (h0 : kd v0 = 10) (v1 : Int32) (v2 : Int32) (v3 : Int32) (_ : pf_X11_deadSet_b88 σ k16 v0 v1 v2 v3 = some r) (H : Heap) (locs : List Loc) (ls : Array Slot) (_ : GW G σ s H locs) (_ : lv_has ls 5 [(0, .ref (gz G + (v0))), (1, .int (v1)), (2, .int (v2)), (3, .int (v3))]), W p l e R s m args below meth c H locs cells slots Q (F0 m 88 ls []) := by
  have hx := X.1.1
  have hb := X.1.2.1
  intro v0 h0 v1 v2 v3 h H locs ls hW hl
  unfold pf_X11_deadSet_b88 at h
  refine lv_goto (tgt := 16) hx hb dX11_deadSet_88 (by decide) ?_
  exact hk16 v0 h0 v1 v2 v3 h _ _ _ hW (lv_sub hl [0, 1, 2, 3] rfl)
set_option maxRecDepth 20000 in
set_option maxHeartbeats 4000000 in
theorem bl_X11_deadSet_L25 {σ : St} (X : Cx G p R s m args c cells slots cX11_deadSet 5 RX11 6) {r : Int32} (hret : R_I G p l e R s m args below meth c cells slots Q cX11_deadSet r σ) {k88 : Nat → Int32 → Int32 → Int32 → (Option (Int32))}
    (hk88 : ∀ (v0 : Nat) (h0 : kd v0 = 10) (v1 : Int32) (v2 : Int32) (v3 : Int32) (_ : k88 v0 v1 v2 v3 = some r) (H : Heap) (locs : List Loc) (ls : Array Slot) (_ : GW G σ s H locs) (_ : lv_has ls 5 [(0, .ref (gz G + (v0))), (1, .int (v1)), (2, .int (v2)), (3, .int (v3))]), W p l e R s m args below meth c H locs cells slots Q (F0 m 88 ls [])) :
    ∀ (n : Nat), ∀ (v0 : Nat) (h0 : kd v0 = 10) (v1 : Int32) (v2 : Int32) (v3 : Int32) (v4 : Int32) (_ : pf_X11_deadSet_L25 σ k88 n v0 v1 v2 v3 v4 = some r) (H : Heap) (locs : List Loc) (ls : Array Slot) (_ : GW G σ s H locs) (_ : lv_has ls 5 [(0, .ref (gz G + (v0))), (1, .int (v1)), (2, .int (v2)), (3, .int (v3)), (4, .int (v4))]), W p l e R s m args below meth c H locs cells slots Q (F0 m 25 ls []) := by
  have hx := X.1.1
  have hb := X.1.2.1
  intro n
  induction n with
  | zero => intro v0 h0 v1 v2 v3 v4 h H locs ls hW hl; cases h
  | succ n ih =>
    intro v0 h0 v1 v2 v3 v4 h H locs ls hW hl
    rw [pf_X11_deadSet_L25.eq_2] at h
    refine lv_iload hx hb dX11_deadSet_25 (lv_at hl 4 rfl) ?_
    refine lv_aload_n hx hb dX11_deadSet_27 rfl (lv_at hl 0 rfl) ?_
    refine lv_iload_n hx hb dX11_deadSet_28 rfl (lv_at hl 1 rfl) ?_
    obtain ⟨r_1, hcl, h⟩ := bind_el h
    refine call_V1 X hW (kC_X11 h0) m_7_38 m_7_40 m_0_72 mv_X11_stepsOf (c_X11_stepsOf h0 hcl) (by decide) rfl rfl (Nat.le_of_ble_eq_true rfl) hl.1 dX11_deadSet_29 ?_
    clear hW hcl; intro H locs hW
    refine lv_icmp_ge (tgt := 88) hx hb dX11_deadSet_32 (by decide) (fun hc => ?_) (fun hc => ?_)
    · replace h := if_t hc h
      exact hk88 v0 h0 v1 v2 v3 h _ _ _ hW (lv_sub hl [0, 1, 2, 3] rfl)
    · replace h := if_f hc h
      refine lv_iload_n hx hb dX11_deadSet_35 rfl (lv_at hl 2 rfl) ?_
      refine lv_iload hx hb dX11_deadSet_36 (lv_at hl 4 rfl) ?_
      refine w_ishr hx hb dX11_deadSet_38 ?_
      refine lv_iconst (v := 1) hx hb dX11_deadSet_39 (by decide) ?_
      refine lv_iand hx hb dX11_deadSet_40 ?_
      refine lv_iconst (v := 1) hx hb dX11_deadSet_41 (by decide) ?_
      refine lv_icmp_eq (tgt := 82) hx hb dX11_deadSet_42 (by decide) (fun hc => ?_) (fun hc => ?_)
      · replace h := if_t hc h
        exact bl_X11_deadSet_b82 X hret ih v0 h0 v1 v2 v3 v4 h _ _ _ hW (lv_sub hl [0, 1, 2, 3, 4] rfl)
      · replace h := if_f hc h
        refine lv_aload_n hx hb dX11_deadSet_45 rfl (lv_at hl 0 rfl) ?_
        refine lv_iload_n hx hb dX11_deadSet_46 rfl (lv_at hl 1 rfl) ?_
        refine lv_iload hx hb dX11_deadSet_47 (lv_at hl 4 rfl) ?_
        refine lv_iconst (v := 3) hx hb dX11_deadSet_49 (by decide) ?_
        obtain ⟨r_2, hcl, h⟩ := bind_el h
        refine call_V1 X hW (kC_X11 h0) m_7_50 m_7_52 m_0_75 mv_X11_ofStep (c_X11_ofStep h0 hcl) (by decide) rfl rfl (Nat.le_of_ble_eq_true rfl) hl.1 dX11_deadSet_50 ?_
        clear hW hcl; intro H locs hW
        refine lv_iconst (v := 1) hx hb dX11_deadSet_53 (by decide) ?_
        refine lv_icmp_eq (tgt := 82) hx hb dX11_deadSet_54 (by decide) (fun hc => ?_) (fun hc => ?_)
        · replace h := if_t hc h
          exact bl_X11_deadSet_b82 X hret ih v0 h0 v1 v2 v3 v4 h _ _ _ hW (lv_sub hl [0, 1, 2, 3, 4] rfl)
        · replace h := if_f hc h
          refine lv_aload_n hx hb dX11_deadSet_57 rfl (lv_at hl 0 rfl) ?_
          refine lv_iload_n hx hb dX11_deadSet_58 rfl (lv_at hl 1 rfl) ?_
          refine lv_iload hx hb dX11_deadSet_59 (lv_at hl 4 rfl) ?_
          refine lv_iconst (v := 4) hx hb dX11_deadSet_61 (by decide) ?_
          obtain ⟨r_3, hcl, h⟩ := bind_el h
          refine call_V1 X hW (kC_X11 h0) m_7_50 m_7_52 m_0_75 mv_X11_ofStep (c_X11_ofStep h0 hcl) (by decide) rfl rfl (Nat.le_of_ble_eq_true rfl) hl.1 dX11_deadSet_62 ?_
          clear hW hcl; intro H locs hW
          refine lv_iload_n hx hb dX11_deadSet_65 rfl (lv_at hl 2 rfl) ?_
          refine lv_iand hx hb dX11_deadSet_66 ?_
          refine lv_if_ne (tgt := 73) hx hb dX11_deadSet_67 (by decide) (fun hc => ?_) (fun hc => ?_)
          · replace h := if_f hc h
            refine lv_iload_n hx hb dX11_deadSet_73 rfl (lv_at hl 2 rfl) ?_
            refine lv_iconst (v := 1) hx hb dX11_deadSet_74 (by decide) ?_
            refine lv_iload hx hb dX11_deadSet_75 (lv_at hl 4 rfl) ?_
            refine w_ishl hx hb dX11_deadSet_77 ?_
            refine lv_ior hx hb dX11_deadSet_78 ?_
            refine nm_i h ?_
            clear h; intro v2_4 h
            refine lv_istore_n (lv' := [(2, .int (v2_4)), (0, .ref (gz G + (v0))), (1, .int (v1)), (3, .int (v3)), (4, .int (v4))]) hx hb dX11_deadSet_79 rfl hl (by decide) rfl ?_
            clear hl; intro ls hl
            refine lv_iconst (v := 1) hx hb dX11_deadSet_80 (by decide) ?_
            refine lv_istore_n (lv' := [(3, .int (1)), (2, .int (v2_4)), (0, .ref (gz G + (v0))), (1, .int (v1)), (4, .int (v4))]) hx hb dX11_deadSet_81 rfl hl (by decide) rfl ?_
            clear hl; intro ls hl
            exact bl_X11_deadSet_b82 X hret ih v0 h0 v1 v2_4 1 v4 h _ _ _ hW (lv_sub hl [2, 3, 1, 0, 4] rfl)
          · replace h := if_t hc h
            refine lv_goto (tgt := 82) hx hb dX11_deadSet_70 (by decide) ?_
            exact bl_X11_deadSet_b82 X hret ih v0 h0 v1 v2 v3 v4 h _ _ _ hW (lv_sub hl [0, 1, 2, 3, 4] rfl)
set_option maxRecDepth 20000 in
set_option maxHeartbeats 4000000 in
theorem bl_X11_deadSet_L16 {σ : St} (X : Cx G p R s m args c cells slots cX11_deadSet 5 RX11 6) {r : Int32} (hret : R_I G p l e R s m args below meth c cells slots Q cX11_deadSet r σ) :
    ∀ (n : Nat), ∀ (v0 : Nat) (h0 : kd v0 = 10) (v1 : Int32) (v2 : Int32) (v3 : Int32) (_ : pf_X11_deadSet_L16 σ n v0 v1 v2 v3 = some r) (H : Heap) (locs : List Loc) (ls : Array Slot) (_ : GW G σ s H locs) (_ : lv_has ls 5 [(0, .ref (gz G + (v0))), (1, .int (v1)), (2, .int (v2)), (3, .int (v3))]), W p l e R s m args below meth c H locs cells slots Q (F0 m 16 ls []) := by
  have hx := X.1.1
  have hb := X.1.2.1
  intro n
  induction n with
  | zero => intro v0 h0 v1 v2 v3 h H locs ls hW hl; cases h
  | succ n ih =>
    intro v0 h0 v1 v2 v3 h H locs ls hW hl
    rw [pf_X11_deadSet_L16.eq_2] at h
    refine lv_iload_n hx hb dX11_deadSet_16 rfl (lv_at hl 3 rfl) ?_
    refine lv_if_eq (tgt := 91) hx hb dX11_deadSet_17 (by decide) (fun hc => ?_) (fun hc => ?_)
    · replace h := if_t hc h
      refine lv_iload_n hx hb dX11_deadSet_91 rfl (lv_at hl 2 rfl) ?_
      exact ri_end0 hret h dX11_deadSet_92 hW
    · replace h := if_f hc h
      refine lv_iconst (v := 0) hx hb dX11_deadSet_20 (by decide) ?_
      refine lv_istore_n (lv' := [(3, .int (0)), (0, .ref (gz G + (v0))), (1, .int (v1)), (2, .int (v2))]) hx hb dX11_deadSet_21 rfl hl (by decide) rfl ?_
      clear hl; intro ls hl
      refine lv_iconst (v := 0) hx hb dX11_deadSet_22 (by decide) ?_
      refine lv_istore (lv' := [(4, .int (0)), (3, .int (0)), (0, .ref (gz G + (v0))), (1, .int (v1)), (2, .int (v2))]) hx hb dX11_deadSet_23 hl (by decide) rfl ?_
      clear hl; intro ls hl
      exact bl_X11_deadSet_L25 X hret (bl_X11_deadSet_b88 X hret ih) FU v0 h0 v1 v2 0 0 h _ _ _ hW (lv_sub hl [2, 3, 4, 1, 0] rfl)
set_option maxRecDepth 20000 in
set_option maxHeartbeats 4000000 in
theorem c_X11_deadSet {G : Gt} {l : Launch} {v0 : Nat} (h0 : kd v0 = 10) {v1 : Int32} {σ : St} {r : Int32} (hf : pf_X11_deadSet v0 v1 σ = some r) : Ct G l yX11_deadSet cX11_deadSet 5 (some .int) 6 [.ref (gz G + (v0)), .int (v1)] σ (some (.int r)) σ := by
  refine met_i (by decide +kernel) (Nat.le_of_ble_eq_true rfl) rfl ?_
  intro p e s m args below meth c Q ls X hW hret hl
  have hx := X.1.1
  have hb := X.1.2.1
  have hl : lv_has ls 5 [(0, .ref (gz G + (v0))), (1, .int (v1))] := hl
  have h := hf
  clear hf
  unfold pf_X11_deadSet at h
  refine lv_aload_n hx hb dX11_deadSet_0 rfl (lv_at hl 0 rfl) ?_
  refine lv_iload_n hx hb dX11_deadSet_1 rfl (lv_at hl 1 rfl) ?_
  obtain ⟨r_1, hcl, h⟩ := bind_el h
  refine call_V1 X hW (kC_X11 h0) m_7_120 m_7_122 m_0_89 mv_X11_brokenSet (c_X11_brokenSet h0 hcl) (by decide) rfl rfl (Nat.le_of_ble_eq_true rfl) hl.1 dX11_deadSet_2 ?_
  clear hW hcl; intro H locs hW
  refine lv_aload_n hx hb dX11_deadSet_5 rfl (lv_at hl 0 rfl) ?_
  refine lv_iload_n hx hb dX11_deadSet_6 rfl (lv_at hl 1 rfl) ?_
  obtain ⟨r_2, hcl, h⟩ := bind_el h
  refine call_V1 X hW (kC_X11 h0) m_7_46 m_7_48 m_0_74 mv_X11_doneSet (c_X11_doneSet h0 hcl) (by decide) rfl rfl (Nat.le_of_ble_eq_true rfl) hl.1 dX11_deadSet_7 ?_
  clear hW hcl; intro H locs hW
  refine lv_iconst (v := (-1)) hx hb dX11_deadSet_10 (by decide) ?_
  refine lv_ixor hx hb dX11_deadSet_11 ?_
  refine lv_iand hx hb dX11_deadSet_12 ?_
  refine nm_i h ?_
  clear h; intro v2_3 h
  refine lv_istore_n (lv' := [(2, .int (v2_3)), (0, .ref (gz G + (v0))), (1, .int (v1))]) hx hb dX11_deadSet_13 rfl hl (by decide) rfl ?_
  clear hl; intro ls hl
  refine lv_iconst (v := 1) hx hb dX11_deadSet_14 (by decide) ?_
  refine lv_istore_n (lv' := [(3, .int (1)), (2, .int (v2_3)), (0, .ref (gz G + (v0))), (1, .int (v1))]) hx hb dX11_deadSet_15 rfl hl (by decide) rfl ?_
  clear hl; intro ls hl
  exact bl_X11_deadSet_L16 X hret FU v0 h0 v1 v2_3 1 h _ _ _ hW (lv_sub hl [2, 3, 1, 0] rfl)
set_option maxRecDepth 20000 in
set_option maxHeartbeats 4000000 in
theorem bl_X11_takesUses_L2 (X : Cx G p R s m args c cells slots cX11_takesUses 4 RX11 4) {σ' : St} (hret : R_V G p l e R s m args below meth c cells slots Q cX11_takesUses σ') :
    ∀ (n : Nat), ∀ (v0 : Nat) (h0 : kd v0 = 10) (v1 : Int32) (v2 : Int32) (v3 : Int32) (σ : St) (_ : pf_X11_takesUses_L2 n v0 v1 v2 v3 σ = some σ') (H : Heap) (locs : List Loc) (ls : Array Slot) (_ : GW G σ s H locs) (_ : lv_has ls 4 [(0, .ref (gz G + (v0))), (1, .int (v1)), (2, .int (v2)), (3, .int (v3))]), W p l e R s m args below meth c H locs cells slots Q (F0 m 2 ls []) := by
  have hx := X.1.1
  have hb := X.1.2.1
  intro n
  induction n with
  | zero => intro v0 h0 v1 v2 v3 σ h H locs ls hW hl; cases h
  | succ n ih =>
    intro v0 h0 v1 v2 v3 σ h H locs ls hW hl
    rw [pf_X11_takesUses_L2.eq_2] at h
    refine lv_iload_n hx hb dX11_takesUses_2 rfl (lv_at hl 3 rfl) ?_
    refine lv_bipush (v := 8) hx hb dX11_takesUses_3 (by decide) ?_
    refine lv_icmp_ge (tgt := 39) hx hb dX11_takesUses_5 (by decide) (fun hc => ?_) (fun hc => ?_)
    · replace h := if_t hc h
      exact rv_end hret h dX11_takesUses_39 hW
    · replace h := if_f hc h
      refine lv_aload_n hx hb dX11_takesUses_8 rfl (lv_at hl 0 rfl) ?_
      refine lv_iconst (v := 5) hx hb dX11_takesUses_9 (by decide) ?_
      refine lv_iload_n hx hb dX11_takesUses_10 rfl (lv_at hl 3 rfl) ?_
      refine lv_iadd hx hb dX11_takesUses_11 ?_
      refine lv_aload_n hx hb dX11_takesUses_12 rfl (lv_at hl 0 rfl) ?_
      refine lv_iconst (v := 5) hx hb dX11_takesUses_13 (by decide) ?_
      refine lv_iload_n hx hb dX11_takesUses_14 rfl (lv_at hl 3 rfl) ?_
      refine lv_iadd hx hb dX11_takesUses_15 ?_
      obtain ⟨r_1, hcl, h⟩ := bind_el h
      refine call_V1 X hW (kC_X11 h0) m_7_17 m_7_19 m_0_68 mv_X11_get (c_X11_get h0 hcl) (by decide) rfl rfl (Nat.le_of_ble_eq_true rfl) hl.1 dX11_takesUses_16 ?_
      clear hW hcl; intro H locs hW
      refine lv_aload_n hx hb dX11_takesUses_19 rfl (lv_at hl 0 rfl) ?_
      refine lv_iload_n hx hb dX11_takesUses_20 rfl (lv_at hl 1 rfl) ?_
      refine lv_iload_n hx hb dX11_takesUses_21 rfl (lv_at hl 2 rfl) ?_
      refine lv_bipush (v := 6) hx hb dX11_takesUses_22 (by decide) ?_
      refine lv_iload_n hx hb dX11_takesUses_24 rfl (lv_at hl 3 rfl) ?_
      refine lv_iadd hx hb dX11_takesUses_25 ?_
      obtain ⟨r_2, hcl, h⟩ := bind_el h
      refine call_V1 X hW (kC_X11 h0) m_7_50 m_7_52 m_0_75 mv_X11_ofStep (c_X11_ofStep h0 hcl) (by decide) rfl rfl (Nat.le_of_ble_eq_true rfl) hl.1 dX11_takesUses_26 ?_
      clear hW hcl; intro H locs hW
      refine lv_isub hx hb dX11_takesUses_29 ?_
      obtain ⟨σ_3, hcl, h⟩ := bind_el h
      refine call_V0 X hW (kC_X11 h0) m_7_21 m_7_23 m_0_69 mv_X11_put (c_X11_put h0 hcl) (by decide) rfl rfl (Nat.le_of_ble_eq_true rfl) hl.1 dX11_takesUses_30 ?_
      clear hW hcl; intro H locs hW
      refine w_iinc (v := 1) (lv' := fun y => [(3, .int (y)), (0, .ref (gz G + (v0))), (1, .int (v1)), (2, .int (v2))]) hx hb dX11_takesUses_33 hl (k := 3) rfl (by decide) (by decide) (fun _ => rfl) h ?_
      clear h hl; intro v3_4 h ls hl
      refine lv_goto (tgt := 2) hx hb dX11_takesUses_36 (by decide) ?_
      exact ih v0 h0 v1 v2 v3_4 σ_3 h _ _ _ hW (lv_sub hl [1, 2, 3, 0] rfl)
set_option maxRecDepth 20000 in
set_option maxHeartbeats 4000000 in
theorem c_X11_takesUses {G : Gt} {l : Launch} {v0 : Nat} (h0 : kd v0 = 10) {v1 : Int32} {v2 : Int32} {σ : St} {σ' : St} (hf : pf_X11_takesUses v0 v1 v2 σ = some σ') : Ct G l yX11_takesUses cX11_takesUses 4 none 4 [.ref (gz G + (v0)), .int (v1), .int (v2)] σ none σ' := by
  refine met_v (by decide +kernel) (Nat.le_of_ble_eq_true rfl) rfl ?_
  intro p e s m args below meth c Q ls X hW hret hl
  have hx := X.1.1
  have hb := X.1.2.1
  have hl : lv_has ls 4 [(0, .ref (gz G + (v0))), (1, .int (v1)), (2, .int (v2))] := hl
  have h := hf
  clear hf
  unfold pf_X11_takesUses at h
  refine lv_iconst (v := 0) hx hb dX11_takesUses_0 (by decide) ?_
  refine lv_istore_n (lv' := [(3, .int (0)), (0, .ref (gz G + (v0))), (1, .int (v1)), (2, .int (v2))]) hx hb dX11_takesUses_1 rfl hl (by decide) rfl ?_
  clear hl; intro ls hl
  exact bl_X11_takesUses_L2 X hret FU v0 h0 v1 v2 0 σ h _ _ _ hW (lv_sub hl [1, 2, 3, 0] rfl)
set_option maxRecDepth 20000 in
set_option maxHeartbeats 4000000 in
theorem bl_X11_tries_b59 (X : Cx G p R s m args c cells slots cX11_tries 4 RX11 7) {r : Int32} {σ' : St} (hret : R_I G p l e R s m args below meth c cells slots Q cX11_tries r σ') :
    ∀ (v0 : Nat) (h0 : kd v0 = 10) (v1 : Int32) (v2 : Int32) (σ : St) (_ : pf_X11_tries_b59 v0 v1 v2 σ = some (r, σ')) (H : Heap) (locs : List Loc) (ls : Array Slot) (_ : GW G σ s H locs) (_ : lv_has ls 4 [(0, .ref (gz G + (v0))), (1, .int (v1)), (2, .int (v2))]), W p l e R s m args below meth c H locs cells slots Q (F0 m 59 ls []) := by
  have hx := X.1.1
  have hb := X.1.2.1
  intro v0 h0 v1 v2 σ h H locs ls hW hl
  unfold pf_X11_tries_b59 at h
  refine lv_aload_n hx hb dX11_tries_59 rfl (lv_at hl 0 rfl) ?_
  refine lv_iload_n hx hb dX11_tries_60 rfl (lv_at hl 1 rfl) ?_
  refine lv_iload_n hx hb dX11_tries_61 rfl (lv_at hl 2 rfl) ?_
  refine lv_iconst (v := 3) hx hb dX11_tries_62 (by decide) ?_
  refine lv_iconst (v := 1) hx hb dX11_tries_63 (by decide) ?_
  obtain ⟨σ_1, hcl, h⟩ := bind_el h
  refine call_V0 X hW (kC_X11 h0) m_8_5 m_8_7 m_0_102 mv_X11_putStep (c_X11_putStep h0 hcl) (by decide) rfl rfl (Nat.le_of_ble_eq_true rfl) hl.1 dX11_tries_64 ?_
  clear hW hcl; intro H locs hW
  refine lv_aload_n hx hb dX11_tries_67 rfl (lv_at hl 0 rfl) ?_
  refine lv_iload_n hx hb dX11_tries_68 rfl (lv_at hl 1 rfl) ?_
  refine lv_aload_n hx hb dX11_tries_69 rfl (lv_at hl 0 rfl) ?_
  refine lv_iload_n hx hb dX11_tries_70 rfl (lv_at hl 1 rfl) ?_
  obtain ⟨r_2, hcl, h⟩ := bind_el h
  refine call_V1 X hW (kC_X11 h0) m_7_46 m_7_48 m_0_74 mv_X11_doneSet (c_X11_doneSet h0 hcl) (by decide) rfl rfl (Nat.le_of_ble_eq_true rfl) hl.1 dX11_tries_71 ?_
  clear hW hcl; intro H locs hW
  obtain ⟨r_3, σ_3, hcl, h⟩ := bnd2_el h
  refine call_V1 X hW (kC_X11 h0) m_7_75 m_7_77 m_0_80 mv_X11_holdsBy (c_X11_holdsBy h0 hcl) (by decide) rfl rfl (Nat.le_of_ble_eq_true rfl) hl.1 dX11_tries_74 ?_
  clear hW hcl; intro H locs hW
  refine lv_if_ne (tgt := 82) hx hb dX11_tries_77 (by decide) (fun hc => ?_) (fun hc => ?_)
  · replace h := if_f hc h
    refine lv_aload_n hx hb dX11_tries_82 rfl (lv_at hl 0 rfl) ?_
    refine lv_iload_n hx hb dX11_tries_83 rfl (lv_at hl 1 rfl) ?_
    refine lv_iconst (v := 1) hx hb dX11_tries_84 (by decide) ?_
    refine lv_iconst (v := 1) hx hb dX11_tries_85 (by decide) ?_
    obtain ⟨σ_4, hcl, h⟩ := bind_el h
    refine call_V0 X hW (kC_X11 h0) m_8_9 m_8_11 m_0_103 mv_X11_putQuest (c_X11_putQuest h0 hcl) (by decide) rfl rfl (Nat.le_of_ble_eq_true rfl) hl.1 dX11_tries_86 ?_
    clear hW hcl; intro H locs hW
    refine lv_iconst (v := 5) hx hb dX11_tries_89 (by decide) ?_
    refine lv_aload_n hx hb dX11_tries_90 rfl (lv_at hl 0 rfl) ?_
    refine lv_iload_n hx hb dX11_tries_91 rfl (lv_at hl 1 rfl) ?_
    refine lv_iconst (v := 2) hx hb dX11_tries_92 (by decide) ?_
    obtain ⟨r_5, hcl, h⟩ := bind_el h
    refine call_V1 X hW (kC_X11 h0) m_7_42 m_7_44 m_0_73 mv_X11_ofQuest (c_X11_ofQuest h0 hcl) (by decide) rfl rfl (Nat.le_of_ble_eq_true rfl) hl.1 dX11_tries_93 ?_
    clear hW hcl; intro H locs hW
    refine lv_iadd hx hb dX11_tries_96 ?_
    refine nm_i h ?_
    clear h; intro v3_6 h
    refine lv_istore_n (lv' := [(3, .int (v3_6)), (0, .ref (gz G + (v0))), (1, .int (v1)), (2, .int (v2))]) hx hb dX11_tries_97 rfl hl (by decide) rfl ?_
    clear hl; intro ls hl
    refine lv_aload_n hx hb dX11_tries_98 rfl (lv_at hl 1 rfl) ?_
    refine lv_iload_n hx hb dX11_tries_99 rfl (lv_at hl 0 rfl) ?_
    refine lv_aload_n hx hb dX11_tries_100 rfl (lv_at hl 1 rfl) ?_
    refine lv_iload_n hx hb dX11_tries_101 rfl (lv_at hl 0 rfl) ?_
    obtain ⟨r_7, hcl, h⟩ := bind_el h
    refine call_V1 X hW (kC_X11 h0) m_7_17 m_7_19 m_0_68 mv_X11_get (c_X11_get h0 hcl) (by decide) rfl rfl (Nat.le_of_ble_eq_true rfl) hl.1 dX11_tries_102 ?_
    clear hW hcl; intro H locs hW
    refine lv_aload_n hx hb dX11_tries_105 rfl (lv_at hl 1 rfl) ?_
    refine lv_iload_n hx hb dX11_tries_106 rfl (lv_at hl 2 rfl) ?_
    refine lv_iconst (v := 3) hx hb dX11_tries_107 (by decide) ?_
    obtain ⟨r_8, hcl, h⟩ := bind_el h
    refine call_V1 X hW (kC_X11 h0) m_7_42 m_7_44 m_0_73 mv_X11_ofQuest (c_X11_ofQuest h0 hcl) (by decide) rfl rfl (Nat.le_of_ble_eq_true rfl) hl.1 dX11_tries_108 ?_
    clear hW hcl; intro H locs hW
    refine lv_iadd hx hb dX11_tries_111 ?_
    obtain ⟨σ_9, hcl, h⟩ := bind_el h
    refine call_V0 X hW (kC_X11 h0) m_7_21 m_7_23 m_0_69 mv_X11_put (c_X11_put h0 hcl) (by decide) rfl rfl (Nat.le_of_ble_eq_true rfl) hl.1 dX11_tries_112 ?_
    clear hW hcl; intro H locs hW
    refine lv_iconst (v := 2) hx hb dX11_tries_115 (by decide) ?_
    exact ri_end hret h dX11_tries_116 hW
  · replace h := if_t hc h
    refine lv_iconst (v := 1) hx hb dX11_tries_80 (by decide) ?_
    exact ri_end hret h dX11_tries_81 hW
set_option maxRecDepth 20000 in
set_option maxHeartbeats 4000000 in
theorem bl_X11_tries_L22 (X : Cx G p R s m args c cells slots cX11_tries 4 RX11 7) {r : Int32} {σ' : St} (hret : R_I G p l e R s m args below meth c cells slots Q cX11_tries r σ') {k59 : Nat → Int32 → Int32 → St → (Option (Int32 × St))}
    (hk59 : ∀ (v0 : Nat) (h0 : kd v0 = 10) (v1 : Int32) (v2 : Int32) (σ : St) (_ : k59 v0 v1 v2 σ = some (r, σ')) (H : Heap) (locs : List Loc) (ls : Array Slot) (_ : GW G σ s H locs) (_ : lv_has ls 4 [(0, .ref (gz G + (v0))), (1, .int (v1)), (2, .int (v2))]), W p l e R s m args below meth c H locs cells slots Q (F0 m 59 ls [])) :
    ∀ (n : Nat), ∀ (v0 : Nat) (h0 : kd v0 = 10) (v1 : Int32) (v2 : Int32) (v3 : Int32) (σ : St) (_ : pf_X11_tries_L22 k59 n v0 v1 v2 v3 σ = some (r, σ')) (H : Heap) (locs : List Loc) (ls : Array Slot) (_ : GW G σ s H locs) (_ : lv_has ls 4 [(0, .ref (gz G + (v0))), (1, .int (v1)), (2, .int (v2)), (3, .int (v3))]), W p l e R s m args below meth c H locs cells slots Q (F0 m 22 ls []) := by
  have hx := X.1.1
  have hb := X.1.2.1
  intro n
  induction n with
  | zero => intro v0 h0 v1 v2 v3 σ h H locs ls hW hl; cases h
  | succ n ih =>
    intro v0 h0 v1 v2 v3 σ h H locs ls hW hl
    rw [pf_X11_tries_L22.eq_2] at h
    refine lv_iload_n hx hb dX11_tries_22 rfl (lv_at hl 3 rfl) ?_
    refine lv_bipush (v := 8) hx hb dX11_tries_23 (by decide) ?_
    refine lv_icmp_ge (tgt := 59) hx hb dX11_tries_25 (by decide) (fun hc => ?_) (fun hc => ?_)
    · replace h := if_t hc h
      exact hk59 v0 h0 v1 v2 σ h _ _ _ hW (lv_sub hl [0, 1, 2] rfl)
    · replace h := if_f hc h
      refine lv_aload_n hx hb dX11_tries_28 rfl (lv_at hl 0 rfl) ?_
      refine lv_iconst (v := 5) hx hb dX11_tries_29 (by decide) ?_
      refine lv_iload_n hx hb dX11_tries_30 rfl (lv_at hl 3 rfl) ?_
      refine lv_iadd hx hb dX11_tries_31 ?_
      refine lv_aload_n hx hb dX11_tries_32 rfl (lv_at hl 0 rfl) ?_
      refine lv_iconst (v := 5) hx hb dX11_tries_33 (by decide) ?_
      refine lv_iload_n hx hb dX11_tries_34 rfl (lv_at hl 3 rfl) ?_
      refine lv_iadd hx hb dX11_tries_35 ?_
      obtain ⟨r_1, hcl, h⟩ := bind_el h
      refine call_V1 X hW (kC_X11 h0) m_7_17 m_7_19 m_0_68 mv_X11_get (c_X11_get h0 hcl) (by decide) rfl rfl (Nat.le_of_ble_eq_true rfl) hl.1 dX11_tries_36 ?_
      clear hW hcl; intro H locs hW
      refine lv_aload_n hx hb dX11_tries_39 rfl (lv_at hl 0 rfl) ?_
      refine lv_iload_n hx hb dX11_tries_40 rfl (lv_at hl 1 rfl) ?_
      refine lv_iload_n hx hb dX11_tries_41 rfl (lv_at hl 2 rfl) ?_
      refine lv_bipush (v := 22) hx hb dX11_tries_42 (by decide) ?_
      refine lv_iload_n hx hb dX11_tries_44 rfl (lv_at hl 3 rfl) ?_
      refine lv_iadd hx hb dX11_tries_45 ?_
      obtain ⟨r_2, hcl, h⟩ := bind_el h
      refine call_V1 X hW (kC_X11 h0) m_7_50 m_7_52 m_0_75 mv_X11_ofStep (c_X11_ofStep h0 hcl) (by decide) rfl rfl (Nat.le_of_ble_eq_true rfl) hl.1 dX11_tries_46 ?_
      clear hW hcl; intro H locs hW
      refine lv_iadd hx hb dX11_tries_49 ?_
      obtain ⟨σ_3, hcl, h⟩ := bind_el h
      refine call_V0 X hW (kC_X11 h0) m_7_21 m_7_23 m_0_69 mv_X11_put (c_X11_put h0 hcl) (by decide) rfl rfl (Nat.le_of_ble_eq_true rfl) hl.1 dX11_tries_50 ?_
      clear hW hcl; intro H locs hW
      refine w_iinc (v := 1) (lv' := fun y => [(3, .int (y)), (0, .ref (gz G + (v0))), (1, .int (v1)), (2, .int (v2))]) hx hb dX11_tries_53 hl (k := 3) rfl (by decide) (by decide) (fun _ => rfl) h ?_
      clear h hl; intro v3_4 h ls hl
      refine lv_goto (tgt := 22) hx hb dX11_tries_56 (by decide) ?_
      exact ih v0 h0 v1 v2 v3_4 σ_3 h _ _ _ hW (lv_sub hl [1, 2, 3, 0] rfl)
set_option maxRecDepth 20000 in
set_option maxHeartbeats 4000000 in
theorem bl_X11_tries_b150 (X : Cx G p R s m args c cells slots cX11_tries 4 RX11 7) {r : Int32} {σ' : St} (hret : R_I G p l e R s m args below meth c cells slots Q cX11_tries r σ') :
    ∀ (v0 : Nat) (h0 : kd v0 = 10) (v1 : Int32) (σ : St) (_ : pf_X11_tries_b150 v0 v1 σ = some (r, σ')) (H : Heap) (locs : List Loc) (ls : Array Slot) (_ : GW G σ s H locs) (_ : lv_has ls 4 [(0, .ref (gz G + (v0))), (1, .int (v1))]), W p l e R s m args below meth c H locs cells slots Q (F0 m 150 ls []) := by
  have hx := X.1.1
  have hb := X.1.2.1
  intro v0 h0 v1 σ h H locs ls hW hl
  unfold pf_X11_tries_b150 at h
  refine lv_aload_n hx hb dX11_tries_150 rfl (lv_at hl 0 rfl) ?_
  refine lv_iload_n hx hb dX11_tries_151 rfl (lv_at hl 1 rfl) ?_
  refine lv_iconst (v := 1) hx hb dX11_tries_152 (by decide) ?_
  refine lv_aload_n hx hb dX11_tries_153 rfl (lv_at hl 0 rfl) ?_
  refine lv_iload_n hx hb dX11_tries_154 rfl (lv_at hl 1 rfl) ?_
  obtain ⟨r_1, hcl, h⟩ := bind_el h
  refine call_V1 X hW (kC_X11 h0) m_7_38 m_7_40 m_0_72 mv_X11_stepsOf (c_X11_stepsOf h0 hcl) (by decide) rfl rfl (Nat.le_of_ble_eq_true rfl) hl.1 dX11_tries_155 ?_
  clear hW hcl; intro H locs hW
  refine w_ishl hx hb dX11_tries_158 ?_
  refine lv_iconst (v := 1) hx hb dX11_tries_159 (by decide) ?_
  refine lv_isub hx hb dX11_tries_160 ?_
  refine lv_aload_n hx hb dX11_tries_161 rfl (lv_at hl 0 rfl) ?_
  refine lv_iload_n hx hb dX11_tries_162 rfl (lv_at hl 1 rfl) ?_
  obtain ⟨r_2, hcl, h⟩ := bind_el h
  refine call_V1 X hW (kC_X11 h0) m_8_13 m_8_15 m_0_104 mv_X11_deadSet (c_X11_deadSet h0 hcl) (by decide) rfl rfl (Nat.le_of_ble_eq_true rfl) hl.1 dX11_tries_163 ?_
  clear hW hcl; intro H locs hW
  refine lv_iconst (v := (-1)) hx hb dX11_tries_166 (by decide) ?_
  refine lv_ixor hx hb dX11_tries_167 ?_
  refine lv_iand hx hb dX11_tries_168 ?_
  obtain ⟨r_3, σ_3, hcl, h⟩ := bnd2_el h
  refine call_V1 X hW (kC_X11 h0) m_7_75 m_7_77 m_0_80 mv_X11_holdsBy (c_X11_holdsBy h0 hcl) (by decide) rfl rfl (Nat.le_of_ble_eq_true rfl) hl.1 dX11_tries_169 ?_
  clear hW hcl; intro H locs hW
  refine lv_if_eq (tgt := 177) hx hb dX11_tries_172 (by decide) (fun hc => ?_) (fun hc => ?_)
  · replace h := if_t hc h
    refine lv_aload_n hx hb dX11_tries_177 rfl (lv_at hl 0 rfl) ?_
    refine lv_iload_n hx hb dX11_tries_178 rfl (lv_at hl 1 rfl) ?_
    refine lv_iconst (v := 1) hx hb dX11_tries_179 (by decide) ?_
    refine lv_iconst (v := 2) hx hb dX11_tries_180 (by decide) ?_
    obtain ⟨σ_4, hcl, h⟩ := bind_el h
    refine call_V0 X hW (kC_X11 h0) m_8_9 m_8_11 m_0_103 mv_X11_putQuest (c_X11_putQuest h0 hcl) (by decide) rfl rfl (Nat.le_of_ble_eq_true rfl) hl.1 dX11_tries_181 ?_
    clear hW hcl; intro H locs hW
    refine lv_iconst (v := 3) hx hb dX11_tries_184 (by decide) ?_
    exact ri_end hret h dX11_tries_185 hW
  · replace h := if_f hc h
    refine lv_iconst (v := 0) hx hb dX11_tries_175 (by decide) ?_
    exact ri_end hret h dX11_tries_176 hW
set_option maxRecDepth 20000 in
set_option maxHeartbeats 4000000 in
theorem c_X11_tries {G : Gt} {l : Launch} {v0 : Nat} (h0 : kd v0 = 10) {v1 : Int32} {v2 : Int32} {σ : St} {r : Int32} {σ' : St} (hf : pf_X11_tries v0 v1 v2 σ = some (r, σ')) : Ct G l yX11_tries cX11_tries 4 (some .int) 7 [.ref (gz G + (v0)), .int (v1), .int (v2)] σ (some (.int r)) σ' := by
  refine met_i (by decide +kernel) (Nat.le_of_ble_eq_true rfl) rfl ?_
  intro p e s m args below meth c Q ls X hW hret hl
  have hx := X.1.1
  have hb := X.1.2.1
  have hl : lv_has ls 4 [(0, .ref (gz G + (v0))), (1, .int (v1)), (2, .int (v2))] := hl
  have h := hf
  clear hf
  unfold pf_X11_tries at h
  refine lv_aload_n hx hb dX11_tries_0 rfl (lv_at hl 0 rfl) ?_
  obtain ⟨r_1, σ_1, hcl, h⟩ := bnd2_el h
  refine call_V1 X hW (kC_X11 h0) m_7_236 m_7_238 m_0_100 mv_X11_drawn (c_X11_drawn h0 hcl) (by decide) rfl rfl (Nat.le_of_ble_eq_true rfl) hl.1 dX11_tries_1 ?_
  clear hW hcl; intro H locs hW
  refine lv_aload_n hx hb dX11_tries_4 rfl (lv_at hl 0 rfl) ?_
  refine lv_iload_n hx hb dX11_tries_5 rfl (lv_at hl 1 rfl) ?_
  refine lv_iload_n hx hb dX11_tries_6 rfl (lv_at hl 2 rfl) ?_
  refine lv_iconst (v := 0) hx hb dX11_tries_7 (by decide) ?_
  obtain ⟨r_2, hcl, h⟩ := bind_el h
  refine call_V1 X hW (kC_X11 h0) m_7_50 m_7_52 m_0_75 mv_X11_ofStep (c_X11_ofStep h0 hcl) (by decide) rfl rfl (Nat.le_of_ble_eq_true rfl) hl.1 dX11_tries_8 ?_
  clear hW hcl; intro H locs hW
  refine lv_icmp_lt (tgt := 117) hx hb dX11_tries_11 (by decide) (fun hc => ?_) (fun hc => ?_)
  · replace h := if_t hc h
    refine lv_aload_n hx hb dX11_tries_117 rfl (lv_at hl 0 rfl) ?_
    refine lv_iload_n hx hb dX11_tries_118 rfl (lv_at hl 1 rfl) ?_
    refine lv_iload_n hx hb dX11_tries_119 rfl (lv_at hl 2 rfl) ?_
    refine lv_iconst (v := 2) hx hb dX11_tries_120 (by decide) ?_
    refine lv_aload_n hx hb dX11_tries_121 rfl (lv_at hl 0 rfl) ?_
    refine lv_iload_n hx hb dX11_tries_122 rfl (lv_at hl 1 rfl) ?_
    refine lv_iload_n hx hb dX11_tries_123 rfl (lv_at hl 2 rfl) ?_
    refine lv_iconst (v := 2) hx hb dX11_tries_124 (by decide) ?_
    obtain ⟨r_3, hcl, h⟩ := bind_el h
    refine call_V1 X hW (kC_X11 h0) m_7_50 m_7_52 m_0_75 mv_X11_ofStep (c_X11_ofStep h0 hcl) (by decide) rfl rfl (Nat.le_of_ble_eq_true rfl) hl.1 dX11_tries_125 ?_
    clear hW hcl; intro H locs hW
    refine lv_iconst (v := 1) hx hb dX11_tries_128 (by decide) ?_
    refine lv_iadd hx hb dX11_tries_129 ?_
    obtain ⟨σ_4, hcl, h⟩ := bind_el h
    refine call_V0 X hW (kC_X11 h0) m_8_5 m_8_7 m_0_102 mv_X11_putStep (c_X11_putStep h0 hcl) (by decide) rfl rfl (Nat.le_of_ble_eq_true rfl) hl.1 dX11_tries_130 ?_
    clear hW hcl; intro H locs hW
    refine lv_aload_n hx hb dX11_tries_133 rfl (lv_at hl 0 rfl) ?_
    refine lv_iload_n hx hb dX11_tries_134 rfl (lv_at hl 1 rfl) ?_
    refine lv_iload_n hx hb dX11_tries_135 rfl (lv_at hl 2 rfl) ?_
    refine lv_iconst (v := 5) hx hb dX11_tries_136 (by decide) ?_
    obtain ⟨r_5, hcl, h⟩ := bind_el h
    refine call_V1 X hW (kC_X11 h0) m_7_50 m_7_52 m_0_75 mv_X11_ofStep (c_X11_ofStep h0 hcl) (by decide) rfl rfl (Nat.le_of_ble_eq_true rfl) hl.1 dX11_tries_137 ?_
    clear hW hcl; intro H locs hW
    refine lv_iconst (v := 1) hx hb dX11_tries_140 (by decide) ?_
    refine lv_icmp_ne (tgt := 150) hx hb dX11_tries_141 (by decide) (fun hc => ?_) (fun hc => ?_)
    · replace h := if_f hc h
      exact bl_X11_tries_b150 X hret v0 h0 v1 σ_4 h _ _ _ hW (lv_sub hl [0, 1] rfl)
    · replace h := if_t hc h
      refine lv_aload_n hx hb dX11_tries_144 rfl (lv_at hl 0 rfl) ?_
      refine lv_iload_n hx hb dX11_tries_145 rfl (lv_at hl 1 rfl) ?_
      refine lv_iload_n hx hb dX11_tries_146 rfl (lv_at hl 2 rfl) ?_
      obtain ⟨σ_6, hcl, h⟩ := bind_el h
      refine call_V0 X hW (kC_X11 h0) m_8_1 m_8_3 m_0_101 mv_X11_takesUses (c_X11_takesUses h0 hcl) (by decide) rfl rfl (Nat.le_of_ble_eq_true rfl) hl.1 dX11_tries_147 ?_
      clear hW hcl; intro H locs hW
      exact bl_X11_tries_b150 X hret v0 h0 v1 σ_6 h _ _ _ hW (lv_sub hl [0, 1] rfl)
  · replace h := if_f hc h
    refine lv_aload_n hx hb dX11_tries_14 rfl (lv_at hl 0 rfl) ?_
    refine lv_iload_n hx hb dX11_tries_15 rfl (lv_at hl 1 rfl) ?_
    refine lv_iload_n hx hb dX11_tries_16 rfl (lv_at hl 2 rfl) ?_
    obtain ⟨σ_7, hcl, h⟩ := bind_el h
    refine call_V0 X hW (kC_X11 h0) m_8_1 m_8_3 m_0_101 mv_X11_takesUses (c_X11_takesUses h0 hcl) (by decide) rfl rfl (Nat.le_of_ble_eq_true rfl) hl.1 dX11_tries_17 ?_
    clear hW hcl; intro H locs hW
    refine lv_iconst (v := 0) hx hb dX11_tries_20 (by decide) ?_
    refine lv_istore_n (lv' := [(3, .int (0)), (0, .ref (gz G + (v0))), (1, .int (v1)), (2, .int (v2))]) hx hb dX11_tries_21 rfl hl (by decide) rfl ?_
    clear hl; intro ls hl
    exact bl_X11_tries_L22 X hret (bl_X11_tries_b59 X hret) FU v0 h0 v1 v2 0 σ_7 h _ _ _ hW (lv_sub hl [1, 2, 3, 0] rfl)
end
