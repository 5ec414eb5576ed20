section
variable {G : Gt} {p : Program} {l : Launch} {e : Env} {R : Room} {s : State} {m : MethodId} {args : Array Value} {below : List Frame} {meth : Method} {c : Code} {cells slots : Nat} {Q : State → Prop}
set_option maxRecDepth 20000 in
set_option maxHeartbeats 4000000 in
theorem c_X11_can {G : Gt} {l : Launch} {v0 : Nat} (h0 : kd v0 = 10) {v1 : Int32} {v2 : Int32} {v3 : Int32} {v4 : Int32} {σ : St} {r : Int32} (hf : pf_X11_can v0 v1 v2 v3 v4 σ = some r) : Ct G l yX11_can cX11_can 5 (some .boolean) 7 [.ref (gz G + (v0)), .int (v1), .int (v2), .int (v3), .int (v4)] σ (some (.int r)) σ := by
  refine met_z (by decide +kernel) (Nat.le_of_ble_eq_true rfl) rfl ?_
  intro p e s m args below meth c Q ls X hW hret hl
  have hx := X.1.1
  have hb := X.1.2.1
  have hl : lv_has ls 5 [(0, .ref (gz G + (v0))), (1, .int (v1)), (2, .int (v2)), (3, .int (v3)), (4, .int (v4))] := hl
  have h := hf
  clear hf
  unfold pf_X11_can at h
  refine lv_iload_n hx hb dX11_can_0 rfl (lv_at hl 3 rfl) ?_
  refine lv_iload_n hx hb dX11_can_1 rfl (lv_at hl 2 rfl) ?_
  refine w_ishr hx hb dX11_can_2 ?_
  refine lv_iconst (v := 1) hx hb dX11_can_3 (by decide) ?_
  refine lv_iand hx hb dX11_can_4 ?_
  refine lv_if_ne (tgt := 50) hx hb dX11_can_5 (by decide) (fun hc => ?_) (fun hc => ?_)
  · replace h := if_f hc h
    refine lv_iconst (v := 0) hx hb dX11_can_50 (by decide) ?_
    exact rz_end0 hret h (by decide) dX11_can_51 hW
  · replace h := if_t hc h
    refine lv_aload_n hx hb dX11_can_8 rfl (lv_at hl 0 rfl) ?_
    refine lv_iload_n hx hb dX11_can_9 rfl (lv_at hl 1 rfl) ?_
    refine lv_iload_n hx hb dX11_can_10 rfl (lv_at hl 2 rfl) ?_
    obtain ⟨r_1, hcl, h⟩ := bind_el h
    refine call_V1 X hW (kC_X11 h0) m_7_83 m_7_85 m_0_82 mv_X11_isBroken (c_X11_isBroken h0 hcl) (by decide) rfl rfl (Nat.le_of_ble_eq_true rfl) hl.1 dX11_can_11 ?_
    clear hW hcl; intro H locs hW
    refine lv_if_ne (tgt := 50) hx hb dX11_can_14 (by decide) (fun hc => ?_) (fun hc => ?_)
    · replace h := if_f hc h
      refine lv_iconst (v := 0) hx hb dX11_can_50 (by decide) ?_
      exact rz_end0 hret h (by decide) dX11_can_51 hW
    · replace h := if_t hc h
      refine lv_aload_n hx hb dX11_can_17 rfl (lv_at hl 0 rfl) ?_
      refine lv_iload_n hx hb dX11_can_18 rfl (lv_at hl 1 rfl) ?_
      refine lv_iload_n hx hb dX11_can_19 rfl (lv_at hl 2 rfl) ?_
      refine lv_iconst (v := 4) hx hb dX11_can_20 (by decide) ?_
      obtain ⟨r_2, hcl, h⟩ := bind_el h
      refine call_V1 X hW (kC_X11 h0) m_7_50 m_7_52 m_0_75 mv_X11_ofStep (c_X11_ofStep h0 hcl) (by decide) rfl rfl (Nat.le_of_ble_eq_true rfl) hl.1 dX11_can_21 ?_
      clear hW hcl; intro H locs hW
      refine lv_iload_n hx hb dX11_can_24 rfl (lv_at hl 3 rfl) ?_
      refine lv_iconst (v := (-1)) hx hb dX11_can_25 (by decide) ?_
      refine lv_ixor hx hb dX11_can_26 ?_
      refine lv_iand hx hb dX11_can_27 ?_
      refine lv_if_ne (tgt := 50) hx hb dX11_can_28 (by decide) (fun hc => ?_) (fun hc => ?_)
      · replace h := if_f hc h
        refine lv_iconst (v := 0) hx hb dX11_can_50 (by decide) ?_
        exact rz_end0 hret h (by decide) dX11_can_51 hW
      · replace h := if_t hc h
        refine lv_aload_n hx hb dX11_can_31 rfl (lv_at hl 0 rfl) ?_
        refine lv_iload_n hx hb dX11_can_32 rfl (lv_at hl 1 rfl) ?_
        refine lv_iload_n hx hb dX11_can_33 rfl (lv_at hl 2 rfl) ?_
        refine lv_iload_n hx hb dX11_can_34 rfl (lv_at hl 3 rfl) ?_
        refine lv_iload hx hb dX11_can_35 (lv_at hl 4 rfl) ?_
        refine lv_iconst (v := (-1)) hx hb dX11_can_37 (by decide) ?_
        refine lv_ixor hx hb dX11_can_38 ?_
        refine lv_iand hx hb dX11_can_39 ?_
        obtain ⟨r_3, hcl, h⟩ := bind_el h
        refine call_V1 X hW (kC_X11 h0) m_7_87 m_7_89 m_0_83 mv_X11_hasItems (c_X11_hasItems h0 hcl) (by decide) rfl rfl (Nat.le_of_ble_eq_true rfl) hl.1 dX11_can_40 ?_
        clear hW hcl; intro H locs hW
        refine lv_if_eq (tgt := 50) hx hb dX11_can_43 (by decide) (fun hc => ?_) (fun hc => ?_)
        · replace h := if_t hc h
          refine lv_iconst (v := 0) hx hb dX11_can_50 (by decide) ?_
          exact rz_end0 hret h (by decide) dX11_can_51 hW
        · replace h := if_f hc h
          refine lv_iconst (v := 1) hx hb dX11_can_46 (by decide) ?_
          refine lv_goto (tgt := 51) hx hb dX11_can_47 (by decide) ?_
          exact rz_end0 hret h (by decide) dX11_can_51 hW
set_option maxRecDepth 20000 in
set_option maxHeartbeats 4000000 in
theorem c_X11_isQuestOpen {G : Gt} {l : Launch} {v0 : Nat} (h0 : kd v0 = 10) {v1 : Int32} {σ : St} {r : Int32} (hf : pf_X11_isQuestOpen v0 v1 σ = some r) : Ct G l yX11_isQuestOpen cX11_isQuestOpen 2 (some .boolean) 4 [.ref (gz G + (v0)), .int (v1)] σ (some (.int r)) σ := by
  refine met_z (by decide +kernel) (Nat.le_of_ble_eq_true rfl) rfl ?_
  intro p e s m args below meth c Q ls X hW hret hl
  have hx := X.1.1
  have hb := X.1.2.1
  have hl : lv_has ls 2 [(0, .ref (gz G + (v0))), (1, .int (v1))] := hl
  have h := hf
  clear hf
  unfold pf_X11_isQuestOpen at h
  refine lv_aload_n hx hb dX11_isQuestOpen_0 rfl (lv_at hl 0 rfl) ?_
  refine lv_iload_n hx hb dX11_isQuestOpen_1 rfl (lv_at hl 1 rfl) ?_
  refine lv_iconst (v := 1) hx hb dX11_isQuestOpen_2 (by decide) ?_
  obtain ⟨r_1, hcl, h⟩ := bind_el h
  refine call_V1 X hW (kC_X11 h0) m_7_42 m_7_44 m_0_73 mv_X11_ofQuest (c_X11_ofQuest h0 hcl) (by decide) rfl rfl (Nat.le_of_ble_eq_true rfl) hl.1 dX11_isQuestOpen_3 ?_
  clear hW hcl; intro H locs hW
  refine lv_if_ne (tgt := 13) hx hb dX11_isQuestOpen_6 (by decide) (fun hc => ?_) (fun hc => ?_)
  · replace h := if_f hc h
    refine lv_iconst (v := 0) hx hb dX11_isQuestOpen_13 (by decide) ?_
    exact rz_end0 hret h (by decide) dX11_isQuestOpen_14 hW
  · replace h := if_t hc h
    refine lv_iconst (v := 1) hx hb dX11_isQuestOpen_9 (by decide) ?_
    refine lv_goto (tgt := 14) hx hb dX11_isQuestOpen_10 (by decide) ?_
    exact rz_end0 hret h (by decide) dX11_isQuestOpen_14 hW
set_option maxRecDepth 20000 in
set_option maxHeartbeats 4000000 in
theorem bl_X11_ways_b193 (X : Cx G p R s m args c cells slots cX11_ways 5 RX11 8) {r : Int32} {σ' : St} (hret : R_Z G p l e R s m args below meth c cells slots Q cX11_ways r σ') {k86 : Nat → Int32 → Int32 → Int32 → St → (Option (Int32 × St))}
    (hk86 : ∀ (v0 : Nat) (h0 : kd v0 = 10) (v1 : Int32) (v3 : Int32) (v4 : Int32) (σ : St) (_ : k86 v0 v1 v3 v4 σ = some (r, σ')) (H : Heap) (locs : List Loc) (ls : Array Slot) (_ : GW G σ s H locs) (_ : lv_has ls 5 [(0, .ref (gz G + (v0))), (1, .int (v1)), (3, .int (v3)), (4, .int (v4))]), W p l e R s m args below meth c H locs cells slots Q (F0 m 86 ls [])) :
    ∀ (v0 : Nat) (h0 : kd v0 = 10) (v1 : Int32) (v3 : Int32) (v4 : Int32) (σ : St) (_ : pf_X11_ways_b193 k86 v0 v1 v3 v4 σ = some (r, σ')) (H : Heap) (locs : List Loc) (ls : Array Slot) (_ : GW G σ s H locs) (_ : lv_has ls 5 [(0, .ref (gz G + (v0))), (1, .int (v1)), (3, .int (v3)), (4, .int (v4))]), W p l e R s m args below meth c H locs cells slots Q (F0 m 193 ls []) := by
  have hx := X.1.1
  have hb := X.1.2.1
  intro v0 h0 v1 v3 v4 σ h H locs ls hW hl
  unfold pf_X11_ways_b193 at h
  refine w_iinc (v := 1) (lv' := fun y => [(4, .int (y)), (0, .ref (gz G + (v0))), (1, .int (v1)), (3, .int (v3))]) hx hb dX11_ways_193 hl (k := 3) rfl (by decide) (by decide) (fun _ => rfl) h ?_
  clear h hl; intro v4_1 h ls hl
  refine lv_goto (tgt := 86) hx hb dX11_ways_196 (by decide) ?_
  exact hk86 v0 h0 v1 v3 v4_1 σ h _ _ _ hW (lv_sub hl [1, 2, 3, 0] rfl)
set_option maxRecDepth 20000 in
set_option maxHeartbeats 4000000 in
theorem bl_X11_ways_b199 (X : Cx G p R s m args c cells slots cX11_ways 5 RX11 8) {r : Int32} {σ' : St} (hret : R_Z G p l e R s m args below meth c cells slots Q cX11_ways r σ') {k21 : Nat → Int32 → Int32 → St → (Option (Int32 × St))}
    (hk21 : ∀ (v0 : Nat) (h0 : kd v0 = 10) (v1 : Int32) (v3 : Int32) (σ : St) (_ : k21 v0 v1 v3 σ = some (r, σ')) (H : Heap) (locs : List Loc) (ls : Array Slot) (_ : GW G σ s H locs) (_ : lv_has ls 5 [(0, .ref (gz G + (v0))), (1, .int (v1)), (3, .int (v3))]), W p l e R s m args below meth c H locs cells slots Q (F0 m 21 ls [])) :
    ∀ (v0 : Nat) (h0 : kd v0 = 10) (v1 : Int32) (v3 : Int32) (σ : St) (_ : pf_X11_ways_b199 k21 v0 v1 v3 σ = some (r, σ')) (H : Heap) (locs : List Loc) (ls : Array Slot) (_ : GW G σ s H locs) (_ : lv_has ls 5 [(0, .ref (gz G + (v0))), (1, .int (v1)), (3, .int (v3))]), W p l e R s m args below meth c H locs cells slots Q (F0 m 199 ls []) := by
  have hx := X.1.1
  have hb := X.1.2.1
  intro v0 h0 v1 v3 σ h H locs ls hW hl
  unfold pf_X11_ways_b199 at h
  refine w_iinc (v := (-1)) (lv' := fun y => [(3, .int (y)), (0, .ref (gz G + (v0))), (1, .int (v1))]) hx hb dX11_ways_199 hl (k := 2) rfl (by decide) (by decide) (fun _ => rfl) h ?_
  clear h hl; intro v3_1 h ls hl
  refine lv_goto (tgt := 21) hx hb dX11_ways_202 (by decide) ?_
  exact hk21 v0 h0 v1 v3_1 σ h _ _ _ hW (lv_sub hl [1, 2, 0] rfl)
set_option maxRecDepth 20000 in
set_option maxHeartbeats 4000000 in
theorem bl_X11_ways_L86 (X : Cx G p R s m args c cells slots cX11_ways 5 RX11 8) {r : Int32} {σ' : St} (hret : R_Z G p l e R s m args below meth c cells slots Q cX11_ways r σ') {k199 : Nat → Int32 → Int32 → St → (Option (Int32 × St))}
    (hk199 : ∀ (v0 : Nat) (h0 : kd v0 = 10) (v1 : Int32) (v3 : Int32) (σ : St) (_ : k199 v0 v1 v3 σ = some (r, σ')) (H : Heap) (locs : List Loc) (ls : Array Slot) (_ : GW G σ s H locs) (_ : lv_has ls 5 [(0, .ref (gz G + (v0))), (1, .int (v1)), (3, .int (v3))]), W p l e R s m args below meth c H locs cells slots Q (F0 m 199 ls [])) :
    ∀ (n : Nat), ∀ (v0 : Nat) (h0 : kd v0 = 10) (v1 : Int32) (v3 : Int32) (v4 : Int32) (σ : St) (_ : pf_X11_ways_L86 k199 n v0 v1 v3 v4 σ = some (r, σ')) (H : Heap) (locs : List Loc) (ls : Array Slot) (_ : GW G σ s H locs) (_ : lv_has ls 5 [(0, .ref (gz G + (v0))), (1, .int (v1)), (3, .int (v3)), (4, .int (v4))]), W p l e R s m args below meth c H locs cells slots Q (F0 m 86 ls []) := by
  have hx := X.1.1
  have hb := X.1.2.1
  intro n
  induction n with
  | zero => intro v0 h0 v1 v3 v4 σ h H locs ls hW hl; cases h
  | succ n ih =>
    intro v0 h0 v1 v3 v4 σ h H locs ls hW hl
    rw [pf_X11_ways_L86.eq_2] at h
    refine lv_iload hx hb dX11_ways_86 (lv_at hl 3 rfl) ?_
    refine lv_aload_n hx hb dX11_ways_88 rfl (lv_at hl 0 rfl) ?_
    refine lv_iload_n hx hb dX11_ways_89 rfl (lv_at hl 1 rfl) ?_
    obtain ⟨r_1, hcl, h⟩ := bind_el h
    refine call_V1 X hW (kC_X11 h0) m_7_38 m_7_40 m_0_72 mv_X11_stepsOf (c_X11_stepsOf h0 hcl) (by decide) rfl rfl (Nat.le_of_ble_eq_true rfl) hl.1 dX11_ways_90 ?_
    clear hW hcl; intro H locs hW
    refine lv_icmp_ge (tgt := 199) hx hb dX11_ways_93 (by decide) (fun hc => ?_) (fun hc => ?_)
    · replace h := if_t hc h
      exact hk199 v0 h0 v1 v3 σ h _ _ _ hW (lv_sub hl [0, 1, 2] rfl)
    · replace h := if_f hc h
      refine lv_aload_n hx hb dX11_ways_96 rfl (lv_at hl 0 rfl) ?_
      refine lv_iload_n hx hb dX11_ways_97 rfl (lv_at hl 1 rfl) ?_
      refine lv_iload hx hb dX11_ways_98 (lv_at hl 3 rfl) ?_
      refine lv_iload_n hx hb dX11_ways_100 rfl (lv_at hl 2 rfl) ?_
      refine lv_aload_n hx hb dX11_ways_101 rfl (lv_at hl 0 rfl) ?_
      refine gf_X11_begun X hW h0 m_6_15 dX11_ways_102 ?_
      obtain ⟨r_2, hcl, h⟩ := bind_el h
      refine call_V1 X hW (kC_X11 h0) m_7_79 m_7_81 m_0_81 mv_X11_can (c_X11_can h0 hcl) (by decide) rfl rfl (Nat.le_of_ble_eq_true rfl) hl.1 dX11_ways_105 ?_
      clear hW hcl; intro H locs hW
      refine lv_if_eq (tgt := 193) hx hb dX11_ways_108 (by decide) (fun hc => ?_) (fun hc => ?_)
      · replace h := if_t hc h
        exact bl_X11_ways_b193 X hret ih v0 h0 v1 v3 v4 σ h _ _ _ hW (lv_sub hl [0, 1, 2, 3] rfl)
      · replace h := if_f hc h
        refine lv_aload_n hx hb dX11_ways_111 rfl (lv_at hl 0 rfl) ?_
        refine gf_X11_fewest X hW h0 m_6_13 dX11_ways_112 ?_
        refine lv_iload_n hx hb dX11_ways_115 rfl (lv_at hl 2 rfl) ?_
        refine lv_iconst (v := 1) hx hb dX11_ways_116 (by decide) ?_
        refine lv_iload hx hb dX11_ways_117 (lv_at hl 3 rfl) ?_
        refine w_ishl hx hb dX11_ways_119 ?_
        refine lv_ior hx hb dX11_ways_120 ?_
        obtain ⟨hi3, h⟩ := ckI_el h
        refine r_iald X hW (kf_X11_fewest h0) hi3 dX11_ways_121 ?_
        refine lv_ldc (v := 1000000) hx hb X.1.2.2.2.1 (X.1.2.2.2.2 _ m_7_74) dX11_ways_122 ?_
        refine lv_icmp_ne (tgt := 130) hx hb dX11_ways_124 (by decide) (fun hc => ?_) (fun hc => ?_)
        · replace h := if_f hc h
          refine lv_aload_n hx hb dX11_ways_130 rfl (lv_at hl 0 rfl) ?_
          refine gf_X11_fewest X hW h0 m_6_13 dX11_ways_131 ?_
          refine lv_iload_n hx hb dX11_ways_134 rfl (lv_at hl 2 rfl) ?_
          refine lv_aload_n hx hb dX11_ways_135 rfl (lv_at hl 0 rfl) ?_
          refine gf_X11_fewest X hW h0 m_6_13 dX11_ways_136 ?_
          refine lv_iload_n hx hb dX11_ways_139 rfl (lv_at hl 2 rfl) ?_
          obtain ⟨hi4, h⟩ := ckI_el h
          refine r_iald X hW (kf_X11_fewest h0) hi4 dX11_ways_140 ?_
          refine lv_aload_n hx hb dX11_ways_141 rfl (lv_at hl 0 rfl) ?_
          refine gf_X11_fewest X hW h0 m_6_13 dX11_ways_142 ?_
          refine lv_iload_n hx hb dX11_ways_145 rfl (lv_at hl 2 rfl) ?_
          refine lv_iconst (v := 1) hx hb dX11_ways_146 (by decide) ?_
          refine lv_iload hx hb dX11_ways_147 (lv_at hl 3 rfl) ?_
          refine w_ishl hx hb dX11_ways_149 ?_
          refine lv_ior hx hb dX11_ways_150 ?_
          obtain ⟨hi5, h⟩ := ckI_el h
          refine r_iald X hW (kf_X11_fewest h0) hi5 dX11_ways_151 ?_
          refine lv_iconst (v := 1) hx hb dX11_ways_152 (by decide) ?_
          refine lv_iadd hx hb dX11_ways_153 ?_
          obtain ⟨r_6, hcl, h⟩ := bind_el h
          refine call_S1 X hW m_7_95 m_2_172 mv_J9_min_7cf53 (c_J9_min_7cf53 hcl) (by decide) rfl rfl (Nat.le_of_ble_eq_true rfl) hl.1 dX11_ways_154 ?_
          clear hW hcl; intro H locs hW
          obtain ⟨hi7, h⟩ := ckI_el h
          refine r_iast X hW (kf_X11_fewest h0) hi7 dX11_ways_157 ?_
          clear hW; intro H locs hW
          refine nm_s hW h ?_
          clear hW h; intro σ_8 hW h
          refine lv_aload_n hx hb dX11_ways_158 rfl (lv_at hl 0 rfl) ?_
          refine gf_X11_safestBy X hW h0 m_6_14 dX11_ways_159 ?_
          refine lv_iload_n hx hb dX11_ways_162 rfl (lv_at hl 2 rfl) ?_
          refine lv_aload_n hx hb dX11_ways_163 rfl (lv_at hl 0 rfl) ?_
          refine gf_X11_safestBy X hW h0 m_6_14 dX11_ways_164 ?_
          refine lv_iload_n hx hb dX11_ways_167 rfl (lv_at hl 2 rfl) ?_
          obtain ⟨hi9, h⟩ := ckI_el h
          refine r_iald X hW (kf_X11_safestBy h0) hi9 dX11_ways_168 ?_
          refine lv_aload_n hx hb dX11_ways_169 rfl (lv_at hl 0 rfl) ?_
          refine gf_X11_safestBy X hW h0 m_6_14 dX11_ways_170 ?_
          refine lv_iload_n hx hb dX11_ways_173 rfl (lv_at hl 2 rfl) ?_
          refine lv_iconst (v := 1) hx hb dX11_ways_174 (by decide) ?_
          refine lv_iload hx hb dX11_ways_175 (lv_at hl 3 rfl) ?_
          refine w_ishl hx hb dX11_ways_177 ?_
          refine lv_ior hx hb dX11_ways_178 ?_
          obtain ⟨hi10, h⟩ := ckI_el h
          refine r_iald X hW (kf_X11_safestBy h0) hi10 dX11_ways_179 ?_
          refine lv_aload_n hx hb dX11_ways_180 rfl (lv_at hl 0 rfl) ?_
          refine lv_iload_n hx hb dX11_ways_181 rfl (lv_at hl 1 rfl) ?_
          refine lv_iload hx hb dX11_ways_182 (lv_at hl 3 rfl) ?_
          refine lv_iconst (v := 0) hx hb dX11_ways_184 (by decide) ?_
          obtain ⟨r_11, hcl, h⟩ := bind_el h
          refine call_V1 X hW (kC_X11 h0) m_7_50 m_7_52 m_0_75 mv_X11_ofStep (c_X11_ofStep h0 hcl) (by decide) rfl rfl (Nat.le_of_ble_eq_true rfl) hl.1 dX11_ways_185 ?_
          clear hW hcl; intro H locs hW
          refine lv_iadd hx hb dX11_ways_188 ?_
          obtain ⟨r_12, hcl, h⟩ := bind_el h
          refine call_S1 X hW m_7_95 m_2_172 mv_J9_min_7cf53 (c_J9_min_7cf53 hcl) (by decide) rfl rfl (Nat.le_of_ble_eq_true rfl) hl.1 dX11_ways_189 ?_
          clear hW hcl; intro H locs hW
          obtain ⟨hi13, h⟩ := ckI_el h
          refine r_iast X hW (kf_X11_safestBy h0) hi13 dX11_ways_192 ?_
          clear hW; intro H locs hW
          refine nm_s hW h ?_
          clear hW h; intro σ_14 hW h
          exact bl_X11_ways_b193 X hret ih v0 h0 v1 v3 v4 σ_14 h _ _ _ hW (lv_sub hl [0, 1, 2, 3] rfl)
        · replace h := if_t hc h
          refine lv_goto (tgt := 193) hx hb dX11_ways_127 (by decide) ?_
          exact bl_X11_ways_b193 X hret ih v0 h0 v1 v3 v4 σ h _ _ _ hW (lv_sub hl [0, 1, 2, 3] rfl)
set_option maxRecDepth 20000 in
set_option maxHeartbeats 4000000 in
theorem bl_X11_ways_b205 (X : Cx G p R s m args c cells slots cX11_ways 5 RX11 8) {r : Int32} {σ' : St} (hret : R_Z G p l e R s m args below meth c cells slots Q cX11_ways r σ') :
    ∀ (v0 : Nat) (h0 : kd v0 = 10) (v1 : Int32) (σ : St) (_ : pf_X11_ways_b205 v0 v1 σ = some (r, σ')) (H : Heap) (locs : List Loc) (ls : Array Slot) (_ : GW G σ s H locs) (_ : lv_has ls 5 [(0, .ref (gz G + (v0))), (1, .int (v1))]), W p l e R s m args below meth c H locs cells slots Q (F0 m 205 ls []) := by
  have hx := X.1.1
  have hb := X.1.2.1
  intro v0 h0 v1 σ h H locs ls hW hl
  unfold pf_X11_ways_b205 at h
  refine lv_aload_n hx hb dX11_ways_205 rfl (lv_at hl 0 rfl) ?_
  refine lv_iload_n hx hb dX11_ways_206 rfl (lv_at hl 1 rfl) ?_
  obtain ⟨r_1, hcl, h⟩ := bind_el h
  refine call_V1 X hW (kC_X11 h0) m_7_96 m_7_98 m_0_85 mv_X11_isQuestOpen (c_X11_isQuestOpen h0 hcl) (by decide) rfl rfl (Nat.le_of_ble_eq_true rfl) hl.1 dX11_ways_207 ?_
  clear hW hcl; intro H locs hW
  refine lv_if_eq (tgt := 231) hx hb dX11_ways_210 (by decide) (fun hc => ?_) (fun hc => ?_)
  · replace h := if_t hc h
    refine lv_iconst (v := 0) hx hb dX11_ways_231 (by decide) ?_
    exact rz_end hret h (by decide) dX11_ways_232 hW
  · replace h := if_f hc h
    refine lv_aload_n hx hb dX11_ways_213 rfl (lv_at hl 0 rfl) ?_
    refine gf_X11_fewest X hW h0 m_6_13 dX11_ways_214 ?_
    refine lv_aload_n hx hb dX11_ways_217 rfl (lv_at hl 0 rfl) ?_
    refine gf_X11_begun X hW h0 m_6_15 dX11_ways_218 ?_
    obtain ⟨hi2, h⟩ := ckI_el h
    refine r_iald X hW (kf_X11_fewest h0) hi2 dX11_ways_221 ?_
    refine lv_ldc (v := 1000000) hx hb X.1.2.2.2.1 (X.1.2.2.2.2 _ m_7_74) dX11_ways_222 ?_
    refine lv_icmp_ge (tgt := 231) hx hb dX11_ways_224 (by decide) (fun hc => ?_) (fun hc => ?_)
    · replace h := if_t hc h
      refine lv_iconst (v := 0) hx hb dX11_ways_231 (by decide) ?_
      exact rz_end hret h (by decide) dX11_ways_232 hW
    · replace h := if_f hc h
      refine lv_iconst (v := 1) hx hb dX11_ways_227 (by decide) ?_
      refine lv_goto (tgt := 232) hx hb dX11_ways_228 (by decide) ?_
      exact rz_end hret h (by decide) dX11_ways_232 hW
set_option maxRecDepth 20000 in
set_option maxHeartbeats 4000000 in
theorem bl_X11_ways_L21 (X : Cx G p R s m args c cells slots cX11_ways 5 RX11 8) {r : Int32} {σ' : St} (hret : R_Z G p l e R s m args below meth c cells slots Q cX11_ways r σ') {k205 : Nat → Int32 → St → (Option (Int32 × St))}
    (hk205 : ∀ (v0 : Nat) (h0 : kd v0 = 10) (v1 : Int32) (σ : St) (_ : k205 v0 v1 σ = some (r, σ')) (H : Heap) (locs : List Loc) (ls : Array Slot) (_ : GW G σ s H locs) (_ : lv_has ls 5 [(0, .ref (gz G + (v0))), (1, .int (v1))]), W p l e R s m args below meth c H locs cells slots Q (F0 m 205 ls [])) :
    ∀ (n : Nat), ∀ (v0 : Nat) (h0 : kd v0 = 10) (v1 : Int32) (v3 : Int32) (σ : St) (_ : pf_X11_ways_L21 k205 n v0 v1 v3 σ = some (r, σ')) (H : Heap) (locs : List Loc) (ls : Array Slot) (_ : GW G σ s H locs) (_ : lv_has ls 5 [(0, .ref (gz G + (v0))), (1, .int (v1)), (3, .int (v3))]), W p l e R s m args below meth c H locs cells slots Q (F0 m 21 ls []) := by
  have hx := X.1.1
  have hb := X.1.2.1
  intro n
  induction n with
  | zero => intro v0 h0 v1 v3 σ h H locs ls hW hl; cases h
  | succ n ih =>
    intro v0 h0 v1 v3 σ h H locs ls hW hl
    rw [pf_X11_ways_L21.eq_2] at h
    refine lv_iload_n hx hb dX11_ways_21 rfl (lv_at hl 2 rfl) ?_
    refine lv_if_lt (tgt := 205) hx hb dX11_ways_22 (by decide) (fun hc => ?_) (fun hc => ?_)
    · replace h := if_t hc h
      exact hk205 v0 h0 v1 σ h _ _ _ hW (lv_sub hl [0, 1] rfl)
    · replace h := if_f hc h
      refine lv_aload_n hx hb dX11_ways_25 rfl (lv_at hl 0 rfl) ?_
      refine gf_X11_fewest X hW h0 m_6_13 dX11_ways_26 ?_
      refine lv_iload_n hx hb dX11_ways_29 rfl (lv_at hl 2 rfl) ?_
      refine lv_ldc (v := 1000000) hx hb X.1.2.2.2.1 (X.1.2.2.2.2 _ m_7_74) dX11_ways_30 ?_
      obtain ⟨hi1, h⟩ := ckI_el h
      refine r_iast X hW (kf_X11_fewest h0) hi1 dX11_ways_32 ?_
      clear hW; intro H locs hW
      refine nm_s hW h ?_
      clear hW h; intro σ_2 hW h
      refine lv_aload_n hx hb dX11_ways_33 rfl (lv_at hl 0 rfl) ?_
      refine gf_X11_safestBy X hW h0 m_6_14 dX11_ways_34 ?_
      refine lv_iload_n hx hb dX11_ways_37 rfl (lv_at hl 2 rfl) ?_
      refine lv_ldc (v := 1000000) hx hb X.1.2.2.2.1 (X.1.2.2.2.2 _ m_7_74) dX11_ways_38 ?_
      obtain ⟨hi3, h⟩ := ckI_el h
      refine r_iast X hW (kf_X11_safestBy h0) hi3 dX11_ways_40 ?_
      clear hW; intro H locs hW
      refine nm_s hW h ?_
      clear hW h; intro σ_4 hW h
      refine lv_iload_n hx hb dX11_ways_41 rfl (lv_at hl 2 rfl) ?_
      refine lv_aload_n hx hb dX11_ways_42 rfl (lv_at hl 0 rfl) ?_
      refine gf_X11_begun X hW h0 m_6_15 dX11_ways_43 ?_
      refine lv_iand hx hb dX11_ways_46 ?_
      refine lv_aload_n hx hb dX11_ways_47 rfl (lv_at hl 0 rfl) ?_
      refine gf_X11_begun X hW h0 m_6_15 dX11_ways_48 ?_
      refine lv_icmp_eq (tgt := 57) hx hb dX11_ways_51 (by decide) (fun hc => ?_) (fun hc => ?_)
      · replace h := if_t hc h
        refine lv_aload_n hx hb dX11_ways_57 rfl (lv_at hl 0 rfl) ?_
        refine lv_iload_n hx hb dX11_ways_58 rfl (lv_at hl 1 rfl) ?_
        refine lv_iload_n hx hb dX11_ways_59 rfl (lv_at hl 2 rfl) ?_
        obtain ⟨r_5, σ_5, hcl, h⟩ := bnd2_el h
        refine call_V1 X hW (kC_X11 h0) m_7_75 m_7_77 m_0_80 mv_X11_holdsBy (c_X11_holdsBy h0 hcl) (by decide) rfl rfl (Nat.le_of_ble_eq_true rfl) hl.1 dX11_ways_60 ?_
        clear hW hcl; intro H locs hW
        refine lv_if_eq (tgt := 83) hx hb dX11_ways_63 (by decide) (fun hc => ?_) (fun hc => ?_)
        · replace h := if_t hc h
          refine lv_iconst (v := 0) hx hb dX11_ways_83 (by decide) ?_
          refine lv_istore (lv' := [(4, .int (0)), (0, .ref (gz G + (v0))), (1, .int (v1)), (3, .int (v3))]) hx hb dX11_ways_84 hl (by decide) rfl ?_
          clear hl; intro ls hl
          exact bl_X11_ways_L86 X hret (bl_X11_ways_b199 X hret ih) FU v0 h0 v1 v3 0 σ_5 h _ _ _ hW (lv_sub hl [1, 2, 3, 0] rfl)
        · replace h := if_f hc h
          refine lv_aload_n hx hb dX11_ways_66 rfl (lv_at hl 0 rfl) ?_
          refine gf_X11_fewest X hW h0 m_6_13 dX11_ways_67 ?_
          refine lv_iload_n hx hb dX11_ways_70 rfl (lv_at hl 2 rfl) ?_
          refine lv_iconst (v := 0) hx hb dX11_ways_71 (by decide) ?_
          obtain ⟨hi6, h⟩ := ckI_el h
          refine r_iast X hW (kf_X11_fewest h0) hi6 dX11_ways_72 ?_
          clear hW; intro H locs hW
          refine nm_s hW h ?_
          clear hW h; intro σ_7 hW h
          refine lv_aload_n hx hb dX11_ways_73 rfl (lv_at hl 0 rfl) ?_
          refine gf_X11_safestBy X hW h0 m_6_14 dX11_ways_74 ?_
          refine lv_iload_n hx hb dX11_ways_77 rfl (lv_at hl 2 rfl) ?_
          refine lv_iconst (v := 0) hx hb dX11_ways_78 (by decide) ?_
          obtain ⟨hi8, h⟩ := ckI_el h
          refine r_iast X hW (kf_X11_safestBy h0) hi8 dX11_ways_79 ?_
          clear hW; intro H locs hW
          refine nm_s hW h ?_
          clear hW h; intro σ_9 hW h
          refine lv_goto (tgt := 199) hx hb dX11_ways_80 (by decide) ?_
          exact bl_X11_ways_b199 X hret ih v0 h0 v1 v3 σ_9 h _ _ _ hW (lv_sub hl [0, 1, 2] rfl)
      · replace h := if_f hc h
        refine lv_goto (tgt := 199) hx hb dX11_ways_54 (by decide) ?_
        exact bl_X11_ways_b199 X hret ih v0 h0 v1 v3 σ_4 h _ _ _ hW (lv_sub hl [0, 1, 2] rfl)
set_option maxRecDepth 20000 in
set_option maxHeartbeats 4000000 in
theorem c_X11_ways {G : Gt} {l : Launch} {v0 : Nat} (h0 : kd v0 = 10) {v1 : Int32} {σ : St} {r : Int32} {σ' : St} (hf : pf_X11_ways v0 v1 σ = some (r, σ')) : Ct G l yX11_ways cX11_ways 5 (some .boolean) 8 [.ref (gz G + (v0)), .int (v1)] σ (some (.int r)) σ' := by
  refine met_z (by decide +kernel) (Nat.le_of_ble_eq_true rfl) rfl ?_
  intro p e s m args below meth c Q ls X hW hret hl
  have hx := X.1.1
  have hb := X.1.2.1
  have hl : lv_has ls 5 [(0, .ref (gz G + (v0))), (1, .int (v1))] := hl
  have h := hf
  clear hf
  unfold pf_X11_ways at h
  refine lv_aload_n hx hb dX11_ways_0 rfl (lv_at hl 0 rfl) ?_
  refine lv_aload_n hx hb dX11_ways_1 rfl (lv_at hl 0 rfl) ?_
  refine lv_iload_n hx hb dX11_ways_2 rfl (lv_at hl 1 rfl) ?_
  obtain ⟨r_1, hcl, h⟩ := bind_el h
  refine call_V1 X hW (kC_X11 h0) m_7_46 m_7_48 m_0_74 mv_X11_doneSet (c_X11_doneSet h0 hcl) (by decide) rfl rfl (Nat.le_of_ble_eq_true rfl) hl.1 dX11_ways_3 ?_
  clear hW hcl; intro H locs hW
  refine sf_X11_begun X hW h0 m_6_15 dX11_ways_6 ?_
  clear hW; intro H locs hW
  refine nm_s hW h ?_
  clear hW h; intro σ_2 hW h
  refine lv_iconst (v := 1) hx hb dX11_ways_9 (by decide) ?_
  refine lv_aload_n hx hb dX11_ways_10 rfl (lv_at hl 0 rfl) ?_
  refine lv_iload_n hx hb dX11_ways_11 rfl (lv_at hl 1 rfl) ?_
  obtain ⟨r_3, hcl, h⟩ := bind_el h
  refine call_V1 X hW (kC_X11 h0) m_7_38 m_7_40 m_0_72 mv_X11_stepsOf (c_X11_stepsOf h0 hcl) (by decide) rfl rfl (Nat.le_of_ble_eq_true rfl) hl.1 dX11_ways_12 ?_
  clear hW hcl; intro H locs hW
  refine w_ishl hx hb dX11_ways_15 ?_
  refine lv_iconst (v := 1) hx hb dX11_ways_16 (by decide) ?_
  refine lv_isub hx hb dX11_ways_17 ?_
  refine nm_i h ?_
  clear h; intro v2_4 h
  refine lv_istore_n (lv' := [(2, .int (v2_4)), (0, .ref (gz G + (v0))), (1, .int (v1))]) hx hb dX11_ways_18 rfl hl (by decide) rfl ?_
  clear hl; intro ls hl
  refine lv_iload_n hx hb dX11_ways_19 rfl (lv_at hl 0 rfl) ?_
  refine lv_istore_n (lv' := [(3, .int (v2_4)), (2, .int (v2_4)), (0, .ref (gz G + (v0))), (1, .int (v1))]) hx hb dX11_ways_20 rfl hl (by decide) rfl ?_
  clear hl; intro ls hl
  exact bl_X11_ways_L21 X hret (bl_X11_ways_b205 X hret) FU v0 h0 v1 v2_4 σ_2 h _ _ _ hW (lv_sub hl [2, 3, 0] rfl)
set_option maxRecDepth 20000 in
set_option maxHeartbeats 4000000 in
theorem c_X11_isPossible {G : Gt} {l : Launch} {v0 : Nat} (h0 : kd v0 = 10) {v1 : Int32} {σ : St} {r : Int32} {σ' : St} (hf : pf_X11_isPossible v0 v1 σ = some (r, σ')) : Ct G l yX11_isPossible cX11_isPossible 2 (some .boolean) 9 [.ref (gz G + (v0)), .int (v1)] σ (some (.int r)) σ' := by
  refine met_z (by decide +kernel) (Nat.le_of_ble_eq_true rfl) rfl ?_
  intro p e s m args below meth c Q ls X hW hret hl
  have hx := X.1.1
  have hb := X.1.2.1
  have hl : lv_has ls 2 [(0, .ref (gz G + (v0))), (1, .int (v1))] := hl
  have h := hf
  clear hf
  unfold pf_X11_isPossible at h
  refine lv_aload_n hx hb dX11_isPossible_0 rfl (lv_at hl 0 rfl) ?_
  obtain ⟨σ_1, hcl, h⟩ := bind_el h
  refine call_V0 X hW (kC_X11 h0) m_7_66 m_7_68 m_0_78 mv_X11_asItIs (c_X11_asItIs h0 hcl) (by decide) rfl rfl (Nat.le_of_ble_eq_true rfl) hl.1 dX11_isPossible_1 ?_
  clear hW hcl; intro H locs hW
  refine lv_aload_n hx hb dX11_isPossible_4 rfl (lv_at hl 0 rfl) ?_
  refine lv_iload_n hx hb dX11_isPossible_5 rfl (lv_at hl 1 rfl) ?_
  obtain ⟨r_2, σ_2, hcl, h⟩ := bnd2_el h
  refine call_V1 X hW (kC_X11 h0) m_7_70 m_7_72 m_0_79 mv_X11_ways (c_X11_ways h0 hcl) (by decide) rfl rfl (Nat.le_of_ble_eq_true rfl) hl.1 dX11_isPossible_6 ?_
  clear hW hcl; intro H locs hW
  obtain ⟨hz, h⟩ := ckZ_el h
  exact rz_end hret h hz dX11_isPossible_9 hW
set_option maxRecDepth 20000 in
set_option maxHeartbeats 4000000 in
theorem bl_X11_plans_b56 (X : Cx G p R s m args c cells slots cX11_plans 4 RX11 8) {σ' : St} (hret : R_V G p l e R s m args below meth c cells slots Q cX11_plans σ') {k21 : Nat → Int32 → Int32 → Int32 → St → (Option St)}
    (hk21 : ∀ (v0 : Nat) (h0 : kd v0 = 10) (v1 : Int32) (v2 : Int32) (v3 : Int32) (σ : St) (_ : k21 v0 v1 v2 v3 σ = some σ') (H : Heap) (locs : List Loc) (ls : Array Slot) (_ : GW G σ s H locs) (_ : lv_has ls 4 [(0, .ref (gz G + (v0))), (1, .int (v1)), (2, .int (v2)), (3, .int (v3))]), W p l e R s m args below meth c H locs cells slots Q (F0 m 21 ls [])) :
    ∀ (v0 : Nat) (h0 : kd v0 = 10) (v1 : Int32) (v2 : Int32) (v3 : Int32) (σ : St) (_ : pf_X11_plans_b56 k21 v0 v1 v2 v3 σ = some σ') (H : Heap) (locs : List Loc) (ls : Array Slot) (_ : GW G σ s H locs) (_ : lv_has ls 4 [(0, .ref (gz G + (v0))), (1, .int (v1)), (2, .int (v2)), (3, .int (v3))]), W p l e R s m args below meth c H locs cells slots Q (F0 m 56 ls []) := by
  have hx := X.1.1
  have hb := X.1.2.1
  intro v0 h0 v1 v2 v3 σ h H locs ls hW hl
  unfold pf_X11_plans_b56 at h
  refine w_iinc (v := 1) (lv' := fun y => [(3, .int (y)), (0, .ref (gz G + (v0))), (1, .int (v1)), (2, .int (v2))]) hx hb dX11_plans_56 hl (k := 3) rfl (by decide) (by decide) (fun _ => rfl) h ?_
  clear h hl; intro v3_1 h ls hl
  refine lv_goto (tgt := 21) hx hb dX11_plans_59 (by decide) ?_
  exact hk21 v0 h0 v1 v2 v3_1 σ h _ _ _ hW (lv_sub hl [1, 2, 3, 0] rfl)
set_option maxRecDepth 20000 in
set_option maxHeartbeats 4000000 in
theorem bl_X11_plans_b62 (X : Cx G p R s m args c cells slots cX11_plans 4 RX11 8) {σ' : St} (hret : R_V G p l e R s m args below meth c cells slots Q cX11_plans σ') {k10 : Nat → Int32 → Int32 → St → (Option St)}
    (hk10 : ∀ (v0 : Nat) (h0 : kd v0 = 10) (v1 : Int32) (v2 : Int32) (σ : St) (_ : k10 v0 v1 v2 σ = some σ') (H : Heap) (locs : List Loc) (ls : Array Slot) (_ : GW G σ s H locs) (_ : lv_has ls 4 [(0, .ref (gz G + (v0))), (1, .int (v1)), (2, .int (v2))]), W p l e R s m args below meth c H locs cells slots Q (F0 m 10 ls [])) :
    ∀ (v0 : Nat) (h0 : kd v0 = 10) (v1 : Int32) (v2 : Int32) (v3 : Int32) (σ : St) (_ : pf_X11_plans_b62 k10 v0 v1 v2 v3 σ = some σ') (H : Heap) (locs : List Loc) (ls : Array Slot) (_ : GW G σ s H locs) (_ : lv_has ls 4 [(0, .ref (gz G + (v0))), (1, .int (v1)), (2, .int (v2)), (3, .int (v3))]), W p l e R s m args below meth c H locs cells slots Q (F0 m 62 ls []) := by
  have hx := X.1.1
  have hb := X.1.2.1
  intro v0 h0 v1 v2 v3 σ h H locs ls hW hl
  unfold pf_X11_plans_b62 at h
  refine lv_aload_n hx hb dX11_plans_62 rfl (lv_at hl 0 rfl) ?_
  refine gf_X11_plan X hW h0 m_6_16 dX11_plans_63 ?_
  refine lv_aload_n hx hb dX11_plans_66 rfl (lv_at hl 0 rfl) ?_
  refine gf_X11_planMany X hW h0 m_6_17 dX11_plans_67 ?_
  refine lv_iload_n hx hb dX11_plans_70 rfl (lv_at hl 3 rfl) ?_
  obtain ⟨hi1, h⟩ := ckI_el h
  refine r_iast X hW (kf_X11_plan h0) hi1 dX11_plans_71 ?_
  clear hW; intro H locs hW
  refine nm_s hW h ?_
  clear hW h; intro σ_2 hW h
  refine lv_aload_n hx hb dX11_plans_72 rfl (lv_at hl 0 rfl) ?_
  refine lv_dup hx hb dX11_plans_73 rfl ?_
  refine gf_X11_planMany X hW h0 m_6_17 dX11_plans_74 ?_
  refine lv_iconst (v := 1) hx hb dX11_plans_77 (by decide) ?_
  refine lv_iadd hx hb dX11_plans_78 ?_
  refine sf_X11_planMany X hW h0 m_6_17 dX11_plans_79 ?_
  clear hW; intro H locs hW
  refine nm_s hW h ?_
  clear hW h; intro σ_3 hW h
  refine lv_iload_n hx hb dX11_plans_82 rfl (lv_at hl 2 rfl) ?_
  refine lv_iconst (v := 1) hx hb dX11_plans_83 (by decide) ?_
  refine lv_iload_n hx hb dX11_plans_84 rfl (lv_at hl 3 rfl) ?_
  refine w_ishl hx hb dX11_plans_85 ?_
  refine lv_ior hx hb dX11_plans_86 ?_
  refine nm_i h ?_
  clear h; intro v2_4 h
  refine lv_istore_n (lv' := [(2, .int (v2_4)), (0, .ref (gz G + (v0))), (1, .int (v1)), (3, .int (v3))]) hx hb dX11_plans_87 rfl hl (by decide) rfl ?_
  clear hl; intro ls hl
  refine lv_goto (tgt := 10) hx hb dX11_plans_88 (by decide) ?_
  exact hk10 v0 h0 v1 v2_4 σ_3 h _ _ _ hW (lv_sub hl [1, 2, 0] rfl)
set_option maxRecDepth 20000 in
set_option maxHeartbeats 4000000 in
theorem bl_X11_plans_L21 (X : Cx G p R s m args c cells slots cX11_plans 4 RX11 8) {σ' : St} (hret : R_V G p l e R s m args below meth c cells slots Q cX11_plans σ') {k62 : Nat → Int32 → Int32 → Int32 → St → (Option St)}
    (hk62 : ∀ (v0 : Nat) (h0 : kd v0 = 10) (v1 : Int32) (v2 : Int32) (v3 : Int32) (σ : St) (_ : k62 v0 v1 v2 v3 σ = some σ') (H : Heap) (locs : List Loc) (ls : Array Slot) (_ : GW G σ s H locs) (_ : lv_has ls 4 [(0, .ref (gz G + (v0))), (1, .int (v1)), (2, .int (v2)), (3, .int (v3))]), W p l e R s m args below meth c H locs cells slots Q (F0 m 62 ls [])) :
    ∀ (n : Nat), ∀ (v0 : Nat) (h0 : kd v0 = 10) (v1 : Int32) (v2 : Int32) (v3 : Int32) (σ : St) (_ : pf_X11_plans_L21 k62 n v0 v1 v2 v3 σ = some σ') (H : Heap) (locs : List Loc) (ls : Array Slot) (_ : GW G σ s H locs) (_ : lv_has ls 4 [(0, .ref (gz G + (v0))), (1, .int (v1)), (2, .int (v2)), (3, .int (v3))]), W p l e R s m args below meth c H locs cells slots Q (F0 m 21 ls []) := by
  have hx := X.1.1
  have hb := X.1.2.1
  intro n
  induction n with
  | zero => intro v0 h0 v1 v2 v3 σ h H locs ls hW hl; cases h
  | succ n ih =>
    intro v0 h0 v1 v2 v3 σ h H locs ls hW hl
    rw [pf_X11_plans_L21.eq_2] at h
    refine lv_aload_n hx hb dX11_plans_21 rfl (lv_at hl 0 rfl) ?_
    refine lv_iload_n hx hb dX11_plans_22 rfl (lv_at hl 1 rfl) ?_
    refine lv_iload_n hx hb dX11_plans_23 rfl (lv_at hl 3 rfl) ?_
    refine lv_iload_n hx hb dX11_plans_24 rfl (lv_at hl 2 rfl) ?_
    refine lv_aload_n hx hb dX11_plans_25 rfl (lv_at hl 0 rfl) ?_
    refine gf_X11_begun X hW h0 m_6_15 dX11_plans_26 ?_
    obtain ⟨r_1, hcl, h⟩ := bind_el h
    refine call_V1 X hW (kC_X11 h0) m_7_79 m_7_81 m_0_81 mv_X11_can (c_X11_can h0 hcl) (by decide) rfl rfl (Nat.le_of_ble_eq_true rfl) hl.1 dX11_plans_29 ?_
    clear hW hcl; intro H locs hW
    refine lv_if_eq (tgt := 56) hx hb dX11_plans_32 (by decide) (fun hc => ?_) (fun hc => ?_)
    · replace h := if_t hc h
      exact bl_X11_plans_b56 X hret ih v0 h0 v1 v2 v3 σ h _ _ _ hW (lv_sub hl [0, 1, 2, 3] rfl)
    · replace h := if_f hc h
      refine lv_aload_n hx hb dX11_plans_35 rfl (lv_at hl 0 rfl) ?_
      refine gf_X11_fewest X hW h0 m_6_13 dX11_plans_36 ?_
      refine lv_iload_n hx hb dX11_plans_39 rfl (lv_at hl 2 rfl) ?_
      refine lv_iconst (v := 1) hx hb dX11_plans_40 (by decide) ?_
      refine lv_iload_n hx hb dX11_plans_41 rfl (lv_at hl 3 rfl) ?_
      refine w_ishl hx hb dX11_plans_42 ?_
      refine lv_ior hx hb dX11_plans_43 ?_
      obtain ⟨hi2, h⟩ := ckI_el h
      refine r_iald X hW (kf_X11_fewest h0) hi2 dX11_plans_44 ?_
      refine lv_aload_n hx hb dX11_plans_45 rfl (lv_at hl 0 rfl) ?_
      refine gf_X11_fewest X hW h0 m_6_13 dX11_plans_46 ?_
      refine lv_iload_n hx hb dX11_plans_49 rfl (lv_at hl 2 rfl) ?_
      obtain ⟨hi3, h⟩ := ckI_el h
      refine r_iald X hW (kf_X11_fewest h0) hi3 dX11_plans_50 ?_
      refine lv_iconst (v := 1) hx hb dX11_plans_51 (by decide) ?_
      refine lv_isub hx hb dX11_plans_52 ?_
      refine lv_icmp_eq (tgt := 62) hx hb dX11_plans_53 (by decide) (fun hc => ?_) (fun hc => ?_)
      · replace h := if_t hc h
        exact hk62 v0 h0 v1 v2 v3 σ h _ _ _ hW (lv_sub hl [0, 1, 2, 3] rfl)
      · replace h := if_f hc h
        exact bl_X11_plans_b56 X hret ih v0 h0 v1 v2 v3 σ h _ _ _ hW (lv_sub hl [0, 1, 2, 3] rfl)
set_option maxRecDepth 20000 in
set_option maxHeartbeats 4000000 in
theorem bl_X11_plans_L10 (X : Cx G p R s m args c cells slots cX11_plans 4 RX11 8) {σ' : St} (hret : R_V G p l e R s m args below meth c cells slots Q cX11_plans σ') :
    ∀ (n : Nat), ∀ (v0 : Nat) (h0 : kd v0 = 10) (v1 : Int32) (v2 : Int32) (σ : St) (_ : pf_X11_plans_L10 n v0 v1 v2 σ = some σ') (H : Heap) (locs : List Loc) (ls : Array Slot) (_ : GW G σ s H locs) (_ : lv_has ls 4 [(0, .ref (gz G + (v0))), (1, .int (v1)), (2, .int (v2))]), W p l e R s m args below meth c H locs cells slots Q (F0 m 10 ls []) := by
  have hx := X.1.1
  have hb := X.1.2.1
  intro n
  induction n with
  | zero => intro v0 h0 v1 v2 σ h H locs ls hW hl; cases h
  | succ n ih =>
    intro v0 h0 v1 v2 σ h H locs ls hW hl
    rw [pf_X11_plans_L10.eq_2] at h
    refine lv_aload_n hx hb dX11_plans_10 rfl (lv_at hl 0 rfl) ?_
    refine gf_X11_fewest X hW h0 m_6_13 dX11_plans_11 ?_
    refine lv_iload_n hx hb dX11_plans_14 rfl (lv_at hl 2 rfl) ?_
    obtain ⟨hi1, h⟩ := ckI_el h
    refine r_iald X hW (kf_X11_fewest h0) hi1 dX11_plans_15 ?_
    refine lv_if_le (tgt := 91) hx hb dX11_plans_16 (by decide) (fun hc => ?_) (fun hc => ?_)
    · replace h := if_t hc h
      exact rv_end hret h dX11_plans_91 hW
    · replace h := if_f hc h
      refine lv_iconst (v := 0) hx hb dX11_plans_19 (by decide) ?_
      refine lv_istore_n (lv' := [(3, .int (0)), (0, .ref (gz G + (v0))), (1, .int (v1)), (2, .int (v2))]) hx hb dX11_plans_20 rfl hl (by decide) rfl ?_
      clear hl; intro ls hl
      exact bl_X11_plans_L21 X hret (bl_X11_plans_b62 X hret ih) FU v0 h0 v1 v2 0 σ h _ _ _ hW (lv_sub hl [1, 2, 3, 0] rfl)
set_option maxRecDepth 20000 in
set_option maxHeartbeats 4000000 in
theorem c_X11_plans {G : Gt} {l : Launch} {v0 : Nat} (h0 : kd v0 = 10) {v1 : Int32} {σ : St} {σ' : St} (hf : pf_X11_plans v0 v1 σ = some σ') : Ct G l yX11_plans cX11_plans 4 none 8 [.ref (gz G + (v0)), .int (v1)] σ none σ' := by
  refine met_v (by decide +kernel) (Nat.le_of_ble_eq_true rfl) rfl ?_
  intro p e s m args below meth c Q ls X hW hret hl
  have hx := X.1.1
  have hb := X.1.2.1
  have hl : lv_has ls 4 [(0, .ref (gz G + (v0))), (1, .int (v1))] := hl
  have h := hf
  clear hf
  unfold pf_X11_plans at h
  refine lv_aload_n hx hb dX11_plans_0 rfl (lv_at hl 0 rfl) ?_
  refine lv_iconst (v := 0) hx hb dX11_plans_1 (by decide) ?_
  refine sf_X11_planMany X hW h0 m_6_17 dX11_plans_2 ?_
  clear hW; intro H locs hW
  refine nm_s hW h ?_
  clear hW h; intro σ_1 hW h
  refine lv_aload_n hx hb dX11_plans_5 rfl (lv_at hl 0 rfl) ?_
  refine gf_X11_begun X hW h0 m_6_15 dX11_plans_6 ?_
  refine nm_i h ?_
  clear h; intro v2_2 h
  refine lv_istore_n (lv' := [(2, .int (v2_2)), (0, .ref (gz G + (v0))), (1, .int (v1))]) hx hb dX11_plans_9 rfl hl (by decide) rfl ?_
  clear hl; intro ls hl
  exact bl_X11_plans_L10 X hret FU v0 h0 v1 v2_2 σ_1 h _ _ _ hW (lv_sub hl [1, 2, 0] rfl)
set_option maxRecDepth 20000 in
set_option maxHeartbeats 4000000 in
theorem c_X11_hasPlan {G : Gt} {l : Launch} {v0 : Nat} (h0 : kd v0 = 10) {v1 : Int32} {σ : St} {r : Int32} {σ' : St} (hf : pf_X11_hasPlan v0 v1 σ = some (r, σ')) : Ct G l yX11_hasPlan cX11_hasPlan 2 (some .boolean) 10 [.ref (gz G + (v0)), .int (v1)] σ (some (.int r)) σ' := by
  refine met_z (by decide +kernel) (Nat.le_of_ble_eq_true rfl) rfl ?_
  intro p e s m args below meth c Q ls X hW hret hl
  have hx := X.1.1
  have hb := X.1.2.1
  have hl : lv_has ls 2 [(0, .ref (gz G + (v0))), (1, .int (v1))] := hl
  have h := hf
  clear hf
  unfold pf_X11_hasPlan at h
  refine lv_aload_n hx hb dX11_hasPlan_0 rfl (lv_at hl 0 rfl) ?_
  refine lv_iload_n hx hb dX11_hasPlan_1 rfl (lv_at hl 1 rfl) ?_
  obtain ⟨r_1, σ_1, hcl, h⟩ := bnd2_el h
  refine call_V1 X hW (kC_X11 h0) m_7_62 m_7_64 m_0_77 mv_X11_isPossible (c_X11_isPossible h0 hcl) (by decide) rfl rfl (Nat.le_of_ble_eq_true rfl) hl.1 dX11_hasPlan_2 ?_
  clear hW hcl; intro H locs hW
  refine lv_if_ne (tgt := 10) hx hb dX11_hasPlan_5 (by decide) (fun hc => ?_) (fun hc => ?_)
  · replace h := if_f hc h
    refine lv_aload_n hx hb dX11_hasPlan_10 rfl (lv_at hl 0 rfl) ?_
    refine lv_iload_n hx hb dX11_hasPlan_11 rfl (lv_at hl 1 rfl) ?_
    obtain ⟨σ_2, hcl, h⟩ := bind_el h
    refine call_V0 X hW (kC_X11 h0) m_7_168 m_7_170 m_0_94 mv_X11_plans (c_X11_plans h0 hcl) (by decide) rfl rfl (Nat.le_of_ble_eq_true rfl) hl.1 dX11_hasPlan_12 ?_
    clear hW hcl; intro H locs hW
    refine lv_iconst (v := 1) hx hb dX11_hasPlan_15 (by decide) ?_
    exact rz_end hret h (by decide) dX11_hasPlan_16 hW
  · replace h := if_t hc h
    refine lv_iconst (v := 0) hx hb dX11_hasPlan_8 (by decide) ?_
    exact rz_end hret h (by decide) dX11_hasPlan_9 hW
set_option maxRecDepth 20000 in
set_option maxHeartbeats 4000000 in
theorem bl_X11_planRisk_L4 {σ : St} (X : Cx G p R s m args c cells slots cX11_planRisk 4 RX11 4) {r : Int32} (hret : R_I G p l e R s m args below meth c cells slots Q cX11_planRisk r σ) :
    ∀ (n : Nat), ∀ (v0 : Nat) (h0 : kd v0 = 10) (v1 : Int32) (v2 : Int32) (v3 : Int32) (_ : pf_X11_planRisk_L4 σ n v0 v1 v2 v3 = some r) (H : Heap) (locs : List Loc) (ls : Array Slot) (_ : GW G σ s H locs) (_ : lv_has ls 4 [(0, .ref (gz G + (v0))), (1, .int (v1)), (2, .int (v2)), (3, .int (v3))]), W p l e R s m args below meth c H locs cells slots Q (F0 m 4 ls []) := by
  have hx := X.1.1
  have hb := X.1.2.1
  intro n
  induction n with
  | zero => intro v0 h0 v1 v2 v3 h H locs ls hW hl; cases h
  | succ n ih =>
    intro v0 h0 v1 v2 v3 h H locs ls hW hl
    rw [pf_X11_planRisk_L4.eq_2] at h
    refine lv_iload_n hx hb dX11_planRisk_4 rfl (lv_at hl 3 rfl) ?_
    refine lv_aload_n hx hb dX11_planRisk_5 rfl (lv_at hl 0 rfl) ?_
    refine gf_X11_planMany X hW h0 m_6_17 dX11_planRisk_6 ?_
    refine lv_icmp_ge (tgt := 33) hx hb dX11_planRisk_9 (by decide) (fun hc => ?_) (fun hc => ?_)
    · replace h := if_t hc h
      refine lv_iload_n hx hb dX11_planRisk_33 rfl (lv_at hl 2 rfl) ?_
      exact ri_end0 hret h dX11_planRisk_34 hW
    · replace h := if_f hc h
      refine lv_iload_n hx hb dX11_planRisk_12 rfl (lv_at hl 2 rfl) ?_
      refine lv_aload_n hx hb dX11_planRisk_13 rfl (lv_at hl 0 rfl) ?_
      refine lv_iload_n hx hb dX11_planRisk_14 rfl (lv_at hl 1 rfl) ?_
      refine lv_aload_n hx hb dX11_planRisk_15 rfl (lv_at hl 0 rfl) ?_
      refine gf_X11_plan X hW h0 m_6_16 dX11_planRisk_16 ?_
      refine lv_iload_n hx hb dX11_planRisk_19 rfl (lv_at hl 3 rfl) ?_
      obtain ⟨hi1, h⟩ := ckI_el h
      refine r_iald X hW (kf_X11_plan h0) hi1 dX11_planRisk_20 ?_
      refine lv_iconst (v := 0) hx hb dX11_planRisk_21 (by decide) ?_
      obtain ⟨r_2, hcl, h⟩ := bind_el h
      refine call_V1 X hW (kC_X11 h0) m_7_50 m_7_52 m_0_75 mv_X11_ofStep (c_X11_ofStep h0 hcl) (by decide) rfl rfl (Nat.le_of_ble_eq_true rfl) hl.1 dX11_planRisk_22 ?_
      clear hW hcl; intro H locs hW
      refine lv_iadd hx hb dX11_planRisk_25 ?_
      refine nm_i h ?_
      clear h; intro v2_3 h
      refine lv_istore_n (lv' := [(2, .int (v2_3)), (0, .ref (gz G + (v0))), (1, .int (v1)), (3, .int (v3))]) hx hb dX11_planRisk_26 rfl hl (by decide) rfl ?_
      clear hl; intro ls hl
      refine w_iinc (v := 1) (lv' := fun y => [(3, .int (y)), (2, .int (v2_3)), (0, .ref (gz G + (v0))), (1, .int (v1))]) hx hb dX11_planRisk_27 hl (k := 3) rfl (by decide) (by decide) (fun _ => rfl) h ?_
      clear h hl; intro v3_4 h ls hl
      refine lv_goto (tgt := 4) hx hb dX11_planRisk_30 (by decide) ?_
      exact ih v0 h0 v1 v2_3 v3_4 h _ _ _ hW (lv_sub hl [2, 3, 1, 0] rfl)
set_option maxRecDepth 20000 in
set_option maxHeartbeats 4000000 in
theorem c_X11_planRisk {G : Gt} {l : Launch} {v0 : Nat} (h0 : kd v0 = 10) {v1 : Int32} {σ : St} {r : Int32} (hf : pf_X11_planRisk v0 v1 σ = some r) : Ct G l yX11_planRisk cX11_planRisk 4 (some .int) 4 [.ref (gz G + (v0)), .int (v1)] σ (some (.int r)) σ := by
  refine met_i (by decide +kernel) (Nat.le_of_ble_eq_true rfl) rfl ?_
  intro p e s m args below meth c Q ls X hW hret hl
  have hx := X.1.1
  have hb := X.1.2.1
  have hl : lv_has ls 4 [(0, .ref (gz G + (v0))), (1, .int (v1))] := hl
  have h := hf
  clear hf
  unfold pf_X11_planRisk at h
  refine lv_iconst (v := 0) hx hb dX11_planRisk_0 (by decide) ?_
  refine lv_istore_n (lv' := [(2, .int (0)), (0, .ref (gz G + (v0))), (1, .int (v1))]) hx hb dX11_planRisk_1 rfl hl (by decide) rfl ?_
  clear hl; intro ls hl
  refine lv_iconst (v := 0) hx hb dX11_planRisk_2 (by decide) ?_
  refine lv_istore_n (lv' := [(3, .int (0)), (2, .int (0)), (0, .ref (gz G + (v0))), (1, .int (v1))]) hx hb dX11_planRisk_3 rfl hl (by decide) rfl ?_
  clear hl; intro ls hl
  exact bl_X11_planRisk_L4 X hret FU v0 h0 v1 0 0 h _ _ _ hW (lv_sub hl [2, 3, 1, 0] rfl)
set_option maxRecDepth 20000 in
set_option maxHeartbeats 4000000 in
theorem c_X11_factOf {G : Gt} {l : Launch} {v0 : Nat} (h0 : kd v0 = 10) {v1 : Int32} {v2 : Int32} {v3 : Int32} {σ : St} {r : Int64} (hf : pf_X11_factOf v0 v1 v2 v3 σ = some r) : Ct G l yX11_factOf cX11_factOf 4 (some .long) 6 [.ref (gz G + (v0)), .int (v1), .int (v2), .int (v3)] σ (some (.long r)) σ := by
  refine met_l (by decide +kernel) (Nat.le_of_ble_eq_true rfl) rfl ?_
  intro p e s m args below meth c Q ls X hW hret hl
  have hx := X.1.1
  have hb := X.1.2.1
  have hl : lv_has ls 4 [(0, .ref (gz G + (v0))), (1, .int (v1)), (2, .int (v2)), (3, .int (v3))] := hl
  have h := hf
  clear hf
  unfold pf_X11_factOf at h
  refine lv_iload_n hx hb dX11_factOf_0 rfl (lv_at hl 2 rfl) ?_
  by_cases hc0 : v2 = 0
  · replace h := if_t hc0 h
    refine lv_tableIn (off := 35) (tgt := 36) hx hb dX11_factOf_1 (by rw [hc0]; decide) (by rw [hc0]; decide) (by rw [hc0]; rfl) (by decide) ?_
    refine lv_iload_n hx hb dX11_factOf_36 rfl (lv_at hl 3 rfl) ?_
    refine lv_if_eq (tgt := 48) hx hb dX11_factOf_37 (by decide) (fun hc => ?_) (fun hc => ?_)
    · replace h := if_t hc h
      refine lv_ldc2 (v := (-1)) hx hb X.1.2.2.2.1 (X.1.2.2.2.2 _ m_7_204) dX11_factOf_48 ?_
      exact rl_end0 hret h dX11_factOf_51 hW
    · replace h := if_f hc h
      refine lv_aload_n hx hb dX11_factOf_40 rfl (lv_at hl 0 rfl) ?_
      refine gf_X11_planMany X hW h0 m_6_17 dX11_factOf_41 ?_
      refine lv_i2l hx hb dX11_factOf_44 rfl ?_
      refine lv_goto (tgt := 51) hx hb dX11_factOf_45 (by decide) ?_
      exact rl_end0 hret h dX11_factOf_51 hW
  replace h := if_f hc0 h
  by_cases hc1 : v2 = 1
  · replace h := if_t hc1 h
    refine lv_tableIn (off := 51) (tgt := 52) hx hb dX11_factOf_1 (by rw [hc1]; decide) (by rw [hc1]; decide) (by rw [hc1]; rfl) (by decide) ?_
    refine lv_iload_n hx hb dX11_factOf_52 rfl (lv_at hl 3 rfl) ?_
    refine lv_if_eq (tgt := 65) hx hb dX11_factOf_53 (by decide) (fun hc => ?_) (fun hc => ?_)
    · replace h := if_t hc h
      refine lv_lconst (v := 0) hx hb dX11_factOf_65 (by decide) ?_
      exact rl_end0 hret h dX11_factOf_66 hW
    · replace h := if_f hc h
      refine lv_aload_n hx hb dX11_factOf_56 rfl (lv_at hl 0 rfl) ?_
      refine lv_iload_n hx hb dX11_factOf_57 rfl (lv_at hl 1 rfl) ?_
      obtain ⟨r_1, hcl, h⟩ := bind_el h
      refine call_V1 X hW (kC_X11 h0) m_7_205 m_7_207 m_0_98 mv_X11_planRisk (c_X11_planRisk h0 hcl) (by decide) rfl rfl (Nat.le_of_ble_eq_true rfl) hl.1 dX11_factOf_58 ?_
      clear hW hcl; intro H locs hW
      refine lv_i2l hx hb dX11_factOf_61 rfl ?_
      refine lv_goto (tgt := 66) hx hb dX11_factOf_62 (by decide) ?_
      exact rl_end0 hret h dX11_factOf_66 hW
  replace h := if_f hc1 h
  by_cases hc2 : v2 = 2
  · replace h := if_t hc2 h
    refine lv_tableIn (off := 66) (tgt := 67) hx hb dX11_factOf_1 (by rw [hc2]; decide) (by rw [hc2]; decide) (by rw [hc2]; rfl) (by decide) ?_
    refine lv_aload_n hx hb dX11_factOf_67 rfl (lv_at hl 0 rfl) ?_
    refine lv_iload_n hx hb dX11_factOf_68 rfl (lv_at hl 1 rfl) ?_
    obtain ⟨r_2, hcl, h⟩ := bind_el h
    refine call_V1 X hW (kC_X11 h0) m_7_46 m_7_48 m_0_74 mv_X11_doneSet (c_X11_doneSet h0 hcl) (by decide) rfl rfl (Nat.le_of_ble_eq_true rfl) hl.1 dX11_factOf_69 ?_
    clear hW hcl; intro H locs hW
    obtain ⟨r_3, hcl, h⟩ := bind_el h
    refine call_S1 X hW m_7_57 m_2_221 mv_J6_bitCount_0f7a4 (c_J6_bitCount_0f7a4 hcl) (by decide) rfl rfl (Nat.le_of_ble_eq_true rfl) hl.1 dX11_factOf_72 ?_
    clear hW hcl; intro H locs hW
    refine lv_i2l hx hb dX11_factOf_75 rfl ?_
    exact rl_end0 hret h dX11_factOf_76 hW
  replace h := if_f hc2 h
  by_cases hc3 : v2 = 3
  · replace h := if_t hc3 h
    refine lv_tableIn (off := 76) (tgt := 77) hx hb dX11_factOf_1 (by rw [hc3]; decide) (by rw [hc3]; decide) (by rw [hc3]; rfl) (by decide) ?_
    refine lv_aload_n hx hb dX11_factOf_77 rfl (lv_at hl 0 rfl) ?_
    refine lv_iload_n hx hb dX11_factOf_78 rfl (lv_at hl 1 rfl) ?_
    obtain ⟨r_4, hcl, h⟩ := bind_el h
    refine call_V1 X hW (kC_X11 h0) m_7_58 m_7_60 m_0_76 mv_X11_failsOf (c_X11_failsOf h0 hcl) (by decide) rfl rfl (Nat.le_of_ble_eq_true rfl) hl.1 dX11_factOf_79 ?_
    clear hW hcl; intro H locs hW
    refine lv_i2l hx hb dX11_factOf_82 rfl ?_
    exact rl_end0 hret h dX11_factOf_83 hW
  replace h := if_f hc3 h
  by_cases hc4 : v2 = 4
  · replace h := if_t hc4 h
    refine lv_tableIn (off := 83) (tgt := 84) hx hb dX11_factOf_1 (by rw [hc4]; decide) (by rw [hc4]; decide) (by rw [hc4]; rfl) (by decide) ?_
    refine lv_aload_n hx hb dX11_factOf_84 rfl (lv_at hl 0 rfl) ?_
    refine lv_iload_n hx hb dX11_factOf_85 rfl (lv_at hl 1 rfl) ?_
    refine lv_iconst (v := 3) hx hb dX11_factOf_86 (by decide) ?_
    obtain ⟨r_5, hcl, h⟩ := bind_el h
    refine call_V1 X hW (kC_X11 h0) m_7_42 m_7_44 m_0_73 mv_X11_ofQuest (c_X11_ofQuest h0 hcl) (by decide) rfl rfl (Nat.le_of_ble_eq_true rfl) hl.1 dX11_factOf_87 ?_
    clear hW hcl; intro H locs hW
    refine lv_i2l hx hb dX11_factOf_90 rfl ?_
    exact rl_end0 hret h dX11_factOf_91 hW
  replace h := if_f hc4 h
  refine lv_tableOut (tgt := 92) hx hb dX11_factOf_1 (tb_out (n := 5) (by decide) rfl (fun k hk => match k, hk with | 0, _ => hc0 | 1, _ => hc1 | 2, _ => hc2 | 3, _ => hc3 | 4, _ => hc4 | k + 5, hk => absurd hk (by omega))) (by decide) ?_
  skip
  refine lv_iload_n hx hb dX11_factOf_92 rfl (lv_at hl 1 rfl) ?_
  refine lv_i2l hx hb dX11_factOf_93 rfl ?_
  exact rl_end0 hret h dX11_factOf_94 hW
set_option maxRecDepth 20000 in
set_option maxHeartbeats 4000000 in
theorem bl_X11_worthOf_b224 (X : Cx G p R s m args c cells slots cX11_worthOf 13 RX11 11) {r : Int32} {σ' : St} (hret : R_I G p l e R s m args below meth c cells slots Q cX11_worthOf r σ') {k26 : Nat → Int32 → Int32 → Int32 → Int32 → St → (Option (Int32 × St))}
    (hk26 : ∀ (v0 : Nat) (h0 : kd v0 = 10) (v1 : Int32) (v2 : Int32) (v3 : Int32) (v4 : Int32) (σ : St) (_ : k26 v0 v1 v2 v3 v4 σ = some (r, σ')) (H : Heap) (locs : List Loc) (ls : Array Slot) (_ : GW G σ s H locs) (_ : lv_has ls 13 [(0, .ref (gz G + (v0))), (1, .int (v1)), (2, .int (v2)), (3, .int (v3)), (4, .int (v4))]), W p l e R s m args below meth c H locs cells slots Q (F0 m 26 ls [])) :
    ∀ (v0 : Nat) (h0 : kd v0 = 10) (v1 : Int32) (v2 : Int32) (v3 : Int32) (v4 : Int32) (σ : St) (_ : pf_X11_worthOf_b224 k26 v0 v1 v2 v3 v4 σ = some (r, σ')) (H : Heap) (locs : List Loc) (ls : Array Slot) (_ : GW G σ s H locs) (_ : lv_has ls 13 [(0, .ref (gz G + (v0))), (1, .int (v1)), (2, .int (v2)), (3, .int (v3)), (4, .int (v4))]), W p l e R s m args below meth c H locs cells slots Q (F0 m 224 ls []) := by
  have hx := X.1.1
  have hb := X.1.2.1
  intro v0 h0 v1 v2 v3 v4 σ h H locs ls hW hl
  unfold pf_X11_worthOf_b224 at h
  refine w_iinc (v := 1) (lv' := fun y => [(4, .int (y)), (0, .ref (gz G + (v0))), (1, .int (v1)), (2, .int (v2)), (3, .int (v3))]) hx hb dX11_worthOf_224 hl (k := 4) rfl (by decide) (by decide) (fun _ => rfl) h ?_
  clear h hl; intro v4_1 h ls hl
  refine lv_goto (tgt := 26) hx hb dX11_worthOf_227 (by decide) ?_
  exact hk26 v0 h0 v1 v2 v3 v4_1 σ h _ _ _ hW (lv_sub hl [1, 2, 3, 4, 0] rfl)
set_option maxRecDepth 20000 in
set_option maxHeartbeats 4000000 in
theorem bl_X11_worthOf_b96 (X : Cx G p R s m args c cells slots cX11_worthOf 13 RX11 11) {r : Int32} {σ' : St} (hret : R_I G p l e R s m args below meth c cells slots Q cX11_worthOf r σ') {k26 : Nat → Int32 → Int32 → Int32 → Int32 → St → (Option (Int32 × St))}
    (hk26 : ∀ (v0 : Nat) (h0 : kd v0 = 10) (v1 : Int32) (v2 : Int32) (v3 : Int32) (v4 : Int32) (σ : St) (_ : k26 v0 v1 v2 v3 v4 σ = some (r, σ')) (H : Heap) (locs : List Loc) (ls : Array Slot) (_ : GW G σ s H locs) (_ : lv_has ls 13 [(0, .ref (gz G + (v0))), (1, .int (v1)), (2, .int (v2)), (3, .int (v3)), (4, .int (v4))]), W p l e R s m args below meth c H locs cells slots Q (F0 m 26 ls [])) :
    ∀ (v0 : Nat) (h0 : kd v0 = 10) (v1 : Int32) (v2 : Int32) (v3 : Int32) (v4 : Int32) (s0 : Nat) (hs0 : kd s0 = 12) (s1 : Int32) (s2 : Int64) (σ : St) (_ : pf_X11_worthOf_b96 k26 v0 v1 v2 v3 v4 s0 s1 s2 σ = some (r, σ')) (H : Heap) (locs : List Loc) (ls : Array Slot) (_ : GW G σ s H locs) (_ : lv_has ls 13 [(0, .ref (gz G + (v0))), (1, .int (v1)), (2, .int (v2)), (3, .int (v3)), (4, .int (v4))]), W p l e R s m args below meth c H locs cells slots Q (F0 m 96 ls [.long (s2), .int (s1), .ref (gz G + (s0))]) := by
  have hx := X.1.1
  have hb := X.1.2.1
  intro v0 h0 v1 v2 v3 v4 s0 hs0 s1 s2 σ h H locs ls hW hl
  unfold pf_X11_worthOf_b96 at h
  obtain ⟨hi1, h⟩ := ckI_el h
  refine r_last X hW hs0 hi1 dX11_worthOf_96 ?_
  clear hW; intro H locs hW
  refine nm_s hW h ?_
  clear hW h; intro σ_2 hW h
  refine w_iinc (v := 1) (lv' := fun y => [(3, .int (y)), (0, .ref (gz G + (v0))), (1, .int (v1)), (2, .int (v2)), (4, .int (v4))]) hx hb dX11_worthOf_97 hl (k := 3) rfl (by decide) (by decide) (fun _ => rfl) h ?_
  clear h hl; intro v3_3 h ls hl
  refine lv_goto (tgt := 224) hx hb dX11_worthOf_100 (by decide) ?_
  exact bl_X11_worthOf_b224 X hret hk26 v0 h0 v1 v2 v3_3 v4 σ_2 h _ _ _ hW (lv_sub hl [1, 2, 3, 0, 4] rfl)
set_option maxRecDepth 20000 in
set_option maxHeartbeats 4000000 in
theorem bl_X11_worthOf_b223 (X : Cx G p R s m args c cells slots cX11_worthOf 13 RX11 11) {r : Int32} {σ' : St} (hret : R_I G p l e R s m args below meth c cells slots Q cX11_worthOf r σ') {k26 : Nat → Int32 → Int32 → Int32 → Int32 → St → (Option (Int32 × St))}
    (hk26 : ∀ (v0 : Nat) (h0 : kd v0 = 10) (v1 : Int32) (v2 : Int32) (v3 : Int32) (v4 : Int32) (σ : St) (_ : k26 v0 v1 v2 v3 v4 σ = some (r, σ')) (H : Heap) (locs : List Loc) (ls : Array Slot) (_ : GW G σ s H locs) (_ : lv_has ls 13 [(0, .ref (gz G + (v0))), (1, .int (v1)), (2, .int (v2)), (3, .int (v3)), (4, .int (v4))]), W p l e R s m args below meth c H locs cells slots Q (F0 m 26 ls [])) :
    ∀ (v0 : Nat) (h0 : kd v0 = 10) (v1 : Int32) (v2 : Int32) (v3 : Int32) (v4 : Int32) (s0 : Nat) (hs0 : kd s0 = 12) (s1 : Int32) (s2 : Int64) (σ : St) (_ : pf_X11_worthOf_b223 k26 v0 v1 v2 v3 v4 s0 s1 s2 σ = some (r, σ')) (H : Heap) (locs : List Loc) (ls : Array Slot) (_ : GW G σ s H locs) (_ : lv_has ls 13 [(0, .ref (gz G + (v0))), (1, .int (v1)), (2, .int (v2)), (3, .int (v3)), (4, .int (v4))]), W p l e R s m args below meth c H locs cells slots Q (F0 m 223 ls [.long (s2), .int (s1), .ref (gz G + (s0))]) := by
  have hx := X.1.1
  have hb := X.1.2.1
  intro v0 h0 v1 v2 v3 v4 s0 hs0 s1 s2 σ h H locs ls hW hl
  unfold pf_X11_worthOf_b223 at h
  obtain ⟨hi1, h⟩ := ckI_el h
  refine r_last X hW hs0 hi1 dX11_worthOf_223 ?_
  clear hW; intro H locs hW
  refine nm_s hW h ?_
  clear hW h; intro σ_2 hW h
  exact bl_X11_worthOf_b224 X hret hk26 v0 h0 v1 v2 v3 v4 σ_2 h _ _ _ hW (lv_sub hl [0, 1, 2, 3, 4] rfl)
set_option maxRecDepth 20000 in
set_option maxHeartbeats 4000000 in
theorem bl_X11_worthOf_b182 (X : Cx G p R s m args c cells slots cX11_worthOf 13 RX11 11) {r : Int32} {σ' : St} (hret : R_I G p l e R s m args below meth c cells slots Q cX11_worthOf r σ') {k26 : Nat → Int32 → Int32 → Int32 → Int32 → St → (Option (Int32 × St))}
    (hk26 : ∀ (v0 : Nat) (h0 : kd v0 = 10) (v1 : Int32) (v2 : Int32) (v3 : Int32) (v4 : Int32) (σ : St) (_ : k26 v0 v1 v2 v3 v4 σ = some (r, σ')) (H : Heap) (locs : List Loc) (ls : Array Slot) (_ : GW G σ s H locs) (_ : lv_has ls 13 [(0, .ref (gz G + (v0))), (1, .int (v1)), (2, .int (v2)), (3, .int (v3)), (4, .int (v4))]), W p l e R s m args below meth c H locs cells slots Q (F0 m 26 ls [])) :
    ∀ (v0 : Nat) (h0 : kd v0 = 10) (v1 : Int32) (v2 : Int32) (v3 : Int32) (v4 : Int32) (s0 : Int64) (σ : St) (_ : pf_X11_worthOf_b182 k26 v0 v1 v2 v3 v4 s0 σ = some (r, σ')) (H : Heap) (locs : List Loc) (ls : Array Slot) (_ : GW G σ s H locs) (_ : lv_has ls 13 [(0, .ref (gz G + (v0))), (1, .int (v1)), (2, .int (v2)), (3, .int (v3)), (4, .int (v4))]), W p l e R s m args below meth c H locs cells slots Q (F0 m 182 ls [.long (s0)]) := by
  have hx := X.1.1
  have hb := X.1.2.1
  intro v0 h0 v1 v2 v3 v4 s0 σ h H locs ls hW hl
  unfold pf_X11_worthOf_b182 at h
  refine lv_lstore (lv' := [(11, .long (s0)), (0, .ref (gz G + (v0))), (1, .int (v1)), (2, .int (v2)), (3, .int (v3)), (4, .int (v4))]) hx hb dX11_worthOf_182 hl (by decide) rfl ?_
  clear hl; intro ls hl
  refine lv_aload_n hx hb dX11_worthOf_184 rfl (lv_at hl 1 rfl) ?_
  refine gf_X11_pile X hW h0 m_6_18 dX11_worthOf_185 ?_
  refine lv_iload_n hx hb dX11_worthOf_188 rfl (lv_at hl 4 rfl) ?_
  refine lv_iconst (v := 1) hx hb dX11_worthOf_189 (by decide) ?_
  refine lv_isub hx hb dX11_worthOf_190 ?_
  refine lv_lload hx hb dX11_worthOf_191 (lv_at hl 0 rfl) ?_
  refine lv_ldc2 (v := 1000000) hx hb X.1.2.2.2.1 (X.1.2.2.2.2 _ m_7_209) dX11_worthOf_193 ?_
  refine W.lcmp hx hb dX11_worthOf_196 ?_
  refine lv_if_le (tgt := 206) hx hb dX11_worthOf_197 (by decide) (fun hc => ?_) (fun hc => ?_)
  · replace h := if_t (lcmp_le.mp hc) h
    refine lv_lload hx hb dX11_worthOf_206 (lv_at hl 0 rfl) ?_
    refine lv_ldc2 (v := (-1000000)) hx hb X.1.2.2.2.1 (X.1.2.2.2.2 _ m_7_210) dX11_worthOf_208 ?_
    refine W.lcmp hx hb dX11_worthOf_211 ?_
    refine lv_if_ge (tgt := 221) hx hb dX11_worthOf_212 (by decide) (fun hc => ?_) (fun hc => ?_)
    · replace h := if_t (lcmp_ge.mp hc) h
      refine lv_lload hx hb dX11_worthOf_221 (lv_at hl 0 rfl) ?_
      exact bl_X11_worthOf_b223 X hret hk26 v0 h0 v1 v2 v3 v4 (v0 + 8) (kf_X11_pile h0) (v3 - 1) s0 σ h _ _ _ hW (lv_sub hl [1, 2, 3, 4, 5] rfl)
    · replace h := if_f (fun q => hc (lcmp_ge.mpr q)) h
      refine lv_ldc2 (v := (-1000000)) hx hb X.1.2.2.2.1 (X.1.2.2.2.2 _ m_7_210) dX11_worthOf_215 ?_
      refine lv_goto (tgt := 223) hx hb dX11_worthOf_218 (by decide) ?_
      exact bl_X11_worthOf_b223 X hret hk26 v0 h0 v1 v2 v3 v4 (v0 + 8) (kf_X11_pile h0) (v3 - 1) (-1000000) σ h _ _ _ hW (lv_sub hl [1, 2, 3, 4, 5] rfl)
  · replace h := if_f (fun q => hc (lcmp_le.mpr q)) h
    refine lv_ldc2 (v := 1000000) hx hb X.1.2.2.2.1 (X.1.2.2.2.2 _ m_7_209) dX11_worthOf_200 ?_
    refine lv_goto (tgt := 223) hx hb dX11_worthOf_203 (by decide) ?_
    exact bl_X11_worthOf_b223 X hret hk26 v0 h0 v1 v2 v3 v4 (v0 + 8) (kf_X11_pile h0) (v3 - 1) 1000000 σ h _ _ _ hW (lv_sub hl [1, 2, 3, 4, 5] rfl)
set_option maxRecDepth 20000 in
set_option maxHeartbeats 4000000 in
theorem bl_X11_worthOf_b230 (X : Cx G p R s m args c cells slots cX11_worthOf 13 RX11 11) {r : Int32} {σ' : St} (hret : R_I G p l e R s m args below meth c cells slots Q cX11_worthOf r σ') :
    ∀ (v0 : Nat) (h0 : kd v0 = 10) (σ : St) (_ : pf_X11_worthOf_b230 v0 σ = some (r, σ')) (H : Heap) (locs : List Loc) (ls : Array Slot) (_ : GW G σ s H locs) (_ : lv_has ls 13 [(0, .ref (gz G + (v0)))]), W p l e R s m args below meth c H locs cells slots Q (F0 m 230 ls []) := by
  have hx := X.1.1
  have hb := X.1.2.1
  intro v0 h0 σ h H locs ls hW hl
  unfold pf_X11_worthOf_b230 at h
  refine lv_aload_n hx hb dX11_worthOf_230 rfl (lv_at hl 0 rfl) ?_
  refine gf_X11_pile X hW h0 m_6_18 dX11_worthOf_231 ?_
  refine lv_iconst (v := 0) hx hb dX11_worthOf_234 (by decide) ?_
  obtain ⟨hi1, h⟩ := ckI_el h
  refine r_lald X hW (kf_X11_pile h0) hi1 dX11_worthOf_235 ?_
  refine lv_l2i hx hb dX11_worthOf_236 rfl ?_
  exact ri_end hret h dX11_worthOf_237 hW
set_option maxRecDepth 20000 in
set_option maxHeartbeats 4000000 in
theorem bl_X11_worthOf_L26 (X : Cx G p R s m args c cells slots cX11_worthOf 13 RX11 11) {r : Int32} {σ' : St} (hret : R_I G p l e R s m args below meth c cells slots Q cX11_worthOf r σ') {k230 : Nat → St → (Option (Int32 × St))}
    (hk230 : ∀ (v0 : Nat) (h0 : kd v0 = 10) (σ : St) (_ : k230 v0 σ = some (r, σ')) (H : Heap) (locs : List Loc) (ls : Array Slot) (_ : GW G σ s H locs) (_ : lv_has ls 13 [(0, .ref (gz G + (v0)))]), W p l e R s m args below meth c H locs cells slots Q (F0 m 230 ls [])) :
    ∀ (n : Nat), ∀ (v0 : Nat) (h0 : kd v0 = 10) (v1 : Int32) (v2 : Int32) (v3 : Int32) (v4 : Int32) (σ : St) (_ : pf_X11_worthOf_L26 k230 n v0 v1 v2 v3 v4 σ = some (r, σ')) (H : Heap) (locs : List Loc) (ls : Array Slot) (_ : GW G σ s H locs) (_ : lv_has ls 13 [(0, .ref (gz G + (v0))), (1, .int (v1)), (2, .int (v2)), (3, .int (v3)), (4, .int (v4))]), W p l e R s m args below meth c H locs cells slots Q (F0 m 26 ls []) := by
  have hx := X.1.1
  have hb := X.1.2.1
  intro n
  induction n with
  | zero => intro v0 h0 v1 v2 v3 v4 σ h H locs ls hW hl; cases h
  | succ n ih =>
    intro v0 h0 v1 v2 v3 v4 σ h H locs ls hW hl
    rw [pf_X11_worthOf_L26.eq_2] at h
    refine lv_iload hx hb dX11_worthOf_26 (lv_at hl 4 rfl) ?_
    refine lv_aload_n hx hb dX11_worthOf_28 rfl (lv_at hl 0 rfl) ?_
    refine lv_iconst (v := 3) hx hb dX11_worthOf_29 (by decide) ?_
    obtain ⟨r_1, hcl, h⟩ := bind_el h
    refine call_V1 X hW (kC_X11 h0) m_7_17 m_7_19 m_0_68 mv_X11_get (c_X11_get h0 hcl) (by decide) rfl rfl (Nat.le_of_ble_eq_true rfl) hl.1 dX11_worthOf_30 ?_
    clear hW hcl; intro H locs hW
    refine lv_icmp_ge (tgt := 230) hx hb dX11_worthOf_33 (by decide) (fun hc => ?_) (fun hc => ?_)
    · replace h := if_t hc h
      exact hk230 v0 h0 σ h _ _ _ hW (lv_sub hl [0] rfl)
    · replace h := if_f hc h
      refine lv_aload_n hx hb dX11_worthOf_36 rfl (lv_at hl 0 rfl) ?_
      refine lv_sipush (v := 1169) hx hb dX11_worthOf_37 (by decide) ?_
      refine lv_iconst (v := 2) hx hb dX11_worthOf_40 (by decide) ?_
      refine lv_iload hx hb dX11_worthOf_41 (lv_at hl 4 rfl) ?_
      refine lv_imul hx hb dX11_worthOf_43 ?_
      refine lv_iadd hx hb dX11_worthOf_44 ?_
      obtain ⟨r_2, hcl, h⟩ := bind_el h
      refine call_V1 X hW (kC_X11 h0) m_7_17 m_7_19 m_0_68 mv_X11_get (c_X11_get h0 hcl) (by decide) rfl rfl (Nat.le_of_ble_eq_true rfl) hl.1 dX11_worthOf_45 ?_
      clear hW hcl; intro H locs hW
      refine lv_istore (lv' := [(5, .int (r_2)), (0, .ref (gz G + (v0))), (1, .int (v1)), (2, .int (v2)), (3, .int (v3)), (4, .int (v4))]) hx hb dX11_worthOf_48 hl (by decide) rfl ?_
      clear hl; intro ls hl
      refine lv_aload_n hx hb dX11_worthOf_50 rfl (lv_at hl 1 rfl) ?_
      refine lv_sipush (v := 1169) hx hb dX11_worthOf_51 (by decide) ?_
      refine lv_iconst (v := 2) hx hb dX11_worthOf_54 (by decide) ?_
      refine lv_iload hx hb dX11_worthOf_55 (lv_at hl 5 rfl) ?_
      refine lv_imul hx hb dX11_worthOf_57 ?_
      refine lv_iadd hx hb dX11_worthOf_58 ?_
      refine lv_iconst (v := 1) hx hb dX11_worthOf_59 (by decide) ?_
      refine lv_iadd hx hb dX11_worthOf_60 ?_
      obtain ⟨r_3, hcl, h⟩ := bind_el h
      refine call_V1 X hW (kC_X11 h0) m_7_17 m_7_19 m_0_68 mv_X11_get (c_X11_get h0 hcl) (by decide) rfl rfl (Nat.le_of_ble_eq_true rfl) hl.1 dX11_worthOf_61 ?_
      clear hW hcl; intro H locs hW
      refine lv_istore (lv' := [(6, .int (r_3)), (5, .int (r_2)), (0, .ref (gz G + (v0))), (1, .int (v1)), (2, .int (v2)), (3, .int (v3)), (4, .int (v4))]) hx hb dX11_worthOf_64 hl (by decide) rfl ?_
      clear hl; intro ls hl
      refine lv_iload hx hb dX11_worthOf_66 (lv_at hl 1 rfl) ?_
      refine lv_iconst (v := 1) hx hb dX11_worthOf_68 (by decide) ?_
      refine lv_icmp_gt (tgt := 103) hx hb dX11_worthOf_69 (by decide) (fun hc => ?_) (fun hc => ?_)
      · replace h := if_t hc h
        refine w_iinc (v := (-1)) (lv' := fun y => [(3, .int (y)), (6, .int (r_3)), (5, .int (r_2)), (0, .ref (gz G + (v0))), (1, .int (v1)), (2, .int (v2)), (4, .int (v4))]) hx hb dX11_worthOf_103 hl (k := 5) rfl (by decide) (by decide) (fun _ => rfl) h ?_
        clear h hl; intro v3_4 h ls hl
        refine lv_aload_n hx hb dX11_worthOf_106 rfl (lv_at hl 3 rfl) ?_
        refine gf_X11_pile X hW h0 m_6_18 dX11_worthOf_107 ?_
        refine lv_iload_n hx hb dX11_worthOf_110 rfl (lv_at hl 0 rfl) ?_
        obtain ⟨hi5, h⟩ := ckI_el h
        refine r_lald X hW (kf_X11_pile h0) hi5 dX11_worthOf_111 ?_
        refine nm_l h ?_
        clear h; intro v7_6 h
        refine lv_lstore (lv' := [(7, .long (v7_6)), (3, .int (v3_4)), (6, .int (r_3)), (5, .int (r_2)), (0, .ref (gz G + (v0))), (1, .int (v1)), (2, .int (v2)), (4, .int (v4))]) hx hb dX11_worthOf_112 hl (by decide) rfl ?_
        clear hl; intro ls hl
        refine lv_aload_n hx hb dX11_worthOf_114 rfl (lv_at hl 4 rfl) ?_
        refine gf_X11_pile X hW h0 m_6_18 dX11_worthOf_115 ?_
        refine lv_iload_n hx hb dX11_worthOf_118 rfl (lv_at hl 1 rfl) ?_
        refine lv_iconst (v := 1) hx hb dX11_worthOf_119 (by decide) ?_
        refine lv_isub hx hb dX11_worthOf_120 ?_
        obtain ⟨hi7, h⟩ := ckI_el h
        refine r_lald X hW (kf_X11_pile h0) hi7 dX11_worthOf_121 ?_
        refine nm_l h ?_
        clear h; intro v9_8 h
        refine lv_lstore (lv' := [(9, .long (v9_8)), (7, .long (v7_6)), (3, .int (v3_4)), (6, .int (r_3)), (5, .int (r_2)), (0, .ref (gz G + (v0))), (1, .int (v1)), (2, .int (v2)), (4, .int (v4))]) hx hb dX11_worthOf_122 hl (by decide) rfl ?_
        clear hl; intro ls hl
        refine lv_iload hx hb dX11_worthOf_124 (lv_at hl 4 rfl) ?_
        refine lv_iconst (v := 2) hx hb dX11_worthOf_126 (by decide) ?_
        refine lv_icmp_ne (tgt := 138) hx hb dX11_worthOf_127 (by decide) (fun hc => ?_) (fun hc => ?_)
        · replace h := if_f hc h
          refine lv_iload hx hb dX11_worthOf_138 (lv_at hl 4 rfl) ?_
          refine lv_iconst (v := 3) hx hb dX11_worthOf_140 (by decide) ?_
          refine lv_icmp_ne (tgt := 152) hx hb dX11_worthOf_141 (by decide) (fun hc => ?_) (fun hc => ?_)
          · replace h := if_f hc h
            refine lv_iload hx hb dX11_worthOf_152 (lv_at hl 4 rfl) ?_
            refine lv_iconst (v := 4) hx hb dX11_worthOf_154 (by decide) ?_
            refine lv_icmp_ne (tgt := 166) hx hb dX11_worthOf_155 (by decide) (fun hc => ?_) (fun hc => ?_)
            · replace h := if_f hc h
              refine lv_lload hx hb dX11_worthOf_166 (lv_at hl 1 rfl) ?_
              refine lv_lconst (v := 0) hx hb dX11_worthOf_168 (by decide) ?_
              refine W.lcmp hx hb dX11_worthOf_169 ?_
              refine lv_if_ne (tgt := 177) hx hb dX11_worthOf_170 (by decide) (fun hc => ?_) (fun hc => ?_)
              · replace h := if_f (fun q => hc (lcmp_eq.mpr q)) h
                refine lv_lload hx hb dX11_worthOf_177 (lv_at hl 0 rfl) ?_
                refine lv_lload hx hb dX11_worthOf_179 (lv_at hl 1 rfl) ?_
                obtain ⟨hn, h⟩ := ckL_el h
                refine lv_ldiv hx hb dX11_worthOf_181 hn ?_
                exact bl_X11_worthOf_b182 X hret ih v0 h0 v1 v2 v3_4 v4 (v9_8 / v7_6) σ h _ _ _ hW (lv_sub hl [5, 6, 7, 2, 8] rfl)
              · replace h := if_t (lcmp_eq.mp hc) h
                refine lv_lconst (v := 0) hx hb dX11_worthOf_173 (by decide) ?_
                refine lv_goto (tgt := 182) hx hb dX11_worthOf_174 (by decide) ?_
                exact bl_X11_worthOf_b182 X hret ih v0 h0 v1 v2 v3_4 v4 0 σ h _ _ _ hW (lv_sub hl [5, 6, 7, 2, 8] rfl)
            · replace h := if_t hc h
              refine lv_lload hx hb dX11_worthOf_158 (lv_at hl 0 rfl) ?_
              refine lv_lload hx hb dX11_worthOf_160 (lv_at hl 1 rfl) ?_
              refine lv_lmul hx hb dX11_worthOf_162 ?_
              refine lv_goto (tgt := 182) hx hb dX11_worthOf_163 (by decide) ?_
              exact bl_X11_worthOf_b182 X hret ih v0 h0 v1 v2 v3_4 v4 (v9_8 * v7_6) σ h _ _ _ hW (lv_sub hl [5, 6, 7, 2, 8] rfl)
          · replace h := if_t hc h
            refine lv_lload hx hb dX11_worthOf_144 (lv_at hl 0 rfl) ?_
            refine lv_lload hx hb dX11_worthOf_146 (lv_at hl 1 rfl) ?_
            refine lv_lsub hx hb dX11_worthOf_148 ?_
            refine lv_goto (tgt := 182) hx hb dX11_worthOf_149 (by decide) ?_
            exact bl_X11_worthOf_b182 X hret ih v0 h0 v1 v2 v3_4 v4 (v9_8 - v7_6) σ h _ _ _ hW (lv_sub hl [5, 6, 7, 2, 8] rfl)
        · replace h := if_t hc h
          refine lv_lload hx hb dX11_worthOf_130 (lv_at hl 0 rfl) ?_
          refine lv_lload hx hb dX11_worthOf_132 (lv_at hl 1 rfl) ?_
          refine lv_ladd hx hb dX11_worthOf_134 ?_
          refine lv_goto (tgt := 182) hx hb dX11_worthOf_135 (by decide) ?_
          exact bl_X11_worthOf_b182 X hret ih v0 h0 v1 v2 v3_4 v4 (v9_8 + v7_6) σ h _ _ _ hW (lv_sub hl [5, 6, 7, 2, 8] rfl)
      · replace h := if_f hc h
        refine lv_aload_n hx hb dX11_worthOf_72 rfl (lv_at hl 2 rfl) ?_
        refine gf_X11_pile X hW h0 m_6_18 dX11_worthOf_73 ?_
        refine lv_iload_n hx hb dX11_worthOf_76 rfl (lv_at hl 5 rfl) ?_
        refine lv_iload hx hb dX11_worthOf_77 (lv_at hl 1 rfl) ?_
        refine lv_if_ne (tgt := 88) hx hb dX11_worthOf_79 (by decide) (fun hc => ?_) (fun hc => ?_)
        · replace h := if_f hc h
          refine lv_aload_n hx hb dX11_worthOf_88 rfl (lv_at hl 2 rfl) ?_
          refine lv_iload_n hx hb dX11_worthOf_89 rfl (lv_at hl 3 rfl) ?_
          refine lv_iload hx hb dX11_worthOf_90 (lv_at hl 0 rfl) ?_
          refine lv_iload_n hx hb dX11_worthOf_92 rfl (lv_at hl 4 rfl) ?_
          obtain ⟨r_9, hcl, h⟩ := bind_el h
          refine call_V1 X hW (kC_X11 h0) m_7_200 m_7_202 m_0_97 mv_X11_factOf (c_X11_factOf h0 hcl) (by decide) rfl rfl (Nat.le_of_ble_eq_true rfl) hl.1 dX11_worthOf_93 ?_
          clear hW hcl; intro H locs hW
          exact bl_X11_worthOf_b96 X hret ih v0 h0 v1 v2 v3 v4 (v0 + 8) (kf_X11_pile h0) v3 r_9 σ h _ _ _ hW (lv_sub hl [2, 3, 4, 5, 6] rfl)
        · replace h := if_t hc h
          refine lv_iload hx hb dX11_worthOf_82 (lv_at hl 0 rfl) ?_
          refine lv_i2l hx hb dX11_worthOf_84 rfl ?_
          refine lv_goto (tgt := 96) hx hb dX11_worthOf_85 (by decide) ?_
          exact bl_X11_worthOf_b96 X hret ih v0 h0 v1 v2 v3 v4 (v0 + 8) (kf_X11_pile h0) v3 ((r_3).toInt64) σ h _ _ _ hW (lv_sub hl [2, 3, 4, 5, 6] rfl)
set_option maxRecDepth 20000 in
set_option maxHeartbeats 4000000 in
theorem c_X11_worthOf {G : Gt} {l : Launch} {v0 : Nat} (h0 : kd v0 = 10) {v1 : Int32} {σ : St} {r : Int32} {σ' : St} (hf : pf_X11_worthOf v0 v1 σ = some (r, σ')) : Ct G l yX11_worthOf cX11_worthOf 13 (some .int) 11 [.ref (gz G + (v0)), .int (v1)] σ (some (.int r)) σ' := by
  refine met_i (by decide +kernel) (Nat.le_of_ble_eq_true rfl) rfl ?_
  intro p e s m args below meth c Q ls X hW hret hl
  have hx := X.1.1
  have hb := X.1.2.1
  have hl : lv_has ls 13 [(0, .ref (gz G + (v0))), (1, .int (v1))] := hl
  have h := hf
  clear hf
  unfold pf_X11_worthOf at h
  refine lv_aload_n hx hb dX11_worthOf_0 rfl (lv_at hl 0 rfl) ?_
  refine lv_iconst (v := 3) hx hb dX11_worthOf_1 (by decide) ?_
  obtain ⟨r_1, hcl, h⟩ := bind_el h
  refine call_V1 X hW (kC_X11 h0) m_7_17 m_7_19 m_0_68 mv_X11_get (c_X11_get h0 hcl) (by decide) rfl rfl (Nat.le_of_ble_eq_true rfl) hl.1 dX11_worthOf_2 ?_
  clear hW hcl; intro H locs hW
  refine lv_if_ne (tgt := 15) hx hb dX11_worthOf_5 (by decide) (fun hc => ?_) (fun hc => ?_)
  · replace h := if_f hc h
    refine lv_aload_n hx hb dX11_worthOf_15 rfl (lv_at hl 0 rfl) ?_
    refine lv_iload_n hx hb dX11_worthOf_16 rfl (lv_at hl 1 rfl) ?_
    obtain ⟨r_3, σ_3, hcl, h⟩ := bnd2_el h
    refine call_V1 X hW (kC_X11 h0) m_7_164 m_7_166 m_0_93 mv_X11_hasPlan (c_X11_hasPlan h0 hcl) (by decide) rfl rfl (Nat.le_of_ble_eq_true rfl) hl.1 dX11_worthOf_17 ?_
    clear hW hcl; intro H locs hW
    refine lv_istore_n (lv' := [(2, .int (r_3)), (0, .ref (gz G + (v0))), (1, .int (v1))]) hx hb dX11_worthOf_20 rfl hl (by decide) rfl ?_
    clear hl; intro ls hl
    refine lv_iconst (v := 0) hx hb dX11_worthOf_21 (by decide) ?_
    refine lv_istore_n (lv' := [(3, .int (0)), (2, .int (r_3)), (0, .ref (gz G + (v0))), (1, .int (v1))]) hx hb dX11_worthOf_22 rfl hl (by decide) rfl ?_
    clear hl; intro ls hl
    refine lv_iconst (v := 0) hx hb dX11_worthOf_23 (by decide) ?_
    refine lv_istore (lv' := [(4, .int (0)), (3, .int (0)), (2, .int (r_3)), (0, .ref (gz G + (v0))), (1, .int (v1))]) hx hb dX11_worthOf_24 hl (by decide) rfl ?_
    clear hl; intro ls hl
    exact bl_X11_worthOf_L26 X hret (bl_X11_worthOf_b230 X hret) FU v0 h0 v1 r_3 0 0 σ_3 h _ _ _ hW (lv_sub hl [3, 4, 2, 1, 0] rfl)
  · replace h := if_t hc h
    refine lv_aload_n hx hb dX11_worthOf_8 rfl (lv_at hl 0 rfl) ?_
    refine lv_iload_n hx hb dX11_worthOf_9 rfl (lv_at hl 1 rfl) ?_
    refine lv_iconst (v := 3) hx hb dX11_worthOf_10 (by decide) ?_
    obtain ⟨r_2, hcl, h⟩ := bind_el h
    refine call_V1 X hW (kC_X11 h0) m_7_42 m_7_44 m_0_73 mv_X11_ofQuest (c_X11_ofQuest h0 hcl) (by decide) rfl rfl (Nat.le_of_ble_eq_true rfl) hl.1 dX11_worthOf_11 ?_
    clear hW hcl; intro H locs hW
    exact ri_end hret h dX11_worthOf_14 hW
set_option maxRecDepth 20000 in
set_option maxHeartbeats 4000000 in
theorem bl_X11_four_L3 (X : Cx G p R s m args c cells slots cX11_four 3 RX11 2) {σ' : St} (hret : R_V G p l e R s m args below meth c cells slots Q cX11_four σ') :
    ∀ (n : Nat), ∀ (v0 : Nat) (h0 : kd v0 = 10) (v1 : Int32) (v2 : Int32) (σ : St) (_ : pf_X11_four_L3 n v0 v1 v2 σ = some σ') (H : Heap) (locs : List Loc) (ls : Array Slot) (_ : GW G σ s H locs) (_ : lv_has ls 3 [(0, .ref (gz G + (v0))), (1, .int (v1)), (2, .int (v2))]), W p l e R s m args below meth c H locs cells slots Q (F0 m 3 ls []) := by
  have hx := X.1.1
  have hb := X.1.2.1
  intro n
  induction n with
  | zero => intro v0 h0 v1 v2 σ h H locs ls hW hl; cases h
  | succ n ih =>
    intro v0 h0 v1 v2 σ h H locs ls hW hl
    rw [pf_X11_four_L3.eq_2] at h
    refine lv_iload_n hx hb dX11_four_3 rfl (lv_at hl 2 rfl) ?_
    refine lv_if_lt (tgt := 39) hx hb dX11_four_4 (by decide) (fun hc => ?_) (fun hc => ?_)
    · replace h := if_t hc h
      exact rv_end hret h dX11_four_39 hW
    · replace h := if_f hc h
      refine lv_aload_n hx hb dX11_four_7 rfl (lv_at hl 0 rfl) ?_
      refine gf_X11_text X hW h0 m_6_19 dX11_four_8 ?_
      refine lv_aload_n hx hb dX11_four_11 rfl (lv_at hl 0 rfl) ?_
      refine gf_X11_fed X hW h0 m_6_20 dX11_four_12 ?_
      refine lv_iload_n hx hb dX11_four_15 rfl (lv_at hl 1 rfl) ?_
      refine lv_iload_n hx hb dX11_four_16 rfl (lv_at hl 2 rfl) ?_
      refine w_ishr hx hb dX11_four_17 ?_
      refine lv_sipush (v := 255) hx hb dX11_four_18 (by decide) ?_
      refine lv_iand hx hb dX11_four_21 ?_
      obtain ⟨hi1, h⟩ := ckI_el h
      refine r_iast X hW (kf_X11_text h0) hi1 dX11_four_22 ?_
      clear hW; intro H locs hW
      refine nm_s hW h ?_
      clear hW h; intro σ_2 hW h
      refine lv_aload_n hx hb dX11_four_23 rfl (lv_at hl 0 rfl) ?_
      refine lv_dup hx hb dX11_four_24 rfl ?_
      refine gf_X11_fed X hW h0 m_6_20 dX11_four_25 ?_
      refine lv_iconst (v := 1) hx hb dX11_four_28 (by decide) ?_
      refine lv_iadd hx hb dX11_four_29 ?_
      refine sf_X11_fed X hW h0 m_6_20 dX11_four_30 ?_
      clear hW; intro H locs hW
      refine nm_s hW h ?_
      clear hW h; intro σ_3 hW h
      refine w_iinc (v := (-8)) (lv' := fun y => [(2, .int (y)), (0, .ref (gz G + (v0))), (1, .int (v1))]) hx hb dX11_four_33 hl (k := 2) rfl (by decide) (by decide) (fun _ => rfl) h ?_
      clear h hl; intro v2_4 h ls hl
      refine lv_goto (tgt := 3) hx hb dX11_four_36 (by decide) ?_
      exact ih v0 h0 v1 v2_4 σ_3 h _ _ _ hW (lv_sub hl [1, 2, 0] rfl)
set_option maxRecDepth 20000 in
set_option maxHeartbeats 4000000 in
theorem c_X11_four {G : Gt} {l : Launch} {v0 : Nat} (h0 : kd v0 = 10) {v1 : Int32} {σ : St} {σ' : St} (hf : pf_X11_four v0 v1 σ = some σ') : Ct G l yX11_four cX11_four 3 none 2 [.ref (gz G + (v0)), .int (v1)] σ none σ' := by
  refine met_v (by decide +kernel) (Nat.le_of_ble_eq_true rfl) rfl ?_
  intro p e s m args below meth c Q ls X hW hret hl
  have hx := X.1.1
  have hb := X.1.2.1
  have hl : lv_has ls 3 [(0, .ref (gz G + (v0))), (1, .int (v1))] := hl
  have h := hf
  clear hf
  unfold pf_X11_four at h
  refine lv_bipush (v := 24) hx hb dX11_four_0 (by decide) ?_
  refine lv_istore_n (lv' := [(2, .int (24)), (0, .ref (gz G + (v0))), (1, .int (v1))]) hx hb dX11_four_2 rfl hl (by decide) rfl ?_
  clear hl; intro ls hl
  exact bl_X11_four_L3 X hret FU v0 h0 v1 24 σ h _ _ _ hW (lv_sub hl [1, 2, 0] rfl)
end
