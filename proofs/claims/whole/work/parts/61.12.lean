section
variable {G : Gt} {p : Program} {l : Launch} {e : Env} {R : Room} {s : State} {m : MethodId} {args : Array Value} {below : List Frame} {meth : Method} {c : Code} {cells slots : Nat} {Q : State → Prop}
set_option maxRecDepth 20000 in
set_option maxHeartbeats 4000000 in
theorem bl_X11_readsQuest_b158 (X : Cx G p R s m args c cells slots cX11_readsQuest 4 RX11 43) {r : Int32} {σ' : St} (hret : R_Z G p l e R s m args below meth c cells slots Q cX11_readsQuest r σ') :
    ∀ (v0 : Nat) (h0 : kd v0 = 10) (v3 : Int32) (σ : St) (_ : pf_X11_readsQuest_b158 v0 v3 σ = some (r, σ')) (H : Heap) (locs : List Loc) (ls : Array Slot) (_ : GW G σ s H locs) (_ : lv_has ls 4 [(0, .ref (gz G + (v0))), (3, .int (v3))]), W p l e R s m args below meth c H locs cells slots Q (F0 m 158 ls []) := by
  have hx := X.1.1
  have hb := X.1.2.1
  intro v0 h0 v3 σ h H locs ls hW hl
  unfold pf_X11_readsQuest_b158 at h
  refine lv_aload_n hx hb dX11_readsQuest_158 rfl (lv_at hl 0 rfl) ?_
  refine lv_bipush (v := (-2)) hx hb dX11_readsQuest_159 (by decide) ?_
  refine lv_iload_n hx hb dX11_readsQuest_161 rfl (lv_at hl 1 rfl) ?_
  obtain ⟨r_1, σ_1, hcl, h⟩ := bnd2_el h
  refine call_V1 X hW (kC_X11 h0) m_6_134 m_6_136 m_0_43 mv_X11_fails (c_X11_fails h0 hcl) (by decide) rfl rfl (Nat.le_of_ble_eq_true rfl) hl.1 dX11_readsQuest_162 ?_
  clear hW hcl; intro H locs hW
  obtain ⟨hz, h⟩ := ckZ_el h
  exact rz_end hret h hz dX11_readsQuest_165 hW
set_option maxRecDepth 20000 in
set_option maxHeartbeats 4000000 in
theorem bl_X11_readsQuest_b141 (X : Cx G p R s m args c cells slots cX11_readsQuest 4 RX11 43) {r : Int32} {σ' : St} (hret : R_Z G p l e R s m args below meth c cells slots Q cX11_readsQuest r σ') :
    ∀ (v0 : Nat) (h0 : kd v0 = 10) (v2 : Int32) (v3 : Int32) (σ : St) (_ : pf_X11_readsQuest_b141 v0 v2 v3 σ = some (r, σ')) (H : Heap) (locs : List Loc) (ls : Array Slot) (_ : GW G σ s H locs) (_ : lv_has ls 4 [(0, .ref (gz G + (v0))), (2, .int (v2)), (3, .int (v3))]), W p l e R s m args below meth c H locs cells slots Q (F0 m 141 ls []) := by
  have hx := X.1.1
  have hb := X.1.2.1
  intro v0 h0 v2 v3 σ h H locs ls hW hl
  unfold pf_X11_readsQuest_b141 at h
  refine lv_aload_n hx hb dX11_readsQuest_141 rfl (lv_at hl 0 rfl) ?_
  refine gf_X11_stepsRead X hW h0 m_6_28 dX11_readsQuest_142 ?_
  refine lv_if_eq (tgt := 158) hx hb dX11_readsQuest_145 (by decide) (fun hc => ?_) (fun hc => ?_)
  · replace h := if_t hc h
    exact bl_X11_readsQuest_b158 X hret v0 h0 v3 σ h _ _ _ hW (lv_sub hl [0, 2] rfl)
  · replace h := if_f hc h
    refine lv_aload_n hx hb dX11_readsQuest_148 rfl (lv_at hl 0 rfl) ?_
    refine r_ldcSW (k := 44) X hW (by decide) rfl rfl dX11_readsQuest_149 ?_
    obtain ⟨r_1, σ_1, hcl, h⟩ := bnd2_el h
    refine call_V1 X hW (kC_X11 h0) m_6_121 m_6_123 m_0_41 mv_X11_takes (c_X11_takes h0 (by decide) hcl) (by decide) rfl rfl (Nat.le_of_ble_eq_true rfl) hl.1 dX11_readsQuest_152 ?_
    clear hW hcl; intro H locs hW
    refine lv_if_ne (tgt := 166) hx hb dX11_readsQuest_155 (by decide) (fun hc => ?_) (fun hc => ?_)
    · replace h := if_f hc h
      refine lv_aload_n hx hb dX11_readsQuest_166 rfl (lv_at hl 0 rfl) ?_
      refine gf_X11_read X hW h0 m_6_8 dX11_readsQuest_167 ?_
      refine lv_iload_n hx hb dX11_readsQuest_170 rfl (lv_at hl 1 rfl) ?_
      refine lv_iconst (v := 0) hx hb dX11_readsQuest_171 (by decide) ?_
      refine lv_iadd hx hb dX11_readsQuest_172 ?_
      refine lv_aload_n hx hb dX11_readsQuest_173 rfl (lv_at hl 0 rfl) ?_
      refine gf_X11_stepsRead X hW h0 m_6_28 dX11_readsQuest_174 ?_
      obtain ⟨hi2, h⟩ := ckI_el h
      refine r_iast X hW (kf_X11_read h0) hi2 dX11_readsQuest_177 ?_
      clear hW; intro H locs hW
      refine nm_s hW h ?_
      clear hW h; intro σ_3 hW h
      refine lv_aload_n hx hb dX11_readsQuest_178 rfl (lv_at hl 0 rfl) ?_
      refine gf_X11_read X hW h0 m_6_8 dX11_readsQuest_179 ?_
      refine lv_iload_n hx hb dX11_readsQuest_182 rfl (lv_at hl 1 rfl) ?_
      refine lv_iconst (v := 4) hx hb dX11_readsQuest_183 (by decide) ?_
      refine lv_iadd hx hb dX11_readsQuest_184 ?_
      refine lv_aload_n hx hb dX11_readsQuest_185 rfl (lv_at hl 0 rfl) ?_
      refine gf_X11_read X hW h0 m_6_8 dX11_readsQuest_186 ?_
      refine lv_iconst (v := 4) hx hb dX11_readsQuest_189 (by decide) ?_
      obtain ⟨hi4, h⟩ := ckI_el h
      refine r_iald X hW (kf_X11_read h0) hi4 dX11_readsQuest_190 ?_
      obtain ⟨hi5, h⟩ := ckI_el h
      refine r_iast X hW (kf_X11_read h0) hi5 dX11_readsQuest_191 ?_
      clear hW; intro H locs hW
      refine nm_s hW h ?_
      clear hW h; intro σ_6 hW h
      refine lv_aload_n hx hb dX11_readsQuest_192 rfl (lv_at hl 0 rfl) ?_
      refine lv_iconst (v := 0) hx hb dX11_readsQuest_193 (by decide) ?_
      refine sf_X11_nested X hW h0 m_6_27 dX11_readsQuest_194 ?_
      clear hW; intro H locs hW
      refine nm_s hW h ?_
      clear hW h; intro σ_7 hW h
      refine lv_aload_n hx hb dX11_readsQuest_197 rfl (lv_at hl 0 rfl) ?_
      obtain ⟨r_8, σ_8, hcl, h⟩ := bnd2_el h
      refine call_V1 X hW (kC_X11 h0) m_6_191 m_6_193 m_0_54 mv_X11_readsGoal (c_X11_readsGoal 8 h0 hcl) (by decide) rfl rfl (Nat.le_of_ble_eq_true rfl) hl.1 dX11_readsQuest_198 ?_
      clear hW hcl; intro H locs hW
      refine lv_if_ne (tgt := 206) hx hb dX11_readsQuest_201 (by decide) (fun hc => ?_) (fun hc => ?_)
      · replace h := if_f hc h
        refine lv_aload_n hx hb dX11_readsQuest_206 rfl (lv_at hl 0 rfl) ?_
        refine gf_X11_read X hW h0 m_6_8 dX11_readsQuest_207 ?_
        refine lv_iload_n hx hb dX11_readsQuest_210 rfl (lv_at hl 1 rfl) ?_
        refine lv_iconst (v := 5) hx hb dX11_readsQuest_211 (by decide) ?_
        refine lv_iadd hx hb dX11_readsQuest_212 ?_
        refine lv_aload_n hx hb dX11_readsQuest_213 rfl (lv_at hl 0 rfl) ?_
        refine gf_X11_read X hW h0 m_6_8 dX11_readsQuest_214 ?_
        refine lv_iconst (v := 4) hx hb dX11_readsQuest_217 (by decide) ?_
        obtain ⟨hi9, h⟩ := ckI_el h
        refine r_iald X hW (kf_X11_read h0) hi9 dX11_readsQuest_218 ?_
        obtain ⟨hi10, h⟩ := ckI_el h
        refine r_iast X hW (kf_X11_read h0) hi10 dX11_readsQuest_219 ?_
        clear hW; intro H locs hW
        refine nm_s hW h ?_
        clear hW h; intro σ_11 hW h
        refine lv_aload_n hx hb dX11_readsQuest_220 rfl (lv_at hl 0 rfl) ?_
        refine gf_X11_read X hW h0 m_6_8 dX11_readsQuest_221 ?_
        refine lv_iconst (v := 0) hx hb dX11_readsQuest_224 (by decide) ?_
        refine lv_dup2_11 hx hb dX11_readsQuest_225 rfl rfl ?_
        obtain ⟨hi12, h⟩ := ckI_el h
        refine r_iald X hW (kf_X11_read h0) hi12 dX11_readsQuest_226 ?_
        refine lv_iconst (v := 1) hx hb dX11_readsQuest_227 (by decide) ?_
        refine lv_iadd hx hb dX11_readsQuest_228 ?_
        obtain ⟨hi13, h⟩ := ckI_el h
        refine r_iast X hW (kf_X11_read h0) hi13 dX11_readsQuest_229 ?_
        clear hW; intro H locs hW
        refine nm_s hW h ?_
        clear hW h; intro σ_14 hW h
        refine lv_iconst (v := 1) hx hb dX11_readsQuest_230 (by decide) ?_
        exact rz_end hret h (by decide) dX11_readsQuest_231 hW
      · replace h := if_t hc h
        refine lv_iconst (v := 0) hx hb dX11_readsQuest_204 (by decide) ?_
        exact rz_end hret h (by decide) dX11_readsQuest_205 hW
    · replace h := if_t hc h
      exact bl_X11_readsQuest_b158 X hret v0 h0 v3 σ_1 h _ _ _ hW (lv_sub hl [0, 2] rfl)
set_option maxRecDepth 20000 in
set_option maxHeartbeats 4000000 in
theorem bl_X11_readsQuest_L107 (X : Cx G p R s m args c cells slots cX11_readsQuest 4 RX11 43) {r : Int32} {σ' : St} (hret : R_Z G p l e R s m args below meth c cells slots Q cX11_readsQuest r σ') {k141 : Nat → Int32 → Int32 → St → (Option (Int32 × St))}
    (hk141 : ∀ (v0 : Nat) (h0 : kd v0 = 10) (v2 : Int32) (v3 : Int32) (σ : St) (_ : k141 v0 v2 v3 σ = some (r, σ')) (H : Heap) (locs : List Loc) (ls : Array Slot) (_ : GW G σ s H locs) (_ : lv_has ls 4 [(0, .ref (gz G + (v0))), (2, .int (v2)), (3, .int (v3))]), W p l e R s m args below meth c H locs cells slots Q (F0 m 141 ls [])) :
    ∀ (n : Nat), ∀ (v0 : Nat) (h0 : kd v0 = 10) (v2 : Int32) (v3 : Int32) (σ : St) (_ : pf_X11_readsQuest_L107 k141 n v0 v2 v3 σ = some (r, σ')) (H : Heap) (locs : List Loc) (ls : Array Slot) (_ : GW G σ s H locs) (_ : lv_has ls 4 [(0, .ref (gz G + (v0))), (2, .int (v2)), (3, .int (v3))]), W p l e R s m args below meth c H locs cells slots Q (F0 m 107 ls []) := by
  have hx := X.1.1
  have hb := X.1.2.1
  intro n
  induction n with
  | zero => intro v0 h0 v2 v3 σ h H locs ls hW hl; cases h
  | succ n ih =>
    intro v0 h0 v2 v3 σ h H locs ls hW hl
    rw [pf_X11_readsQuest_L107.eq_2] at h
    refine lv_aload_n hx hb dX11_readsQuest_107 rfl (lv_at hl 0 rfl) ?_
    refine r_ldcSW (k := 43) X hW (by decide) rfl rfl dX11_readsQuest_108 ?_
    obtain ⟨r_1, σ_1, hcl, h⟩ := bnd2_el h
    refine call_V1 X hW (kC_X11 h0) m_6_121 m_6_123 m_0_41 mv_X11_takes (c_X11_takes h0 (by decide) hcl) (by decide) rfl rfl (Nat.le_of_ble_eq_true rfl) hl.1 dX11_readsQuest_111 ?_
    clear hW hcl; intro H locs hW
    refine lv_if_eq (tgt := 141) hx hb dX11_readsQuest_114 (by decide) (fun hc => ?_) (fun hc => ?_)
    · replace h := if_t hc h
      exact hk141 v0 h0 v2 v3 σ_1 h _ _ _ hW (lv_sub hl [0, 1, 2] rfl)
    · replace h := if_f hc h
      refine lv_aload_n hx hb dX11_readsQuest_117 rfl (lv_at hl 0 rfl) ?_
      refine lv_iload_n hx hb dX11_readsQuest_118 rfl (lv_at hl 1 rfl) ?_
      refine lv_iload_n hx hb dX11_readsQuest_119 rfl (lv_at hl 2 rfl) ?_
      obtain ⟨r_2, σ_2, hcl, h⟩ := bnd2_el h
      refine call_V1 X hW (kC_X11 h0) m_6_169 m_6_171 m_0_50 mv_X11_readsStep (c_X11_readsStep h0 hcl) (by decide) rfl rfl (Nat.le_of_ble_eq_true rfl) hl.1 dX11_readsQuest_120 ?_
      clear hW hcl; intro H locs hW
      refine lv_if_ne (tgt := 128) hx hb dX11_readsQuest_123 (by decide) (fun hc => ?_) (fun hc => ?_)
      · replace h := if_f hc h
        refine lv_aload_n hx hb dX11_readsQuest_128 rfl (lv_at hl 0 rfl) ?_
        obtain ⟨r_3, σ_3, hcl, h⟩ := bnd2_el h
        refine call_V1 X hW (kC_X11 h0) m_6_125 m_6_127 m_0_42 mv_X11_here (c_X11_here h0 hcl) (by decide) rfl rfl (Nat.le_of_ble_eq_true rfl) hl.1 dX11_readsQuest_129 ?_
        clear hW hcl; intro H locs hW
        refine lv_pop hx hb dX11_readsQuest_132 rfl ?_
        refine lv_aload_n hx hb dX11_readsQuest_133 rfl (lv_at hl 0 rfl) ?_
        refine gf_X11_at X hW h0 m_6_22 dX11_readsQuest_134 ?_
        refine nm_i h ?_
        clear h; intro v3_4 h
        refine lv_istore_n (lv' := [(3, .int (v3_4)), (0, .ref (gz G + (v0))), (2, .int (v2))]) hx hb dX11_readsQuest_137 rfl hl (by decide) rfl ?_
        clear hl; intro ls hl
        refine lv_goto (tgt := 107) hx hb dX11_readsQuest_138 (by decide) ?_
        exact ih v0 h0 v2 v3_4 σ_3 h _ _ _ hW (lv_sub hl [1, 2, 0] rfl)
      · replace h := if_t hc h
        refine lv_iconst (v := 0) hx hb dX11_readsQuest_126 (by decide) ?_
        exact rz_end hret h (by decide) dX11_readsQuest_127 hW
set_option maxRecDepth 20000 in
set_option maxHeartbeats 4000000 in
theorem c_X11_readsQuest {G : Gt} {l : Launch} {v0 : Nat} (h0 : kd v0 = 10) {v1 : Int32} {σ : St} {r : Int32} {σ' : St} (hf : pf_X11_readsQuest v0 v1 σ = some (r, σ')) : Ct G l yX11_readsQuest cX11_readsQuest 4 (some .boolean) 43 [.ref (gz G + (v0)), .int (v1)] σ (some (.int r)) σ' := by
  refine met_z (by decide +kernel) (Nat.le_of_ble_eq_true rfl) rfl ?_
  intro p e s m args below meth c Q ls X hW hret hl
  have hx := X.1.1
  have hb := X.1.2.1
  have hl : lv_has ls 4 [(0, .ref (gz G + (v0))), (1, .int (v1))] := hl
  have h := hf
  clear hf
  unfold pf_X11_readsQuest at h
  refine lv_aload_n hx hb dX11_readsQuest_0 rfl (lv_at hl 0 rfl) ?_
  refine gf_X11_read X hW h0 m_6_8 dX11_readsQuest_1 ?_
  refine lv_iconst (v := 0) hx hb dX11_readsQuest_4 (by decide) ?_
  obtain ⟨hi1, h⟩ := ckI_el h
  refine r_iald X hW (kf_X11_read h0) hi1 dX11_readsQuest_5 ?_
  refine lv_bipush (v := 6) hx hb dX11_readsQuest_6 (by decide) ?_
  refine lv_icmp_ne (tgt := 19) hx hb dX11_readsQuest_8 (by decide) (fun hc => ?_) (fun hc => ?_)
  · replace h := if_f hc h
    refine lv_bipush (v := 53) hx hb dX11_readsQuest_19 (by decide) ?_
    refine lv_sipush (v := 186) hx hb dX11_readsQuest_21 (by decide) ?_
    refine lv_aload_n hx hb dX11_readsQuest_24 rfl (lv_at hl 0 rfl) ?_
    refine gf_X11_read X hW h0 m_6_8 dX11_readsQuest_25 ?_
    refine lv_iconst (v := 0) hx hb dX11_readsQuest_28 (by decide) ?_
    obtain ⟨hi3, h⟩ := ckI_el h
    refine r_iald X hW (kf_X11_read h0) hi3 dX11_readsQuest_29 ?_
    refine lv_imul hx hb dX11_readsQuest_30 ?_
    refine lv_iadd hx hb dX11_readsQuest_31 ?_
    refine nm_i h ?_
    clear h; intro v2_4 h
    refine lv_istore_n (lv' := [(2, .int (v2_4)), (0, .ref (gz G + (v0))), (1, .int (v1))]) hx hb dX11_readsQuest_32 rfl hl (by decide) rfl ?_
    clear hl; intro ls hl
    refine lv_aload_n hx hb dX11_readsQuest_33 rfl (lv_at hl 1 rfl) ?_
    refine lv_iconst (v := 0) hx hb dX11_readsQuest_34 (by decide) ?_
    refine lv_bipush (v := 7) hx hb dX11_readsQuest_35 (by decide) ?_
    obtain ⟨r_5, σ_5, hcl, h⟩ := bnd2_el h
    refine call_V1 X hW (kC_X11 h0) m_6_147 m_6_149 m_0_46 mv_X11_reads (c_X11_reads h0 hcl) (by decide) rfl rfl (Nat.le_of_ble_eq_true rfl) hl.1 dX11_readsQuest_37 ?_
    clear hW hcl; intro H locs hW
    refine lv_if_ne (tgt := 45) hx hb dX11_readsQuest_40 (by decide) (fun hc => ?_) (fun hc => ?_)
    · replace h := if_f hc h
      refine lv_aload_n hx hb dX11_readsQuest_45 rfl (lv_at hl 1 rfl) ?_
      refine gf_X11_read X hW h0 m_6_8 dX11_readsQuest_46 ?_
      refine lv_iload_n hx hb dX11_readsQuest_49 rfl (lv_at hl 0 rfl) ?_
      refine lv_iconst (v := 2) hx hb dX11_readsQuest_50 (by decide) ?_
      refine lv_iadd hx hb dX11_readsQuest_51 ?_
      refine lv_aload_n hx hb dX11_readsQuest_52 rfl (lv_at hl 1 rfl) ?_
      refine gf_X11_number X hW h0 m_6_25 dX11_readsQuest_53 ?_
      obtain ⟨hi6, h⟩ := ckI_el h
      refine r_iast X hW (kf_X11_read h0) hi6 dX11_readsQuest_56 ?_
      clear hW; intro H locs hW
      refine nm_s hW h ?_
      clear hW h; intro σ_7 hW h
      refine lv_aload_n hx hb dX11_readsQuest_57 rfl (lv_at hl 1 rfl) ?_
      refine lv_iconst (v := 0) hx hb dX11_readsQuest_58 (by decide) ?_
      refine lv_bipush (v := 99) hx hb dX11_readsQuest_59 (by decide) ?_
      obtain ⟨r_8, σ_8, hcl, h⟩ := bnd2_el h
      refine call_V1 X hW (kC_X11 h0) m_6_147 m_6_149 m_0_46 mv_X11_reads (c_X11_reads h0 hcl) (by decide) rfl rfl (Nat.le_of_ble_eq_true rfl) hl.1 dX11_readsQuest_61 ?_
      clear hW hcl; intro H locs hW
      refine lv_if_ne (tgt := 69) hx hb dX11_readsQuest_64 (by decide) (fun hc => ?_) (fun hc => ?_)
      · replace h := if_f hc h
        refine lv_aload_n hx hb dX11_readsQuest_69 rfl (lv_at hl 1 rfl) ?_
        refine gf_X11_read X hW h0 m_6_8 dX11_readsQuest_70 ?_
        refine lv_iload_n hx hb dX11_readsQuest_73 rfl (lv_at hl 0 rfl) ?_
        refine lv_iconst (v := 3) hx hb dX11_readsQuest_74 (by decide) ?_
        refine lv_iadd hx hb dX11_readsQuest_75 ?_
        refine lv_aload_n hx hb dX11_readsQuest_76 rfl (lv_at hl 1 rfl) ?_
        refine gf_X11_number X hW h0 m_6_25 dX11_readsQuest_77 ?_
        obtain ⟨hi9, h⟩ := ckI_el h
        refine r_iast X hW (kf_X11_read h0) hi9 dX11_readsQuest_80 ?_
        clear hW; intro H locs hW
        refine nm_s hW h ?_
        clear hW h; intro σ_10 hW h
        refine lv_aload_n hx hb dX11_readsQuest_81 rfl (lv_at hl 1 rfl) ?_
        refine lv_bipush (v := 59) hx hb dX11_readsQuest_82 (by decide) ?_
        obtain ⟨r_11, σ_11, hcl, h⟩ := bnd2_el h
        refine call_V1 X hW (kC_X11 h0) m_6_138 m_6_140 m_0_44 mv_X11_sign (c_X11_sign h0 hcl) (by decide) rfl rfl (Nat.le_of_ble_eq_true rfl) hl.1 dX11_readsQuest_84 ?_
        clear hW hcl; intro H locs hW
        refine lv_if_ne (tgt := 92) hx hb dX11_readsQuest_87 (by decide) (fun hc => ?_) (fun hc => ?_)
        · replace h := if_f hc h
          refine lv_aload_n hx hb dX11_readsQuest_92 rfl (lv_at hl 1 rfl) ?_
          refine lv_iconst (v := 0) hx hb dX11_readsQuest_93 (by decide) ?_
          refine sf_X11_stepsRead X hW h0 m_6_28 dX11_readsQuest_94 ?_
          clear hW; intro H locs hW
          refine nm_s hW h ?_
          clear hW h; intro σ_12 hW h
          refine lv_aload_n hx hb dX11_readsQuest_97 rfl (lv_at hl 1 rfl) ?_
          obtain ⟨r_13, σ_13, hcl, h⟩ := bnd2_el h
          refine call_V1 X hW (kC_X11 h0) m_6_125 m_6_127 m_0_42 mv_X11_here (c_X11_here h0 hcl) (by decide) rfl rfl (Nat.le_of_ble_eq_true rfl) hl.1 dX11_readsQuest_98 ?_
          clear hW hcl; intro H locs hW
          refine lv_pop hx hb dX11_readsQuest_101 rfl ?_
          refine lv_aload_n hx hb dX11_readsQuest_102 rfl (lv_at hl 1 rfl) ?_
          refine gf_X11_at X hW h0 m_6_22 dX11_readsQuest_103 ?_
          refine nm_i h ?_
          clear h; intro v3_14 h
          refine lv_istore_n (lv' := [(3, .int (v3_14)), (2, .int (v2_4)), (0, .ref (gz G + (v0))), (1, .int (v1))]) hx hb dX11_readsQuest_106 rfl hl (by decide) rfl ?_
          clear hl; intro ls hl
          exact bl_X11_readsQuest_L107 X hret (bl_X11_readsQuest_b141 X hret) FU v0 h0 v2_4 v3_14 σ_13 h _ _ _ hW (lv_sub hl [2, 1, 0] rfl)
        · replace h := if_t hc h
          refine lv_iconst (v := 0) hx hb dX11_readsQuest_90 (by decide) ?_
          exact rz_end hret h (by decide) dX11_readsQuest_91 hW
      · replace h := if_t hc h
        refine lv_iconst (v := 0) hx hb dX11_readsQuest_67 (by decide) ?_
        exact rz_end hret h (by decide) dX11_readsQuest_68 hW
    · replace h := if_t hc h
      refine lv_iconst (v := 0) hx hb dX11_readsQuest_43 (by decide) ?_
      exact rz_end hret h (by decide) dX11_readsQuest_44 hW
  · replace h := if_t hc h
    refine lv_aload_n hx hb dX11_readsQuest_11 rfl (lv_at hl 0 rfl) ?_
    refine lv_bipush (v := (-5)) hx hb dX11_readsQuest_12 (by decide) ?_
    refine lv_iload_n hx hb dX11_readsQuest_14 rfl (lv_at hl 1 rfl) ?_
    obtain ⟨r_2, σ_2, hcl, h⟩ := bnd2_el h
    refine call_V1 X hW (kC_X11 h0) m_6_134 m_6_136 m_0_43 mv_X11_fails (c_X11_fails h0 hcl) (by decide) rfl rfl (Nat.le_of_ble_eq_true rfl) hl.1 dX11_readsQuest_15 ?_
    clear hW hcl; intro H locs hW
    obtain ⟨hz, h⟩ := ckZ_el h
    exact rz_end hret h hz dX11_readsQuest_18 hW
set_option maxRecDepth 20000 in
set_option maxHeartbeats 4000000 in
theorem bl_X11_readsOnce_b72 (X : Cx G p R s m args c cells slots cX11_readsOnce 2 RX11 36) {r : Int32} {σ' : St} (hret : R_Z G p l e R s m args below meth c cells slots Q cX11_readsOnce r σ') :
    ∀ (v0 : Nat) (h0 : kd v0 = 10) (v1 : Int32) (σ : St) (_ : pf_X11_readsOnce_b72 v0 v1 σ = some (r, σ')) (H : Heap) (locs : List Loc) (ls : Array Slot) (_ : GW G σ s H locs) (_ : lv_has ls 2 [(0, .ref (gz G + (v0))), (1, .int (v1))]), W p l e R s m args below meth c H locs cells slots Q (F0 m 72 ls []) := by
  have hx := X.1.1
  have hb := X.1.2.1
  intro v0 h0 v1 σ h H locs ls hW hl
  unfold pf_X11_readsOnce_b72 at h
  refine lv_aload_n hx hb dX11_readsOnce_72 rfl (lv_at hl 0 rfl) ?_
  refine lv_bipush (v := (-2)) hx hb dX11_readsOnce_73 (by decide) ?_
  refine lv_iload_n hx hb dX11_readsOnce_75 rfl (lv_at hl 1 rfl) ?_
  obtain ⟨r_1, σ_1, hcl, h⟩ := bnd2_el h
  refine call_V1 X hW (kC_X11 h0) m_6_134 m_6_136 m_0_43 mv_X11_fails (c_X11_fails h0 hcl) (by decide) rfl rfl (Nat.le_of_ble_eq_true rfl) hl.1 dX11_readsOnce_76 ?_
  clear hW hcl; intro H locs hW
  obtain ⟨hz, h⟩ := ckZ_el h
  exact rz_end hret h hz dX11_readsOnce_79 hW
set_option maxRecDepth 20000 in
set_option maxHeartbeats 4000000 in
theorem c_X11_readsOnce {G : Gt} {l : Launch} {v0 : Nat} (h0 : kd v0 = 10) {v1 : Int32} {σ : St} {r : Int32} {σ' : St} (hf : pf_X11_readsOnce v0 v1 σ = some (r, σ')) : Ct G l yX11_readsOnce cX11_readsOnce 2 (some .boolean) 36 [.ref (gz G + (v0)), .int (v1)] σ (some (.int r)) σ' := by
  refine met_z (by decide +kernel) (Nat.le_of_ble_eq_true rfl) rfl ?_
  intro p e s m args below meth c Q ls X hW hret hl
  have hx := X.1.1
  have hb := X.1.2.1
  have hl : lv_has ls 2 [(0, .ref (gz G + (v0))), (1, .int (v1))] := hl
  have h := hf
  clear hf
  unfold pf_X11_readsOnce at h
  refine lv_aload_n hx hb dX11_readsOnce_0 rfl (lv_at hl 0 rfl) ?_
  refine r_ldcSW (k := 45) X hW (by decide) rfl rfl dX11_readsOnce_1 ?_
  obtain ⟨r_1, σ_1, hcl, h⟩ := bnd2_el h
  refine call_V1 X hW (kC_X11 h0) m_6_121 m_6_123 m_0_41 mv_X11_takes (c_X11_takes h0 (by decide) hcl) (by decide) rfl rfl (Nat.le_of_ble_eq_true rfl) hl.1 dX11_readsOnce_4 ?_
  clear hW hcl; intro H locs hW
  refine lv_if_eq (tgt := 55) hx hb dX11_readsOnce_7 (by decide) (fun hc => ?_) (fun hc => ?_)
  · replace h := if_t hc h
    refine lv_aload_n hx hb dX11_readsOnce_55 rfl (lv_at hl 0 rfl) ?_
    refine r_ldcSW (k := 46) X hW (by decide) rfl rfl dX11_readsOnce_56 ?_
    obtain ⟨r_2, σ_2, hcl, h⟩ := bnd2_el h
    refine call_V1 X hW (kC_X11 h0) m_6_121 m_6_123 m_0_41 mv_X11_takes (c_X11_takes h0 (by decide) hcl) (by decide) rfl rfl (Nat.le_of_ble_eq_true rfl) hl.1 dX11_readsOnce_59 ?_
    clear hW hcl; intro H locs hW
    refine lv_if_eq (tgt := 72) hx hb dX11_readsOnce_62 (by decide) (fun hc => ?_) (fun hc => ?_)
    · replace h := if_t hc h
      exact bl_X11_readsOnce_b72 X hret v0 h0 v1 σ_2 h _ _ _ hW (lv_sub hl [0, 1] rfl)
    · replace h := if_f hc h
      refine lv_aload_n hx hb dX11_readsOnce_65 rfl (lv_at hl 0 rfl) ?_
      refine gf_X11_hasWorth X hW h0 m_6_30 dX11_readsOnce_66 ?_
      refine lv_if_eq (tgt := 80) hx hb dX11_readsOnce_69 (by decide) (fun hc => ?_) (fun hc => ?_)
      · replace h := if_t hc h
        refine lv_aload_n hx hb dX11_readsOnce_80 rfl (lv_at hl 0 rfl) ?_
        refine lv_iconst (v := 1) hx hb dX11_readsOnce_81 (by decide) ?_
        refine sf_X11_hasWorth X hW (by decide) h0 m_6_30 dX11_readsOnce_82 ?_
        clear hW; intro H locs hW
        refine nm_s hW h ?_
        clear hW h; intro σ_3 hW h
        refine lv_aload_n hx hb dX11_readsOnce_85 rfl (lv_at hl 0 rfl) ?_
        refine lv_iconst (v := 0) hx hb dX11_readsOnce_86 (by decide) ?_
        refine sf_X11_nested X hW h0 m_6_27 dX11_readsOnce_87 ?_
        clear hW; intro H locs hW
        refine nm_s hW h ?_
        clear hW h; intro σ_4 hW h
        refine lv_aload_n hx hb dX11_readsOnce_90 rfl (lv_at hl 0 rfl) ?_
        obtain ⟨r_5, σ_5, hcl, h⟩ := bnd2_el h
        refine call_V1 X hW (kC_X11 h0) m_6_228 m_6_230 m_0_62 mv_X11_readsSum (c_X11_readsSum 8 h0 hcl) (by decide) rfl rfl (Nat.le_of_ble_eq_true rfl) hl.1 dX11_readsOnce_91 ?_
        clear hW hcl; intro H locs hW
        obtain ⟨hz, h⟩ := ckZ_el h
        exact rz_end hret h hz dX11_readsOnce_94 hW
      · replace h := if_f hc h
        exact bl_X11_readsOnce_b72 X hret v0 h0 v1 σ_2 h _ _ _ hW (lv_sub hl [0, 1] rfl)
  · replace h := if_f hc h
    refine lv_aload_n hx hb dX11_readsOnce_10 rfl (lv_at hl 0 rfl) ?_
    refine gf_X11_hasSeed X hW h0 m_6_29 dX11_readsOnce_11 ?_
    refine lv_if_eq (tgt := 25) hx hb dX11_readsOnce_14 (by decide) (fun hc => ?_) (fun hc => ?_)
    · replace h := if_t hc h
      refine lv_aload_n hx hb dX11_readsOnce_25 rfl (lv_at hl 0 rfl) ?_
      refine lv_iconst (v := 1) hx hb dX11_readsOnce_26 (by decide) ?_
      refine sf_X11_hasSeed X hW (by decide) h0 m_6_29 dX11_readsOnce_27 ?_
      clear hW; intro H locs hW
      refine nm_s hW h ?_
      clear hW h; intro σ_6 hW h
      refine lv_aload_n hx hb dX11_readsOnce_30 rfl (lv_at hl 0 rfl) ?_
      refine lv_iconst (v := 0) hx hb dX11_readsOnce_31 (by decide) ?_
      refine lv_sipush (v := 9999) hx hb dX11_readsOnce_32 (by decide) ?_
      obtain ⟨r_7, σ_7, hcl, h⟩ := bnd2_el h
      refine call_V1 X hW (kC_X11 h0) m_6_147 m_6_149 m_0_46 mv_X11_reads (c_X11_reads h0 hcl) (by decide) rfl rfl (Nat.le_of_ble_eq_true rfl) hl.1 dX11_readsOnce_35 ?_
      clear hW hcl; intro H locs hW
      refine lv_if_ne (tgt := 43) hx hb dX11_readsOnce_38 (by decide) (fun hc => ?_) (fun hc => ?_)
      · replace h := if_f hc h
        refine lv_aload_n hx hb dX11_readsOnce_43 rfl (lv_at hl 0 rfl) ?_
        refine gf_X11_read X hW h0 m_6_8 dX11_readsOnce_44 ?_
        refine lv_iconst (v := 1) hx hb dX11_readsOnce_47 (by decide) ?_
        refine lv_aload_n hx hb dX11_readsOnce_48 rfl (lv_at hl 0 rfl) ?_
        refine gf_X11_number X hW h0 m_6_25 dX11_readsOnce_49 ?_
        obtain ⟨hi8, h⟩ := ckI_el h
        refine r_iast X hW (kf_X11_read h0) hi8 dX11_readsOnce_52 ?_
        clear hW; intro H locs hW
        refine nm_s hW h ?_
        clear hW h; intro σ_9 hW h
        refine lv_iconst (v := 1) hx hb dX11_readsOnce_53 (by decide) ?_
        exact rz_end hret h (by decide) dX11_readsOnce_54 hW
      · replace h := if_t hc h
        refine lv_iconst (v := 0) hx hb dX11_readsOnce_41 (by decide) ?_
        exact rz_end hret h (by decide) dX11_readsOnce_42 hW
    · replace h := if_f hc h
      refine lv_aload_n hx hb dX11_readsOnce_17 rfl (lv_at hl 0 rfl) ?_
      refine lv_bipush (v := (-2)) hx hb dX11_readsOnce_18 (by decide) ?_
      refine lv_iload_n hx hb dX11_readsOnce_20 rfl (lv_at hl 1 rfl) ?_
      obtain ⟨r_10, σ_10, hcl, h⟩ := bnd2_el h
      refine call_V1 X hW (kC_X11 h0) m_6_134 m_6_136 m_0_43 mv_X11_fails (c_X11_fails h0 hcl) (by decide) rfl rfl (Nat.le_of_ble_eq_true rfl) hl.1 dX11_readsOnce_21 ?_
      clear hW hcl; intro H locs hW
      obtain ⟨hz, h⟩ := ckZ_el h
      exact rz_end hret h hz dX11_readsOnce_24 hW
set_option maxRecDepth 20000 in
set_option maxHeartbeats 4000000 in
theorem bl_X11_readsLedger_b121 (X : Cx G p R s m args c cells slots cX11_readsLedger 3 RX11 44) {r : Int32} {σ' : St} (hret : R_Z G p l e R s m args below meth c cells slots Q cX11_readsLedger r σ') {k69 : Nat → St → (Option (Int32 × St))}
    (hk69 : ∀ (v0 : Nat) (h0 : kd v0 = 10) (σ : St) (_ : k69 v0 σ = some (r, σ')) (H : Heap) (locs : List Loc) (ls : Array Slot) (_ : GW G σ s H locs) (_ : lv_has ls 3 [(0, .ref (gz G + (v0)))]), W p l e R s m args below meth c H locs cells slots Q (F0 m 69 ls [])) :
    ∀ (v0 : Nat) (h0 : kd v0 = 10) (s0 : Int32) (σ : St) (_ : pf_X11_readsLedger_b121 k69 v0 s0 σ = some (r, σ')) (H : Heap) (locs : List Loc) (ls : Array Slot) (_ : GW G σ s H locs) (_ : lv_has ls 3 [(0, .ref (gz G + (v0)))]), W p l e R s m args below meth c H locs cells slots Q (F0 m 121 ls [.int (s0)]) := by
  have hx := X.1.1
  have hb := X.1.2.1
  intro v0 h0 s0 σ h H locs ls hW hl
  unfold pf_X11_readsLedger_b121 at h
  refine lv_istore_n (lv' := [(2, .int (s0)), (0, .ref (gz G + (v0)))]) hx hb dX11_readsLedger_121 rfl hl (by decide) rfl ?_
  clear hl; intro ls hl
  refine lv_iload_n hx hb dX11_readsLedger_122 rfl (lv_at hl 0 rfl) ?_
  refine lv_if_eq (tgt := 135) hx hb dX11_readsLedger_123 (by decide) (fun hc => ?_) (fun hc => ?_)
  · replace h := if_t hc h
    refine lv_iconst (v := 0) hx hb dX11_readsLedger_135 (by decide) ?_
    exact rz_end hret h (by decide) dX11_readsLedger_136 hW
  · replace h := if_f hc h
    refine lv_aload_n hx hb dX11_readsLedger_126 rfl (lv_at hl 1 rfl) ?_
    refine lv_bipush (v := 59) hx hb dX11_readsLedger_127 (by decide) ?_
    obtain ⟨r_1, σ_1, hcl, h⟩ := bnd2_el h
    refine call_V1 X hW (kC_X11 h0) m_6_138 m_6_140 m_0_44 mv_X11_sign (c_X11_sign h0 hcl) (by decide) rfl rfl (Nat.le_of_ble_eq_true rfl) hl.1 dX11_readsLedger_129 ?_
    clear hW hcl; intro H locs hW
    refine lv_if_ne (tgt := 137) hx hb dX11_readsLedger_132 (by decide) (fun hc => ?_) (fun hc => ?_)
    · replace h := if_f hc h
      refine lv_goto (tgt := 69) hx hb dX11_readsLedger_137 (by decide) ?_
      exact hk69 v0 h0 σ_1 h _ _ _ hW (lv_sub hl [1] rfl)
    · replace h := if_t hc h
      refine lv_iconst (v := 0) hx hb dX11_readsLedger_135 (by decide) ?_
      exact rz_end hret h (by decide) dX11_readsLedger_136 hW
set_option maxRecDepth 20000 in
set_option maxHeartbeats 4000000 in
theorem bl_X11_readsLedger_L69 (X : Cx G p R s m args c cells slots cX11_readsLedger 3 RX11 44) {r : Int32} {σ' : St} (hret : R_Z G p l e R s m args below meth c cells slots Q cX11_readsLedger r σ') :
    ∀ (n : Nat), ∀ (v0 : Nat) (h0 : kd v0 = 10) (σ : St) (_ : pf_X11_readsLedger_L69 n v0 σ = some (r, σ')) (H : Heap) (locs : List Loc) (ls : Array Slot) (_ : GW G σ s H locs) (_ : lv_has ls 3 [(0, .ref (gz G + (v0)))]), W p l e R s m args below meth c H locs cells slots Q (F0 m 69 ls []) := by
  have hx := X.1.1
  have hb := X.1.2.1
  intro n
  induction n with
  | zero => intro v0 h0 σ h H locs ls hW hl; cases h
  | succ n ih =>
    intro v0 h0 σ h H locs ls hW hl
    rw [pf_X11_readsLedger_L69.eq_2] at h
    refine lv_aload_n hx hb dX11_readsLedger_69 rfl (lv_at hl 0 rfl) ?_
    obtain ⟨r_1, σ_1, hcl, h⟩ := bnd2_el h
    refine call_V1 X hW (kC_X11 h0) m_6_125 m_6_127 m_0_42 mv_X11_here (c_X11_here h0 hcl) (by decide) rfl rfl (Nat.le_of_ble_eq_true rfl) hl.1 dX11_readsLedger_70 ?_
    clear hW hcl; intro H locs hW
    refine lv_iconst (v := (-1)) hx hb dX11_readsLedger_73 (by decide) ?_
    refine lv_icmp_eq (tgt := 140) hx hb dX11_readsLedger_74 (by decide) (fun hc => ?_) (fun hc => ?_)
    · replace h := if_t hc h
      refine lv_iconst (v := 1) hx hb dX11_readsLedger_140 (by decide) ?_
      exact rz_end hret h (by decide) dX11_readsLedger_141 hW
    · replace h := if_f hc h
      refine lv_aload_n hx hb dX11_readsLedger_77 rfl (lv_at hl 0 rfl) ?_
      refine gf_X11_at X hW h0 m_6_22 dX11_readsLedger_78 ?_
      refine nm_i h ?_
      clear h; intro v1_2 h
      refine lv_istore_n (lv' := [(1, .int (v1_2)), (0, .ref (gz G + (v0)))]) hx hb dX11_readsLedger_81 rfl hl (by decide) rfl ?_
      clear hl; intro ls hl
      refine lv_aload_n hx hb dX11_readsLedger_82 rfl (lv_at hl 1 rfl) ?_
      refine r_ldcSW (k := 48) X hW (by decide) rfl rfl dX11_readsLedger_83 ?_
      obtain ⟨r_3, σ_3, hcl, h⟩ := bnd2_el h
      refine call_V1 X hW (kC_X11 h0) m_6_121 m_6_123 m_0_41 mv_X11_takes (c_X11_takes h0 (by decide) hcl) (by decide) rfl rfl (Nat.le_of_ble_eq_true rfl) hl.1 dX11_readsLedger_86 ?_
      clear hW hcl; intro H locs hW
      refine lv_if_eq (tgt := 99) hx hb dX11_readsLedger_89 (by decide) (fun hc => ?_) (fun hc => ?_)
      · replace h := if_t hc h
        refine lv_aload_n hx hb dX11_readsLedger_99 rfl (lv_at hl 1 rfl) ?_
        refine r_ldcS (k := 34) (tx := "") X hW (by decide) rfl rfl dX11_readsLedger_100 ?_
        obtain ⟨r_4, σ_4, hcl, h⟩ := bnd2_el h
        refine call_V1 X hW (kC_X11 h0) m_6_121 m_6_123 m_0_41 mv_X11_takes (c_X11_takes h0 (by decide) hcl) (by decide) rfl rfl (Nat.le_of_ble_eq_true rfl) hl.1 dX11_readsLedger_102 ?_
        clear hW hcl; intro H locs hW
        refine lv_if_eq (tgt := 116) hx hb dX11_readsLedger_105 (by decide) (fun hc => ?_) (fun hc => ?_)
        · replace h := if_t hc h
          refine lv_aload_n hx hb dX11_readsLedger_116 rfl (lv_at hl 1 rfl) ?_
          refine lv_iload_n hx hb dX11_readsLedger_117 rfl (lv_at hl 0 rfl) ?_
          obtain ⟨r_5, σ_5, hcl, h⟩ := bnd2_el h
          refine call_V1 X hW (kC_X11 h0) m_6_222 m_6_224 m_0_61 mv_X11_readsOnce (c_X11_readsOnce h0 hcl) (by decide) rfl rfl (Nat.le_of_ble_eq_true rfl) hl.1 dX11_readsLedger_118 ?_
          clear hW hcl; intro H locs hW
          exact bl_X11_readsLedger_b121 X hret ih v0 h0 r_5 σ_5 h _ _ _ hW (lv_sub hl [1] rfl)
        · replace h := if_f hc h
          refine lv_aload_n hx hb dX11_readsLedger_108 rfl (lv_at hl 1 rfl) ?_
          refine lv_iload_n hx hb dX11_readsLedger_109 rfl (lv_at hl 0 rfl) ?_
          obtain ⟨r_6, σ_6, hcl, h⟩ := bnd2_el h
          refine call_V1 X hW (kC_X11 h0) m_6_164 m_6_166 m_0_49 mv_X11_readsQuest (c_X11_readsQuest h0 hcl) (by decide) rfl rfl (Nat.le_of_ble_eq_true rfl) hl.1 dX11_readsLedger_110 ?_
          clear hW hcl; intro H locs hW
          refine lv_goto (tgt := 121) hx hb dX11_readsLedger_113 (by decide) ?_
          exact bl_X11_readsLedger_b121 X hret ih v0 h0 r_6 σ_6 h _ _ _ hW (lv_sub hl [1] rfl)
      · replace h := if_f hc h
        refine lv_aload_n hx hb dX11_readsLedger_92 rfl (lv_at hl 1 rfl) ?_
        obtain ⟨r_7, σ_7, hcl, h⟩ := bnd2_el h
        refine call_V1 X hW (kC_X11 h0) m_6_143 m_6_145 m_0_45 mv_X11_readsStock (c_X11_readsStock h0 hcl) (by decide) rfl rfl (Nat.le_of_ble_eq_true rfl) hl.1 dX11_readsLedger_93 ?_
        clear hW hcl; intro H locs hW
        refine lv_goto (tgt := 121) hx hb dX11_readsLedger_96 (by decide) ?_
        exact bl_X11_readsLedger_b121 X hret ih v0 h0 r_7 σ_7 h _ _ _ hW (lv_sub hl [1] rfl)
set_option maxRecDepth 20000 in
set_option maxHeartbeats 4000000 in
theorem bl_X11_readsLedger_b22 (X : Cx G p R s m args c cells slots cX11_readsLedger 3 RX11 44) {r : Int32} {σ' : St} (hret : R_Z G p l e R s m args below meth c cells slots Q cX11_readsLedger r σ') :
    ∀ (v0 : Nat) (h0 : kd v0 = 10) (σ : St) (_ : pf_X11_readsLedger_b22 v0 σ = some (r, σ')) (H : Heap) (locs : List Loc) (ls : Array Slot) (_ : GW G σ s H locs) (_ : lv_has ls 3 [(0, .ref (gz G + (v0)))]), W p l e R s m args below meth c H locs cells slots Q (F0 m 22 ls []) := by
  have hx := X.1.1
  have hb := X.1.2.1
  intro v0 h0 σ h H locs ls hW hl
  unfold pf_X11_readsLedger_b22 at h
  refine lv_aload_n hx hb dX11_readsLedger_22 rfl (lv_at hl 0 rfl) ?_
  refine lv_iconst (v := 0) hx hb dX11_readsLedger_23 (by decide) ?_
  refine sf_X11_stocked X hW h0 m_6_31 dX11_readsLedger_24 ?_
  clear hW; intro H locs hW
  refine nm_s hW h ?_
  clear hW h; intro σ_1 hW h
  refine lv_aload_n hx hb dX11_readsLedger_27 rfl (lv_at hl 0 rfl) ?_
  refine lv_iconst (v := 0) hx hb dX11_readsLedger_28 (by decide) ?_
  refine sf_X11_hasSeed X hW (by decide) h0 m_6_29 dX11_readsLedger_29 ?_
  clear hW; intro H locs hW
  refine nm_s hW h ?_
  clear hW h; intro σ_2 hW h
  refine lv_aload_n hx hb dX11_readsLedger_32 rfl (lv_at hl 0 rfl) ?_
  refine lv_iconst (v := 0) hx hb dX11_readsLedger_33 (by decide) ?_
  refine sf_X11_hasWorth X hW (by decide) h0 m_6_30 dX11_readsLedger_34 ?_
  clear hW; intro H locs hW
  refine nm_s hW h ?_
  clear hW h; intro σ_3 hW h
  refine lv_aload_n hx hb dX11_readsLedger_37 rfl (lv_at hl 0 rfl) ?_
  refine r_ldcSW (k := 47) X hW (by decide) rfl rfl dX11_readsLedger_38 ?_
  obtain ⟨r_4, σ_4, hcl, h⟩ := bnd2_el h
  refine call_V1 X hW (kC_X11 h0) m_6_121 m_6_123 m_0_41 mv_X11_takes (c_X11_takes h0 (by decide) hcl) (by decide) rfl rfl (Nat.le_of_ble_eq_true rfl) hl.1 dX11_readsLedger_41 ?_
  clear hW hcl; intro H locs hW
  refine lv_if_ne (tgt := 58) hx hb dX11_readsLedger_44 (by decide) (fun hc => ?_) (fun hc => ?_)
  · replace h := if_f hc h
    refine lv_aload_n hx hb dX11_readsLedger_58 rfl (lv_at hl 0 rfl) ?_
    refine lv_bipush (v := 59) hx hb dX11_readsLedger_59 (by decide) ?_
    obtain ⟨r_6, σ_6, hcl, h⟩ := bnd2_el h
    refine call_V1 X hW (kC_X11 h0) m_6_138 m_6_140 m_0_44 mv_X11_sign (c_X11_sign h0 hcl) (by decide) rfl rfl (Nat.le_of_ble_eq_true rfl) hl.1 dX11_readsLedger_61 ?_
    clear hW hcl; intro H locs hW
    refine lv_if_ne (tgt := 69) hx hb dX11_readsLedger_64 (by decide) (fun hc => ?_) (fun hc => ?_)
    · replace h := if_f hc h
      exact bl_X11_readsLedger_L69 X hret FU v0 h0 σ_6 h _ _ _ hW (lv_sub hl [0] rfl)
    · replace h := if_t hc h
      refine lv_iconst (v := 0) hx hb dX11_readsLedger_67 (by decide) ?_
      exact rz_end hret h (by decide) dX11_readsLedger_68 hW
  · replace h := if_t hc h
    refine lv_aload_n hx hb dX11_readsLedger_47 rfl (lv_at hl 0 rfl) ?_
    refine lv_bipush (v := (-2)) hx hb dX11_readsLedger_48 (by decide) ?_
    refine lv_aload_n hx hb dX11_readsLedger_50 rfl (lv_at hl 0 rfl) ?_
    refine gf_X11_at X hW h0 m_6_22 dX11_readsLedger_51 ?_
    obtain ⟨r_5, σ_5, hcl, h⟩ := bnd2_el h
    refine call_V1 X hW (kC_X11 h0) m_6_134 m_6_136 m_0_43 mv_X11_fails (c_X11_fails h0 hcl) (by decide) rfl rfl (Nat.le_of_ble_eq_true rfl) hl.1 dX11_readsLedger_54 ?_
    clear hW hcl; intro H locs hW
    obtain ⟨hz, h⟩ := ckZ_el h
    exact rz_end hret h hz dX11_readsLedger_57 hW
set_option maxRecDepth 20000 in
set_option maxHeartbeats 4000000 in
theorem bl_X11_readsLedger_L2 (X : Cx G p R s m args c cells slots cX11_readsLedger 3 RX11 44) {r : Int32} {σ' : St} (hret : R_Z G p l e R s m args below meth c cells slots Q cX11_readsLedger r σ') {k22 : Nat → St → (Option (Int32 × St))}
    (hk22 : ∀ (v0 : Nat) (h0 : kd v0 = 10) (σ : St) (_ : k22 v0 σ = some (r, σ')) (H : Heap) (locs : List Loc) (ls : Array Slot) (_ : GW G σ s H locs) (_ : lv_has ls 3 [(0, .ref (gz G + (v0)))]), W p l e R s m args below meth c H locs cells slots Q (F0 m 22 ls [])) :
    ∀ (n : Nat), ∀ (v0 : Nat) (h0 : kd v0 = 10) (v1 : Int32) (σ : St) (_ : pf_X11_readsLedger_L2 k22 n v0 v1 σ = some (r, σ')) (H : Heap) (locs : List Loc) (ls : Array Slot) (_ : GW G σ s H locs) (_ : lv_has ls 3 [(0, .ref (gz G + (v0))), (1, .int (v1))]), W p l e R s m args below meth c H locs cells slots Q (F0 m 2 ls []) := by
  have hx := X.1.1
  have hb := X.1.2.1
  intro n
  induction n with
  | zero => intro v0 h0 v1 σ h H locs ls hW hl; cases h
  | succ n ih =>
    intro v0 h0 v1 σ h H locs ls hW hl
    rw [pf_X11_readsLedger_L2.eq_2] at h
    refine lv_iload_n hx hb dX11_readsLedger_2 rfl (lv_at hl 1 rfl) ?_
    refine lv_sipush (v := 4370) hx hb dX11_readsLedger_3 (by decide) ?_
    refine lv_icmp_ge (tgt := 22) hx hb dX11_readsLedger_6 (by decide) (fun hc => ?_) (fun hc => ?_)
    · replace h := if_t hc h
      exact hk22 v0 h0 σ h _ _ _ hW (lv_sub hl [0] rfl)
    · replace h := if_f hc h
      refine lv_aload_n hx hb dX11_readsLedger_9 rfl (lv_at hl 0 rfl) ?_
      refine gf_X11_read X hW h0 m_6_8 dX11_readsLedger_10 ?_
      refine lv_iload_n hx hb dX11_readsLedger_13 rfl (lv_at hl 1 rfl) ?_
      refine lv_iconst (v := 0) hx hb dX11_readsLedger_14 (by decide) ?_
      obtain ⟨hi1, h⟩ := ckI_el h
      refine r_iast X hW (kf_X11_read h0) hi1 dX11_readsLedger_15 ?_
      clear hW; intro H locs hW
      refine nm_s hW h ?_
      clear hW h; intro σ_2 hW h
      refine w_iinc (v := 1) (lv' := fun y => [(1, .int (y)), (0, .ref (gz G + (v0)))]) hx hb dX11_readsLedger_16 hl (k := 1) rfl (by decide) (by decide) (fun _ => rfl) h ?_
      clear h hl; intro v1_3 h ls hl
      refine lv_goto (tgt := 2) hx hb dX11_readsLedger_19 (by decide) ?_
      exact ih v0 h0 v1_3 σ_2 h _ _ _ hW (lv_sub hl [1, 0] rfl)
set_option maxRecDepth 20000 in
set_option maxHeartbeats 4000000 in
theorem c_X11_readsLedger {G : Gt} {l : Launch} {v0 : Nat} (h0 : kd v0 = 10) {σ : St} {r : Int32} {σ' : St} (hf : pf_X11_readsLedger v0 σ = some (r, σ')) : Ct G l yX11_readsLedger cX11_readsLedger 3 (some .boolean) 44 [.ref (gz G + (v0))] σ (some (.int r)) σ' := by
  refine met_z (by decide +kernel) (Nat.le_of_ble_eq_true rfl) rfl ?_
  intro p e s m args below meth c Q ls X hW hret hl
  have hx := X.1.1
  have hb := X.1.2.1
  have hl : lv_has ls 3 [(0, .ref (gz G + (v0)))] := hl
  have h := hf
  clear hf
  unfold pf_X11_readsLedger at h
  refine lv_iconst (v := 0) hx hb dX11_readsLedger_0 (by decide) ?_
  refine lv_istore_n (lv' := [(1, .int (0)), (0, .ref (gz G + (v0)))]) hx hb dX11_readsLedger_1 rfl hl (by decide) rfl ?_
  clear hl; intro ls hl
  exact bl_X11_readsLedger_L2 X hret (bl_X11_readsLedger_b22 X hret) FU v0 h0 0 σ h _ _ _ hW (lv_sub hl [1, 0] rfl)
set_option maxRecDepth 20000 in
set_option maxHeartbeats 4000000 in
theorem bl_X11_load_b91 (X : Cx G p R s m args c cells slots cX11_load 3 RX11 45) {r : Int32} {σ' : St} (hret : R_I G p l e R s m args below meth c cells slots Q cX11_load r σ') :
    ∀ (v0 : Nat) (h0 : kd v0 = 10) (σ : St) (_ : pf_X11_load_b91 v0 σ = some (r, σ')) (H : Heap) (locs : List Loc) (ls : Array Slot) (_ : GW G σ s H locs) (_ : lv_has ls 3 [(0, .ref (gz G + (v0)))]), W p l e R s m args below meth c H locs cells slots Q (F0 m 91 ls []) := by
  have hx := X.1.1
  have hb := X.1.2.1
  intro v0 h0 σ h H locs ls hW hl
  unfold pf_X11_load_b91 at h
  refine lv_aload_n hx hb dX11_load_91 rfl (lv_at hl 0 rfl) ?_
  refine lv_iconst (v := 0) hx hb dX11_load_92 (by decide) ?_
  obtain ⟨r_1, hcl, h⟩ := bind_el h
  refine call_V1 X hW (kC_X11 h0) m_7_17 m_7_19 m_0_68 mv_X11_get (c_X11_get h0 hcl) (by decide) rfl rfl (Nat.le_of_ble_eq_true rfl) hl.1 dX11_load_93 ?_
  clear hW hcl; intro H locs hW
  exact ri_end hret h dX11_load_96 hW
set_option maxRecDepth 20000 in
set_option maxHeartbeats 4000000 in
theorem bl_X11_load_L67 (X : Cx G p R s m args c cells slots cX11_load 3 RX11 45) {r : Int32} {σ' : St} (hret : R_I G p l e R s m args below meth c cells slots Q cX11_load r σ') {k91 : Nat → St → (Option (Int32 × St))}
    (hk91 : ∀ (v0 : Nat) (h0 : kd v0 = 10) (σ : St) (_ : k91 v0 σ = some (r, σ')) (H : Heap) (locs : List Loc) (ls : Array Slot) (_ : GW G σ s H locs) (_ : lv_has ls 3 [(0, .ref (gz G + (v0)))]), W p l e R s m args below meth c H locs cells slots Q (F0 m 91 ls [])) :
    ∀ (n : Nat), ∀ (v0 : Nat) (h0 : kd v0 = 10) (v2 : Int32) (σ : St) (_ : pf_X11_load_L67 k91 n v0 v2 σ = some (r, σ')) (H : Heap) (locs : List Loc) (ls : Array Slot) (_ : GW G σ s H locs) (_ : lv_has ls 3 [(0, .ref (gz G + (v0))), (2, .int (v2))]), W p l e R s m args below meth c H locs cells slots Q (F0 m 67 ls []) := by
  have hx := X.1.1
  have hb := X.1.2.1
  intro n
  induction n with
  | zero => intro v0 h0 v2 σ h H locs ls hW hl; cases h
  | succ n ih =>
    intro v0 h0 v2 σ h H locs ls hW hl
    rw [pf_X11_load_L67.eq_2] at h
    refine lv_iload_n hx hb dX11_load_67 rfl (lv_at hl 1 rfl) ?_
    refine lv_sipush (v := 4370) hx hb dX11_load_68 (by decide) ?_
    refine lv_icmp_ge (tgt := 91) hx hb dX11_load_71 (by decide) (fun hc => ?_) (fun hc => ?_)
    · replace h := if_t hc h
      exact hk91 v0 h0 σ h _ _ _ hW (lv_sub hl [0] rfl)
    · replace h := if_f hc h
      refine lv_aload_n hx hb dX11_load_74 rfl (lv_at hl 0 rfl) ?_
      refine lv_iload_n hx hb dX11_load_75 rfl (lv_at hl 1 rfl) ?_
      refine lv_aload_n hx hb dX11_load_76 rfl (lv_at hl 0 rfl) ?_
      refine gf_X11_read X hW h0 m_6_8 dX11_load_77 ?_
      refine lv_iload_n hx hb dX11_load_80 rfl (lv_at hl 1 rfl) ?_
      obtain ⟨hi1, h⟩ := ckI_el h
      refine r_iald X hW (kf_X11_read h0) hi1 dX11_load_81 ?_
      obtain ⟨σ_2, hcl, h⟩ := bind_el h
      refine call_V0 X hW (kC_X11 h0) m_7_21 m_7_23 m_0_69 mv_X11_put (c_X11_put h0 hcl) (by decide) rfl rfl (Nat.le_of_ble_eq_true rfl) hl.1 dX11_load_82 ?_
      clear hW hcl; intro H locs hW
      refine w_iinc (v := 1) (lv' := fun y => [(2, .int (y)), (0, .ref (gz G + (v0)))]) hx hb dX11_load_85 hl (k := 1) rfl (by decide) (by decide) (fun _ => rfl) h ?_
      clear h hl; intro v2_3 h ls hl
      refine lv_goto (tgt := 67) hx hb dX11_load_88 (by decide) ?_
      exact ih v0 h0 v2_3 σ_2 h _ _ _ hW (lv_sub hl [1, 0] rfl)
set_option maxRecDepth 20000 in
set_option maxHeartbeats 4000000 in
theorem c_X11_load {G : Gt} {l : Launch} {v0 : Nat} (h0 : kd v0 = 10) {v1 : Int32} {σ : St} {r : Int32} {σ' : St} (hf : pf_X11_load v0 v1 σ = some (r, σ')) : Ct G l yX11_load cX11_load 3 (some .int) 45 [.ref (gz G + (v0)), .int (v1)] σ (some (.int r)) σ' := by
  refine met_i (by decide +kernel) (Nat.le_of_ble_eq_true rfl) rfl ?_
  intro p e s m args below meth c Q ls X hW hret hl
  have hx := X.1.1
  have hb := X.1.2.1
  have hl : lv_has ls 3 [(0, .ref (gz G + (v0))), (1, .int (v1))] := hl
  have h := hf
  clear hf
  unfold pf_X11_load at h
  refine lv_aload_n hx hb dX11_load_0 rfl (lv_at hl 0 rfl) ?_
  refine lv_iconst (v := 0) hx hb dX11_load_1 (by decide) ?_
  refine sf_X11_thrown X hW h0 m_6_6 dX11_load_2 ?_
  clear hW; intro H locs hW
  refine nm_s hW h ?_
  clear hW h; intro σ_1 hW h
  refine lv_aload_n hx hb dX11_load_5 rfl (lv_at hl 0 rfl) ?_
  refine lv_iload_n hx hb dX11_load_6 rfl (lv_at hl 1 rfl) ?_
  refine lv_iconst (v := 0) hx hb dX11_load_7 (by decide) ?_
  refine lv_aload_n hx hb dX11_load_8 rfl (lv_at hl 0 rfl) ?_
  refine gf_X11_fed X hW h0 m_6_20 dX11_load_9 ?_
  obtain ⟨r_2, hcl, h⟩ := bind_el h
  refine call_S1 X hW m_6_109 m_6_110 mv_X11_isIn (c_X11_isIn hcl) (by decide) rfl rfl (Nat.le_of_ble_eq_true rfl) hl.1 dX11_load_12 ?_
  clear hW hcl; intro H locs hW
  refine lv_iconst (v := 1) hx hb dX11_load_15 (by decide) ?_
  obtain ⟨r_3, σ_3, hcl, h⟩ := bnd2_el h
  refine call_V1 X hW (kC_X11 h0) m_6_112 m_6_114 m_0_39 mv_X11_right (c_X11_right h0 hcl) (by decide) rfl rfl (Nat.le_of_ble_eq_true rfl) hl.1 dX11_load_16 ?_
  clear hW hcl; intro H locs hW
  refine lv_if_ne (tgt := 24) hx hb dX11_load_19 (by decide) (fun hc => ?_) (fun hc => ?_)
  · replace h := if_f hc h
    refine lv_aload_n hx hb dX11_load_24 rfl (lv_at hl 0 rfl) ?_
    refine lv_iload_n hx hb dX11_load_25 rfl (lv_at hl 1 rfl) ?_
    refine sf_X11_length X hW h0 m_6_21 dX11_load_26 ?_
    clear hW; intro H locs hW
    refine nm_s hW h ?_
    clear hW h; intro σ_4 hW h
    refine lv_aload_n hx hb dX11_load_29 rfl (lv_at hl 0 rfl) ?_
    refine lv_iconst (v := 0) hx hb dX11_load_30 (by decide) ?_
    refine sf_X11_at X hW h0 m_6_22 dX11_load_31 ?_
    clear hW; intro H locs hW
    refine nm_s hW h ?_
    clear hW h; intro σ_5 hW h
    refine lv_aload_n hx hb dX11_load_34 rfl (lv_at hl 0 rfl) ?_
    refine lv_iconst (v := 0) hx hb dX11_load_35 (by decide) ?_
    refine sf_X11_fed X hW h0 m_6_20 dX11_load_36 ?_
    clear hW; intro H locs hW
    refine nm_s hW h ?_
    clear hW h; intro σ_6 hW h
    refine lv_aload_n hx hb dX11_load_39 rfl (lv_at hl 0 rfl) ?_
    refine lv_iconst (v := 0) hx hb dX11_load_40 (by decide) ?_
    refine sf_X11_fault X hW h0 m_6_23 dX11_load_41 ?_
    clear hW; intro H locs hW
    refine nm_s hW h ?_
    clear hW h; intro σ_7 hW h
    refine lv_aload_n hx hb dX11_load_44 rfl (lv_at hl 0 rfl) ?_
    refine lv_iconst (v := (-1)) hx hb dX11_load_45 (by decide) ?_
    refine sf_X11_faultAt X hW h0 m_6_24 dX11_load_46 ?_
    clear hW; intro H locs hW
    refine nm_s hW h ?_
    clear hW h; intro σ_8 hW h
    refine lv_aload_n hx hb dX11_load_49 rfl (lv_at hl 0 rfl) ?_
    obtain ⟨r_9, σ_9, hcl, h⟩ := bnd2_el h
    refine call_V1 X hW (kC_X11 h0) m_6_116 m_6_118 m_0_40 mv_X11_readsLedger (c_X11_readsLedger h0 hcl) (by decide) rfl rfl (Nat.le_of_ble_eq_true rfl) hl.1 dX11_load_50 ?_
    clear hW hcl; intro H locs hW
    refine lv_if_ne (tgt := 61) hx hb dX11_load_53 (by decide) (fun hc => ?_) (fun hc => ?_)
    · replace h := if_f hc h
      refine lv_aload_n hx hb dX11_load_61 rfl (lv_at hl 0 rfl) ?_
      obtain ⟨σ_10, hcl, h⟩ := bind_el h
      refine call_V0 X hW (kC_X11 h0) m_7_13 m_7_15 m_0_67 mv_X11_change (c_X11_change h0 hcl) (by decide) rfl rfl (Nat.le_of_ble_eq_true rfl) hl.1 dX11_load_62 ?_
      clear hW hcl; intro H locs hW
      refine lv_iconst (v := 0) hx hb dX11_load_65 (by decide) ?_
      refine lv_istore_n (lv' := [(2, .int (0)), (0, .ref (gz G + (v0))), (1, .int (v1))]) hx hb dX11_load_66 rfl hl (by decide) rfl ?_
      clear hl; intro ls hl
      exact bl_X11_load_L67 X hret (bl_X11_load_b91 X hret) FU v0 h0 0 σ_10 h _ _ _ hW (lv_sub hl [1, 0] rfl)
    · replace h := if_t hc h
      refine lv_aload_n hx hb dX11_load_56 rfl (lv_at hl 0 rfl) ?_
      refine gf_X11_fault X hW h0 m_6_23 dX11_load_57 ?_
      exact ri_end hret h dX11_load_60 hW
  · replace h := if_t hc h
    refine lv_iconst (v := 0) hx hb dX11_load_22 (by decide) ?_
    exact ri_end hret h dX11_load_23 hW
set_option maxRecDepth 20000 in
set_option maxHeartbeats 4000000 in
theorem bl_X11_counted_b115 (X : Cx G p R s m args c cells slots cX11_counted 4 RX11 10) {r : Int32} {σ' : St} (hret : R_I G p l e R s m args below meth c cells slots Q cX11_counted r σ') {k4 : Nat → Int32 → Int32 → Int32 → St → (Option (Int32 × St))}
    (hk4 : ∀ (v0 : Nat) (h0 : kd v0 = 10) (v1 : Int32) (v2 : Int32) (v3 : Int32) (σ : St) (_ : k4 v0 v1 v2 v3 σ = some (r, σ')) (H : Heap) (locs : List Loc) (ls : Array Slot) (_ : GW G σ s H locs) (_ : lv_has ls 4 [(0, .ref (gz G + (v0))), (1, .int (v1)), (2, .int (v2)), (3, .int (v3))]), W p l e R s m args below meth c H locs cells slots Q (F0 m 4 ls [])) :
    ∀ (v0 : Nat) (h0 : kd v0 = 10) (v1 : Int32) (v3 : Int32) (s0 : Int32) (s1 : Int32) (σ : St) (_ : pf_X11_counted_b115 k4 v0 v1 v3 s0 s1 σ = some (r, σ')) (H : Heap) (locs : List Loc) (ls : Array Slot) (_ : GW G σ s H locs) (_ : lv_has ls 4 [(0, .ref (gz G + (v0))), (1, .int (v1)), (3, .int (v3))]), W p l e R s m args below meth c H locs cells slots Q (F0 m 115 ls [.int (s1), .int (s0)]) := by
  have hx := X.1.1
  have hb := X.1.2.1
  intro v0 h0 v1 v3 s0 s1 σ h H locs ls hW hl
  unfold pf_X11_counted_b115 at h
  refine lv_iadd hx hb dX11_counted_115 ?_
  refine nm_i h ?_
  clear h; intro v2_1 h
  refine lv_istore_n (lv' := [(2, .int (v2_1)), (0, .ref (gz G + (v0))), (1, .int (v1)), (3, .int (v3))]) hx hb dX11_counted_116 rfl hl (by decide) rfl ?_
  clear hl; intro ls hl
  refine w_iinc (v := 1) (lv' := fun y => [(3, .int (y)), (2, .int (v2_1)), (0, .ref (gz G + (v0))), (1, .int (v1))]) hx hb dX11_counted_117 hl (k := 3) rfl (by decide) (by decide) (fun _ => rfl) h ?_
  clear h hl; intro v3_2 h ls hl
  refine lv_goto (tgt := 4) hx hb dX11_counted_120 (by decide) ?_
  exact hk4 v0 h0 v1 v2_1 v3_2 σ h _ _ _ hW (lv_sub hl [2, 3, 1, 0] rfl)
set_option maxRecDepth 20000 in
set_option maxHeartbeats 4000000 in
theorem bl_X11_counted_L4 (X : Cx G p R s m args c cells slots cX11_counted 4 RX11 10) {r : Int32} {σ' : St} (hret : R_I G p l e R s m args below meth c cells slots Q cX11_counted r σ') :
    ∀ (n : Nat), ∀ (v0 : Nat) (h0 : kd v0 = 10) (v1 : Int32) (v2 : Int32) (v3 : Int32) (σ : St) (_ : pf_X11_counted_L4 n v0 v1 v2 v3 σ = some (r, σ')) (H : Heap) (locs : List Loc) (ls : Array Slot) (_ : GW G σ s H locs) (_ : lv_has ls 4 [(0, .ref (gz G + (v0))), (1, .int (v1)), (2, .int (v2)), (3, .int (v3))]), W p l e R s m args below meth c H locs cells slots Q (F0 m 4 ls []) := by
  have hx := X.1.1
  have hb := X.1.2.1
  intro n
  induction n with
  | zero => intro v0 h0 v1 v2 v3 σ h H locs ls hW hl; cases h
  | succ n ih =>
    intro v0 h0 v1 v2 v3 σ h H locs ls hW hl
    rw [pf_X11_counted_L4.eq_2] at h
    refine lv_iload_n hx hb dX11_counted_4 rfl (lv_at hl 3 rfl) ?_
    refine lv_aload_n hx hb dX11_counted_5 rfl (lv_at hl 0 rfl) ?_
    refine lv_iconst (v := 0) hx hb dX11_counted_6 (by decide) ?_
    obtain ⟨r_1, hcl, h⟩ := bind_el h
    refine call_V1 X hW (kC_X11 h0) m_7_17 m_7_19 m_0_68 mv_X11_get (c_X11_get h0 hcl) (by decide) rfl rfl (Nat.le_of_ble_eq_true rfl) hl.1 dX11_counted_7 ?_
    clear hW hcl; intro H locs hW
    refine lv_icmp_ge (tgt := 123) hx hb dX11_counted_10 (by decide) (fun hc => ?_) (fun hc => ?_)
    · replace h := if_t hc h
      refine lv_iload_n hx hb dX11_counted_123 rfl (lv_at hl 2 rfl) ?_
      exact ri_end hret h dX11_counted_124 hW
    · replace h := if_f hc h
      refine lv_iload_n hx hb dX11_counted_13 rfl (lv_at hl 2 rfl) ?_
      refine lv_iload_n hx hb dX11_counted_14 rfl (lv_at hl 1 rfl) ?_
      refine lv_iconst (v := 1) hx hb dX11_counted_15 (by decide) ?_
      refine lv_icmp_ne (tgt := 27) hx hb dX11_counted_16 (by decide) (fun hc => ?_) (fun hc => ?_)
      · replace h := if_f hc h
        refine lv_iload_n hx hb dX11_counted_27 rfl (lv_at hl 1 rfl) ?_
        refine lv_iconst (v := 2) hx hb dX11_counted_28 (by decide) ?_
        refine lv_icmp_ne (tgt := 50) hx hb dX11_counted_29 (by decide) (fun hc => ?_) (fun hc => ?_)
        · replace h := if_f hc h
          refine lv_iload_n hx hb dX11_counted_50 rfl (lv_at hl 1 rfl) ?_
          refine lv_iconst (v := 3) hx hb dX11_counted_51 (by decide) ?_
          refine lv_icmp_ne (tgt := 73) hx hb dX11_counted_52 (by decide) (fun hc => ?_) (fun hc => ?_)
          · replace h := if_f hc h
            refine lv_iload_n hx hb dX11_counted_73 rfl (lv_at hl 1 rfl) ?_
            refine lv_iconst (v := 4) hx hb dX11_counted_74 (by decide) ?_
            refine lv_icmp_ne (tgt := 89) hx hb dX11_counted_75 (by decide) (fun hc => ?_) (fun hc => ?_)
            · replace h := if_f hc h
              refine lv_iload_n hx hb dX11_counted_89 rfl (lv_at hl 1 rfl) ?_
              refine lv_iconst (v := 5) hx hb dX11_counted_90 (by decide) ?_
              refine lv_icmp_ne (tgt := 102) hx hb dX11_counted_91 (by decide) (fun hc => ?_) (fun hc => ?_)
              · replace h := if_f hc h
                refine lv_aload_n hx hb dX11_counted_102 rfl (lv_at hl 0 rfl) ?_
                refine lv_iload_n hx hb dX11_counted_103 rfl (lv_at hl 3 rfl) ?_
                obtain ⟨r_8, σ_8, hcl, h⟩ := bnd2_el h
                refine call_V1 X hW (kC_X11 h0) m_7_62 m_7_64 m_0_77 mv_X11_isPossible (c_X11_isPossible h0 hcl) (by decide) rfl rfl (Nat.le_of_ble_eq_true rfl) hl.1 dX11_counted_104 ?_
                clear hW hcl; intro H locs hW
                refine lv_if_eq (tgt := 114) hx hb dX11_counted_107 (by decide) (fun hc => ?_) (fun hc => ?_)
                · replace h := if_t hc h
                  refine lv_iconst (v := 0) hx hb dX11_counted_114 (by decide) ?_
                  exact bl_X11_counted_b115 X hret ih v0 h0 v1 v3 v2 0 σ_8 h _ _ _ hW (lv_sub hl [0, 1, 3] rfl)
                · replace h := if_f hc h
                  refine lv_iconst (v := 1) hx hb dX11_counted_110 (by decide) ?_
                  refine lv_goto (tgt := 115) hx hb dX11_counted_111 (by decide) ?_
                  exact bl_X11_counted_b115 X hret ih v0 h0 v1 v3 v2 1 σ_8 h _ _ _ hW (lv_sub hl [0, 1, 3] rfl)
              · replace h := if_t hc h
                refine lv_aload_n hx hb dX11_counted_94 rfl (lv_at hl 0 rfl) ?_
                refine lv_iload_n hx hb dX11_counted_95 rfl (lv_at hl 3 rfl) ?_
                obtain ⟨r_7, hcl, h⟩ := bind_el h
                refine call_V1 X hW (kC_X11 h0) m_7_58 m_7_60 m_0_76 mv_X11_failsOf (c_X11_failsOf h0 hcl) (by decide) rfl rfl (Nat.le_of_ble_eq_true rfl) hl.1 dX11_counted_96 ?_
                clear hW hcl; intro H locs hW
                refine lv_goto (tgt := 115) hx hb dX11_counted_99 (by decide) ?_
                exact bl_X11_counted_b115 X hret ih v0 h0 v1 v3 v2 r_7 σ h _ _ _ hW (lv_sub hl [0, 1, 3] rfl)
            · replace h := if_t hc h
              refine lv_aload_n hx hb dX11_counted_78 rfl (lv_at hl 0 rfl) ?_
              refine lv_iload_n hx hb dX11_counted_79 rfl (lv_at hl 3 rfl) ?_
              obtain ⟨r_5, hcl, h⟩ := bind_el h
              refine call_V1 X hW (kC_X11 h0) m_7_46 m_7_48 m_0_74 mv_X11_doneSet (c_X11_doneSet h0 hcl) (by decide) rfl rfl (Nat.le_of_ble_eq_true rfl) hl.1 dX11_counted_80 ?_
              clear hW hcl; intro H locs hW
              obtain ⟨r_6, hcl, h⟩ := bind_el h
              refine call_S1 X hW m_7_57 m_2_221 mv_J6_bitCount_0f7a4 (c_J6_bitCount_0f7a4 hcl) (by decide) rfl rfl (Nat.le_of_ble_eq_true rfl) hl.1 dX11_counted_83 ?_
              clear hW hcl; intro H locs hW
              refine lv_goto (tgt := 115) hx hb dX11_counted_86 (by decide) ?_
              exact bl_X11_counted_b115 X hret ih v0 h0 v1 v3 v2 r_6 σ h _ _ _ hW (lv_sub hl [0, 1, 3] rfl)
          · replace h := if_t hc h
            refine lv_aload_n hx hb dX11_counted_55 rfl (lv_at hl 0 rfl) ?_
            refine lv_iload_n hx hb dX11_counted_56 rfl (lv_at hl 3 rfl) ?_
            refine lv_iconst (v := 1) hx hb dX11_counted_57 (by decide) ?_
            obtain ⟨r_4, hcl, h⟩ := bind_el h
            refine call_V1 X hW (kC_X11 h0) m_7_42 m_7_44 m_0_73 mv_X11_ofQuest (c_X11_ofQuest h0 hcl) (by decide) rfl rfl (Nat.le_of_ble_eq_true rfl) hl.1 dX11_counted_58 ?_
            clear hW hcl; intro H locs hW
            refine lv_iconst (v := 2) hx hb dX11_counted_61 (by decide) ?_
            refine lv_icmp_ne (tgt := 69) hx hb dX11_counted_62 (by decide) (fun hc => ?_) (fun hc => ?_)
            · replace h := if_f hc h
              refine lv_iconst (v := 0) hx hb dX11_counted_69 (by decide) ?_
              refine lv_goto (tgt := 115) hx hb dX11_counted_70 (by decide) ?_
              exact bl_X11_counted_b115 X hret ih v0 h0 v1 v3 v2 0 σ h _ _ _ hW (lv_sub hl [0, 1, 3] rfl)
            · replace h := if_t hc h
              refine lv_iconst (v := 1) hx hb dX11_counted_65 (by decide) ?_
              refine lv_goto (tgt := 115) hx hb dX11_counted_66 (by decide) ?_
              exact bl_X11_counted_b115 X hret ih v0 h0 v1 v3 v2 1 σ h _ _ _ hW (lv_sub hl [0, 1, 3] rfl)
        · replace h := if_t hc h
          refine lv_aload_n hx hb dX11_counted_32 rfl (lv_at hl 0 rfl) ?_
          refine lv_iload_n hx hb dX11_counted_33 rfl (lv_at hl 3 rfl) ?_
          refine lv_iconst (v := 1) hx hb dX11_counted_34 (by decide) ?_
          obtain ⟨r_3, hcl, h⟩ := bind_el h
          refine call_V1 X hW (kC_X11 h0) m_7_42 m_7_44 m_0_73 mv_X11_ofQuest (c_X11_ofQuest h0 hcl) (by decide) rfl rfl (Nat.le_of_ble_eq_true rfl) hl.1 dX11_counted_35 ?_
          clear hW hcl; intro H locs hW
          refine lv_iconst (v := 1) hx hb dX11_counted_38 (by decide) ?_
          refine lv_icmp_ne (tgt := 46) hx hb dX11_counted_39 (by decide) (fun hc => ?_) (fun hc => ?_)
          · replace h := if_f hc h
            refine lv_iconst (v := 0) hx hb dX11_counted_46 (by decide) ?_
            refine lv_goto (tgt := 115) hx hb dX11_counted_47 (by decide) ?_
            exact bl_X11_counted_b115 X hret ih v0 h0 v1 v3 v2 0 σ h _ _ _ hW (lv_sub hl [0, 1, 3] rfl)
          · replace h := if_t hc h
            refine lv_iconst (v := 1) hx hb dX11_counted_42 (by decide) ?_
            refine lv_goto (tgt := 115) hx hb dX11_counted_43 (by decide) ?_
            exact bl_X11_counted_b115 X hret ih v0 h0 v1 v3 v2 1 σ h _ _ _ hW (lv_sub hl [0, 1, 3] rfl)
      · replace h := if_t hc h
        refine lv_aload_n hx hb dX11_counted_19 rfl (lv_at hl 0 rfl) ?_
        refine lv_iload_n hx hb dX11_counted_20 rfl (lv_at hl 3 rfl) ?_
        obtain ⟨r_2, hcl, h⟩ := bind_el h
        refine call_V1 X hW (kC_X11 h0) m_7_38 m_7_40 m_0_72 mv_X11_stepsOf (c_X11_stepsOf h0 hcl) (by decide) rfl rfl (Nat.le_of_ble_eq_true rfl) hl.1 dX11_counted_21 ?_
        clear hW hcl; intro H locs hW
        refine lv_goto (tgt := 115) hx hb dX11_counted_24 (by decide) ?_
        exact bl_X11_counted_b115 X hret ih v0 h0 v1 v3 v2 r_2 σ h _ _ _ hW (lv_sub hl [0, 1, 3] rfl)
set_option maxRecDepth 20000 in
set_option maxHeartbeats 4000000 in
theorem c_X11_counted {G : Gt} {l : Launch} {v0 : Nat} (h0 : kd v0 = 10) {v1 : Int32} {σ : St} {r : Int32} {σ' : St} (hf : pf_X11_counted v0 v1 σ = some (r, σ')) : Ct G l yX11_counted cX11_counted 4 (some .int) 10 [.ref (gz G + (v0)), .int (v1)] σ (some (.int r)) σ' := by
  refine met_i (by decide +kernel) (Nat.le_of_ble_eq_true rfl) rfl ?_
  intro p e s m args below meth c Q ls X hW hret hl
  have hx := X.1.1
  have hb := X.1.2.1
  have hl : lv_has ls 4 [(0, .ref (gz G + (v0))), (1, .int (v1))] := hl
  have h := hf
  clear hf
  unfold pf_X11_counted at h
  refine lv_iconst (v := 0) hx hb dX11_counted_0 (by decide) ?_
  refine lv_istore_n (lv' := [(2, .int (0)), (0, .ref (gz G + (v0))), (1, .int (v1))]) hx hb dX11_counted_1 rfl hl (by decide) rfl ?_
  clear hl; intro ls hl
  refine lv_iconst (v := 0) hx hb dX11_counted_2 (by decide) ?_
  refine lv_istore_n (lv' := [(3, .int (0)), (2, .int (0)), (0, .ref (gz G + (v0))), (1, .int (v1))]) hx hb dX11_counted_3 rfl hl (by decide) rfl ?_
  clear hl; intro ls hl
  exact bl_X11_counted_L4 X hret FU v0 h0 v1 0 0 σ h _ _ _ hW (lv_sub hl [2, 3, 1, 0] rfl)
set_option maxRecDepth 20000 in
set_option maxHeartbeats 4000000 in
theorem c_X11_told {G : Gt} {l : Launch} {v0 : Nat} (h0 : kd v0 = 10) {v1 : Int32} {σ : St} {r : Int32} {σ' : St} (hf : pf_X11_told v0 v1 σ = some (r, σ')) : Ct G l yX11_told cX11_told 2 (some .int) 11 [.ref (gz G + (v0)), .int (v1)] σ (some (.int r)) σ' := by
  refine met_i (by decide +kernel) (Nat.le_of_ble_eq_true rfl) rfl ?_
  intro p e s m args below meth c Q ls X hW hret hl
  have hx := X.1.1
  have hb := X.1.2.1
  have hl : lv_has ls 2 [(0, .ref (gz G + (v0))), (1, .int (v1))] := hl
  have h := hf
  clear hf
  unfold pf_X11_told at h
  refine lv_iload_n hx hb dX11_told_0 rfl (lv_at hl 1 rfl) ?_
  by_cases hc0 : v1 = 0
  · replace h := if_t hc0 h
    refine lv_lookup (off := 35) (tgt := 36) hx hb dX11_told_1 (by decide) (by rw [hc0]; decide) (by decide) ?_
    refine lv_aload_n hx hb dX11_told_36 rfl (lv_at hl 0 rfl) ?_
    refine lv_iconst (v := 0) hx hb dX11_told_37 (by decide) ?_
    obtain ⟨r_1, hcl, h⟩ := bind_el h
    refine call_V1 X hW (kC_X11 h0) m_7_17 m_7_19 m_0_68 mv_X11_get (c_X11_get h0 hcl) (by decide) rfl rfl (Nat.le_of_ble_eq_true rfl) hl.1 dX11_told_38 ?_
    clear hW hcl; intro H locs hW
    exact ri_end hret h dX11_told_41 hW
  replace h := if_f hc0 h
  by_cases hc1 : v1 = 6
  · replace h := if_t hc1 h
    refine lv_lookup (off := 41) (tgt := 42) hx hb dX11_told_1 (by decide) (by rw [hc1]; decide) (by decide) ?_
    refine lv_aload_n hx hb dX11_told_42 rfl (lv_at hl 0 rfl) ?_
    refine lv_iconst (v := 2) hx hb dX11_told_43 (by decide) ?_
    obtain ⟨r_2, hcl, h⟩ := bind_el h
    refine call_V1 X hW (kC_X11 h0) m_7_17 m_7_19 m_0_68 mv_X11_get (c_X11_get h0 hcl) (by decide) rfl rfl (Nat.le_of_ble_eq_true rfl) hl.1 dX11_told_44 ?_
    clear hW hcl; intro H locs hW
    exact ri_end hret h dX11_told_47 hW
  replace h := if_f hc1 h
  by_cases hc2 : v1 = 7
  · replace h := if_t hc2 h
    refine lv_lookup (off := 47) (tgt := 48) hx hb dX11_told_1 (by decide) (by rw [hc2]; decide) (by decide) ?_
    refine lv_aload_n hx hb dX11_told_48 rfl (lv_at hl 0 rfl) ?_
    refine lv_iconst (v := 1) hx hb dX11_told_49 (by decide) ?_
    obtain ⟨r_3, hcl, h⟩ := bind_el h
    refine call_V1 X hW (kC_X11 h0) m_7_17 m_7_19 m_0_68 mv_X11_get (c_X11_get h0 hcl) (by decide) rfl rfl (Nat.le_of_ble_eq_true rfl) hl.1 dX11_told_50 ?_
    clear hW hcl; intro H locs hW
    exact ri_end hret h dX11_told_53 hW
  replace h := if_f hc2 h
  refine lv_lookup (off := 53) (tgt := 54) hx hb dX11_told_1 (by decide) (by simp [Op.lookupswitch.offset, i_ne2 (k := 0) hc0, i_ne2 (k := 6) hc1, i_ne2 (k := 7) hc2]) (by decide) ?_
  skip
  refine lv_aload_n hx hb dX11_told_54 rfl (lv_at hl 0 rfl) ?_
  refine lv_iload_n hx hb dX11_told_55 rfl (lv_at hl 1 rfl) ?_
  obtain ⟨r_4, σ_4, hcl, h⟩ := bnd2_el h
  refine call_V1 X hW (kC_X11 h0) m_7_34 m_7_36 m_0_71 mv_X11_counted (c_X11_counted h0 hcl) (by decide) rfl rfl (Nat.le_of_ble_eq_true rfl) hl.1 dX11_told_56 ?_
  clear hW hcl; intro H locs hW
  exact ri_end hret h dX11_told_59 hW
set_option maxRecDepth 20000 in
set_option maxHeartbeats 4000000 in
theorem c_X11_state {G : Gt} {l : Launch} {v0 : Nat} (h0 : kd v0 = 10) {v1 : Int32} {σ : St} {r : Int32} {σ' : St} (hf : pf_X11_state v0 v1 σ = some (r, σ')) : Ct G l yX11_state cX11_state 2 (some .int) 12 [.ref (gz G + (v0)), .int (v1)] σ (some (.int r)) σ' := by
  refine met_i (by decide +kernel) (Nat.le_of_ble_eq_true rfl) rfl ?_
  intro p e s m args below meth c Q ls X hW hret hl
  have hx := X.1.1
  have hb := X.1.2.1
  have hl : lv_has ls 2 [(0, .ref (gz G + (v0))), (1, .int (v1))] := hl
  have h := hf
  clear hf
  unfold pf_X11_state at h
  refine lv_aload_n hx hb dX11_state_0 rfl (lv_at hl 0 rfl) ?_
  refine lv_iconst (v := 0) hx hb dX11_state_1 (by decide) ?_
  refine sf_X11_thrown X hW h0 m_6_6 dX11_state_2 ?_
  clear hW; intro H locs hW
  refine nm_s hW h ?_
  clear hW h; intro σ_1 hW h
  refine lv_aload_n hx hb dX11_state_5 rfl (lv_at hl 0 rfl) ?_
  refine lv_iload_n hx hb dX11_state_6 rfl (lv_at hl 1 rfl) ?_
  refine lv_iconst (v := 0) hx hb dX11_state_7 (by decide) ?_
  refine lv_bipush (v := 8) hx hb dX11_state_8 (by decide) ?_
  obtain ⟨r_2, hcl, h⟩ := bind_el h
  refine call_S1 X hW m_6_109 m_6_110 mv_X11_isIn (c_X11_isIn hcl) (by decide) rfl rfl (Nat.le_of_ble_eq_true rfl) hl.1 dX11_state_10 ?_
  clear hW hcl; intro H locs hW
  refine lv_iconst (v := 1) hx hb dX11_state_13 (by decide) ?_
  obtain ⟨r_3, σ_3, hcl, h⟩ := bnd2_el h
  refine call_V1 X hW (kC_X11 h0) m_6_112 m_6_114 m_0_39 mv_X11_right (c_X11_right h0 hcl) (by decide) rfl rfl (Nat.le_of_ble_eq_true rfl) hl.1 dX11_state_14 ?_
  clear hW hcl; intro H locs hW
  refine lv_if_eq (tgt := 28) hx hb dX11_state_17 (by decide) (fun hc => ?_) (fun hc => ?_)
  · replace h := if_t hc h
    refine lv_iconst (v := 0) hx hb dX11_state_28 (by decide) ?_
    exact ri_end hret h dX11_state_29 hW
  · replace h := if_f hc h
    refine lv_aload_n hx hb dX11_state_20 rfl (lv_at hl 0 rfl) ?_
    refine lv_iload_n hx hb dX11_state_21 rfl (lv_at hl 1 rfl) ?_
    obtain ⟨r_4, σ_4, hcl, h⟩ := bnd2_el h
    refine call_V1 X hW (kC_X11 h0) m_7_30 m_7_32 m_0_70 mv_X11_told (c_X11_told h0 hcl) (by decide) rfl rfl (Nat.le_of_ble_eq_true rfl) hl.1 dX11_state_22 ?_
    clear hW hcl; intro H locs hW
    refine lv_goto (tgt := 29) hx hb dX11_state_25 (by decide) ?_
    exact ri_end hret h dX11_state_29 hW
set_option maxRecDepth 20000 in
set_option maxHeartbeats 4000000 in
theorem c_X11_isItem {G : Gt} {l : Launch} {v0 : Nat} (h0 : kd v0 = 10) {v1 : Int32} {σ : St} {r : Int32} {σ' : St} (hf : pf_X11_isItem v0 v1 σ = some (r, σ')) : Ct G l yX11_isItem cX11_isItem 2 (some .boolean) 3 [.ref (gz G + (v0)), .int (v1)] σ (some (.int r)) σ' := by
  refine met_z (by decide +kernel) (Nat.le_of_ble_eq_true rfl) rfl ?_
  intro p e s m args below meth c Q ls X hW hret hl
  have hx := X.1.1
  have hb := X.1.2.1
  have hl : lv_has ls 2 [(0, .ref (gz G + (v0))), (1, .int (v1))] := hl
  have h := hf
  clear hf
  unfold pf_X11_isItem at h
  refine lv_aload_n hx hb dX11_isItem_0 rfl (lv_at hl 0 rfl) ?_
  refine lv_iload_n hx hb dX11_isItem_1 rfl (lv_at hl 1 rfl) ?_
  refine lv_iconst (v := 0) hx hb dX11_isItem_2 (by decide) ?_
  refine lv_bipush (v := 7) hx hb dX11_isItem_3 (by decide) ?_
  obtain ⟨r_1, hcl, h⟩ := bind_el h
  refine call_S1 X hW m_6_109 m_6_110 mv_X11_isIn (c_X11_isIn hcl) (by decide) rfl rfl (Nat.le_of_ble_eq_true rfl) hl.1 dX11_isItem_5 ?_
  clear hW hcl; intro H locs hW
  refine lv_iconst (v := 1) hx hb dX11_isItem_8 (by decide) ?_
  obtain ⟨r_2, σ_2, hcl, h⟩ := bnd2_el h
  refine call_V1 X hW (kC_X11 h0) m_6_112 m_6_114 m_0_39 mv_X11_right (c_X11_right h0 hcl) (by decide) rfl rfl (Nat.le_of_ble_eq_true rfl) hl.1 dX11_isItem_9 ?_
  clear hW hcl; intro H locs hW
  obtain ⟨hz, h⟩ := ckZ_el h
  exact rz_end hret h hz dX11_isItem_12 hW
set_option maxRecDepth 20000 in
set_option maxHeartbeats 4000000 in
theorem c_X11_isQuest {G : Gt} {l : Launch} {v0 : Nat} (h0 : kd v0 = 10) {v1 : Int32} {σ : St} {r : Int32} {σ' : St} (hf : pf_X11_isQuest v0 v1 σ = some (r, σ')) : Ct G l yX11_isQuest cX11_isQuest 2 (some .boolean) 3 [.ref (gz G + (v0)), .int (v1)] σ (some (.int r)) σ' := by
  refine met_z (by decide +kernel) (Nat.le_of_ble_eq_true rfl) rfl ?_
  intro p e s m args below meth c Q ls X hW hret hl
  have hx := X.1.1
  have hb := X.1.2.1
  have hl : lv_has ls 2 [(0, .ref (gz G + (v0))), (1, .int (v1))] := hl
  have h := hf
  clear hf
  unfold pf_X11_isQuest at h
  refine lv_aload_n hx hb dX11_isQuest_0 rfl (lv_at hl 0 rfl) ?_
  refine lv_iload_n hx hb dX11_isQuest_1 rfl (lv_at hl 1 rfl) ?_
  refine lv_iconst (v := 0) hx hb dX11_isQuest_2 (by decide) ?_
  refine lv_aload_n hx hb dX11_isQuest_3 rfl (lv_at hl 0 rfl) ?_
  refine lv_iconst (v := 0) hx hb dX11_isQuest_4 (by decide) ?_
  obtain ⟨r_1, hcl, h⟩ := bind_el h
  refine call_V1 X hW (kC_X11 h0) m_7_17 m_7_19 m_0_68 mv_X11_get (c_X11_get h0 hcl) (by decide) rfl rfl (Nat.le_of_ble_eq_true rfl) hl.1 dX11_isQuest_5 ?_
  clear hW hcl; intro H locs hW
  refine lv_iconst (v := 1) hx hb dX11_isQuest_8 (by decide) ?_
  refine lv_isub hx hb dX11_isQuest_9 ?_
  obtain ⟨r_2, hcl, h⟩ := bind_el h
  refine call_S1 X hW m_6_109 m_6_110 mv_X11_isIn (c_X11_isIn hcl) (by decide) rfl rfl (Nat.le_of_ble_eq_true rfl) hl.1 dX11_isQuest_10 ?_
  clear hW hcl; intro H locs hW
  refine lv_iconst (v := 1) hx hb dX11_isQuest_13 (by decide) ?_
  obtain ⟨r_3, σ_3, hcl, h⟩ := bnd2_el h
  refine call_V1 X hW (kC_X11 h0) m_6_112 m_6_114 m_0_39 mv_X11_right (c_X11_right h0 hcl) (by decide) rfl rfl (Nat.le_of_ble_eq_true rfl) hl.1 dX11_isQuest_14 ?_
  clear hW hcl; intro H locs hW
  obtain ⟨hz, h⟩ := ckZ_el h
  exact rz_end hret h hz dX11_isQuest_17 hW
set_option maxRecDepth 20000 in
set_option maxHeartbeats 4000000 in
theorem c_X11_isStep {G : Gt} {l : Launch} {v0 : Nat} (h0 : kd v0 = 10) {v1 : Int32} {v2 : Int32} {σ : St} {r : Int32} {σ' : St} (hf : pf_X11_isStep v0 v1 v2 σ = some (r, σ')) : Ct G l yX11_isStep cX11_isStep 3 (some .boolean) 5 [.ref (gz G + (v0)), .int (v1), .int (v2)] σ (some (.int r)) σ' := by
  refine met_z (by decide +kernel) (Nat.le_of_ble_eq_true rfl) rfl ?_
  intro p e s m args below meth c Q ls X hW hret hl
  have hx := X.1.1
  have hb := X.1.2.1
  have hl : lv_has ls 3 [(0, .ref (gz G + (v0))), (1, .int (v1)), (2, .int (v2))] := hl
  have h := hf
  clear hf
  unfold pf_X11_isStep at h
  refine lv_aload_n hx hb dX11_isStep_0 rfl (lv_at hl 0 rfl) ?_
  refine lv_iload_n hx hb dX11_isStep_1 rfl (lv_at hl 1 rfl) ?_
  obtain ⟨r_1, σ_1, hcl, h⟩ := bnd2_el h
  refine call_V1 X hW (kC_X11 h0) m_7_112 m_7_114 m_0_87 mv_X11_isQuest (c_X11_isQuest h0 hcl) (by decide) rfl rfl (Nat.le_of_ble_eq_true rfl) hl.1 dX11_isStep_2 ?_
  clear hW hcl; intro H locs hW
  refine lv_if_eq (tgt := 32) hx hb dX11_isStep_5 (by decide) (fun hc => ?_) (fun hc => ?_)
  · replace h := if_t hc h
    refine lv_iconst (v := 0) hx hb dX11_isStep_32 (by decide) ?_
    exact rz_end hret h (by decide) dX11_isStep_33 hW
  · replace h := if_f hc h
    refine lv_aload_n hx hb dX11_isStep_8 rfl (lv_at hl 0 rfl) ?_
    refine lv_iload_n hx hb dX11_isStep_9 rfl (lv_at hl 2 rfl) ?_
    refine lv_iconst (v := 0) hx hb dX11_isStep_10 (by decide) ?_
    refine lv_aload_n hx hb dX11_isStep_11 rfl (lv_at hl 0 rfl) ?_
    refine lv_iload_n hx hb dX11_isStep_12 rfl (lv_at hl 1 rfl) ?_
    obtain ⟨r_2, hcl, h⟩ := bind_el h
    refine call_V1 X hW (kC_X11 h0) m_7_38 m_7_40 m_0_72 mv_X11_stepsOf (c_X11_stepsOf h0 hcl) (by decide) rfl rfl (Nat.le_of_ble_eq_true rfl) hl.1 dX11_isStep_13 ?_
    clear hW hcl; intro H locs hW
    refine lv_iconst (v := 1) hx hb dX11_isStep_16 (by decide) ?_
    refine lv_isub hx hb dX11_isStep_17 ?_
    obtain ⟨r_3, hcl, h⟩ := bind_el h
    refine call_S1 X hW m_6_109 m_6_110 mv_X11_isIn (c_X11_isIn hcl) (by decide) rfl rfl (Nat.le_of_ble_eq_true rfl) hl.1 dX11_isStep_18 ?_
    clear hW hcl; intro H locs hW
    refine lv_iconst (v := 1) hx hb dX11_isStep_21 (by decide) ?_
    obtain ⟨r_4, σ_4, hcl, h⟩ := bnd2_el h
    refine call_V1 X hW (kC_X11 h0) m_6_112 m_6_114 m_0_39 mv_X11_right (c_X11_right h0 hcl) (by decide) rfl rfl (Nat.le_of_ble_eq_true rfl) hl.1 dX11_isStep_22 ?_
    clear hW hcl; intro H locs hW
    refine lv_if_eq (tgt := 32) hx hb dX11_isStep_25 (by decide) (fun hc => ?_) (fun hc => ?_)
    · replace h := if_t hc h
      refine lv_iconst (v := 0) hx hb dX11_isStep_32 (by decide) ?_
      exact rz_end hret h (by decide) dX11_isStep_33 hW
    · replace h := if_f hc h
      refine lv_iconst (v := 1) hx hb dX11_isStep_28 (by decide) ?_
      refine lv_goto (tgt := 33) hx hb dX11_isStep_29 (by decide) ?_
      exact rz_end hret h (by decide) dX11_isStep_33 hW
end
