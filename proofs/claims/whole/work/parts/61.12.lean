section
variable {G : Gt} {p : Program} {l : Launch} {e : Env} {R : Room} {s : State} {m : MethodId} {args : Array Value} {below : List Frame} {meth : Method} {c : Code} {cells slots : Nat} {Q : State → Prop}
set_option maxRecDepth 20000 in
set_option maxHeartbeats 4000000 in
theorem bl_X11_readsOnce_b72 (X : Cx G p R s m args c cells slots cX11_readsOnce 2 RX11 36) {r : Int32} {σ' : St} (hret : R_Z G p l e R s m args below meth c cells slots Q cX11_readsOnce r σ') :
    ∀ (v0 : Nat) (h0 : kd v0 = 10) (v1 : Int32) (σ : St) (_ : pf_X11_readsOnce_b72 v0 v1 σ = some (r, σ')) (H : Heap) (locs : List Loc) (ls : Array Slot) (_ : GW G σ s H locs) (_ : lv_has ls 2 [(0, .ref (gz G + (v0))), (1, .int (v1))]), W p l e R s m args below meth c H locs cells slots Q (F0 m 72 ls []) := by
  have hx := X.1.1
  have hb := X.1.2.1
  intro v0 h0 v1 σ h H locs ls hW hl
  unfold pf_X11_readsOnce_b72 at h
  refine lv_aload_n hx hb dX11_readsOnce_72 rfl (lv_at hl 0 rfl) ?_
  refine lv_bipush (v := (-2)) hx hb dX11_readsOnce_73 (by decide) ?_
  refine lv_iload_n hx hb dX11_readsOnce_75 rfl (lv_at hl 1 rfl) ?_
  obtain ⟨r_1, σ_1, hcl, h⟩ := bnd2_el h
  refine call_V1 X hW (kC_X11 h0) m_6_134 m_6_136 m_0_43 mv_X11_fails (c_X11_fails h0 hcl) (by decide) rfl rfl (Nat.le_of_ble_eq_true rfl) hl.1 dX11_readsOnce_76 ?_
  clear hW hcl; intro H locs hW
  obtain ⟨hz, h⟩ := ckZ_el h
  exact rz_end hret h hz dX11_readsOnce_79 hW
set_option maxRecDepth 20000 in
set_option maxHeartbeats 4000000 in
theorem c_X11_readsOnce {G : Gt} {l : Launch} {v0 : Nat} (h0 : kd v0 = 10) {v1 : Int32} {σ : St} {r : Int32} {σ' : St} (hf : pf_X11_readsOnce v0 v1 σ = some (r, σ')) : Ct G l yX11_readsOnce cX11_readsOnce 2 (some .boolean) 36 [.ref (gz G + (v0)), .int (v1)] σ (some (.int r)) σ' := by
  refine met_z (by decide +kernel) (Nat.le_of_ble_eq_true rfl) rfl ?_
  intro p e s m args below meth c Q ls X hW hret hl
  have hx := X.1.1
  have hb := X.1.2.1
  have hl : lv_has ls 2 [(0, .ref (gz G + (v0))), (1, .int (v1))] := hl
  have h := hf
  clear hf
  unfold pf_X11_readsOnce at h
  refine lv_aload_n hx hb dX11_readsOnce_0 rfl (lv_at hl 0 rfl) ?_
  refine r_ldcS (k := 45) X hW (by decide) rfl rfl dX11_readsOnce_1 ?_
  obtain ⟨r_1, σ_1, hcl, h⟩ := bnd2_el h
  refine call_V1 X hW (kC_X11 h0) m_6_121 m_6_123 m_0_41 mv_X11_takes (c_X11_takes h0 (by decide) hcl) (by decide) rfl rfl (Nat.le_of_ble_eq_true rfl) hl.1 dX11_readsOnce_4 ?_
  clear hW hcl; intro H locs hW
  refine lv_if_eq (tgt := 55) hx hb dX11_readsOnce_7 (by decide) (fun hc => ?_) (fun hc => ?_)
  · replace h := if_t hc h
    refine lv_aload_n hx hb dX11_readsOnce_55 rfl (lv_at hl 0 rfl) ?_
    refine r_ldcS (k := 46) X hW (by decide) rfl rfl dX11_readsOnce_56 ?_
    obtain ⟨r_2, σ_2, hcl, h⟩ := bnd2_el h
    refine call_V1 X hW (kC_X11 h0) m_6_121 m_6_123 m_0_41 mv_X11_takes (c_X11_takes h0 (by decide) hcl) (by decide) rfl rfl (Nat.le_of_ble_eq_true rfl) hl.1 dX11_readsOnce_59 ?_
    clear hW hcl; intro H locs hW
    refine lv_if_eq (tgt := 72) hx hb dX11_readsOnce_62 (by decide) (fun hc => ?_) (fun hc => ?_)
    · replace h := if_t hc h
      exact bl_X11_readsOnce_b72 X hret v0 h0 v1 σ_2 h _ _ _ hW (lv_sub hl [0, 1] rfl)
    · replace h := if_f hc h
      refine lv_aload_n hx hb dX11_readsOnce_65 rfl (lv_at hl 0 rfl) ?_
      refine gf_X11_hasWorth X hW h0 m_6_30 dX11_readsOnce_66 ?_
      refine lv_if_eq (tgt := 80) hx hb dX11_readsOnce_69 (by decide) (fun hc => ?_) (fun hc => ?_)
      · replace h := if_t hc h
        refine lv_aload_n hx hb dX11_readsOnce_80 rfl (lv_at hl 0 rfl) ?_
        refine lv_iconst (v := 1) hx hb dX11_readsOnce_81 (by decide) ?_
        refine sf_X11_hasWorth X hW (by decide) h0 m_6_30 dX11_readsOnce_82 ?_
        clear hW; intro H locs hW
        refine nm_s hW h ?_
        clear hW h; intro σ_3 hW h
        refine lv_aload_n hx hb dX11_readsOnce_85 rfl (lv_at hl 0 rfl) ?_
        refine lv_iconst (v := 0) hx hb dX11_readsOnce_86 (by decide) ?_
        refine sf_X11_nested X hW h0 m_6_27 dX11_readsOnce_87 ?_
        clear hW; intro H locs hW
        refine nm_s hW h ?_
        clear hW h; intro σ_4 hW h
        refine lv_aload_n hx hb dX11_readsOnce_90 rfl (lv_at hl 0 rfl) ?_
        obtain ⟨r_5, σ_5, hcl, h⟩ := bnd2_el h
        refine call_V1 X hW (kC_X11 h0) m_6_228 m_6_230 m_0_62 mv_X11_readsSum (c_X11_readsSum 8 h0 hcl) (by decide) rfl rfl (Nat.le_of_ble_eq_true rfl) hl.1 dX11_readsOnce_91 ?_
        clear hW hcl; intro H locs hW
        obtain ⟨hz, h⟩ := ckZ_el h
        exact rz_end hret h hz dX11_readsOnce_94 hW
      · replace h := if_f hc h
        exact bl_X11_readsOnce_b72 X hret v0 h0 v1 σ_2 h _ _ _ hW (lv_sub hl [0, 1] rfl)
  · replace h := if_f hc h
    refine lv_aload_n hx hb dX11_readsOnce_10 rfl (lv_at hl 0 rfl) ?_
    refine gf_X11_hasSeed X hW h0 m_6_29 dX11_readsOnce_11 ?_
    refine lv_if_eq (tgt := 25) hx hb dX11_readsOnce_14 (by decide) (fun hc => ?_) (fun hc => ?_)
    · replace h := if_t hc h
      refine lv_aload_n hx hb dX11_readsOnce_25 rfl (lv_at hl 0 rfl) ?_
      refine lv_iconst (v := 1) hx hb dX11_readsOnce_26 (by decide) ?_
      refine sf_X11_hasSeed X hW (by decide) h0 m_6_29 dX11_readsOnce_27 ?_
      clear hW; intro H locs hW
      refine nm_s hW h ?_
      clear hW h; intro σ_6 hW h
      refine lv_aload_n hx hb dX11_readsOnce_30 rfl (lv_at hl 0 rfl) ?_
      refine lv_iconst (v := 0) hx hb dX11_readsOnce_31 (by decide) ?_
      refine lv_sipush (v := 9999) hx hb dX11_readsOnce_32 (by decide) ?_
      obtain ⟨r_7, σ_7, hcl, h⟩ := bnd2_el h
      refine call_V1 X hW (kC_X11 h0) m_6_147 m_6_149 m_0_46 mv_X11_reads (c_X11_reads h0 hcl) (by decide) rfl rfl (Nat.le_of_ble_eq_true rfl) hl.1 dX11_readsOnce_35 ?_
      clear hW hcl; intro H locs hW
      refine lv_if_ne (tgt := 43) hx hb dX11_readsOnce_38 (by decide) (fun hc => ?_) (fun hc => ?_)
      · replace h := if_f hc h
        refine lv_aload_n hx hb dX11_readsOnce_43 rfl (lv_at hl 0 rfl) ?_
        refine gf_X11_read X hW h0 m_6_8 dX11_readsOnce_44 ?_
        refine lv_iconst (v := 1) hx hb dX11_readsOnce_47 (by decide) ?_
        refine lv_aload_n hx hb dX11_readsOnce_48 rfl (lv_at hl 0 rfl) ?_
        refine gf_X11_number X hW h0 m_6_25 dX11_readsOnce_49 ?_
        obtain ⟨hi8, h⟩ := ckI_el h
        refine r_iast X hW (kf_X11_read h0) hi8 dX11_readsOnce_52 ?_
        clear hW; intro H locs hW
        refine nm_s hW h ?_
        clear hW h; intro σ_9 hW h
        refine lv_iconst (v := 1) hx hb dX11_readsOnce_53 (by decide) ?_
        exact rz_end hret h (by decide) dX11_readsOnce_54 hW
      · replace h := if_t hc h
        refine lv_iconst (v := 0) hx hb dX11_readsOnce_41 (by decide) ?_
        exact rz_end hret h (by decide) dX11_readsOnce_42 hW
    · replace h := if_f hc h
      refine lv_aload_n hx hb dX11_readsOnce_17 rfl (lv_at hl 0 rfl) ?_
      refine lv_bipush (v := (-2)) hx hb dX11_readsOnce_18 (by decide) ?_
      refine lv_iload_n hx hb dX11_readsOnce_20 rfl (lv_at hl 1 rfl) ?_
      obtain ⟨r_10, σ_10, hcl, h⟩ := bnd2_el h
      refine call_V1 X hW (kC_X11 h0) m_6_134 m_6_136 m_0_43 mv_X11_fails (c_X11_fails h0 hcl) (by decide) rfl rfl (Nat.le_of_ble_eq_true rfl) hl.1 dX11_readsOnce_21 ?_
      clear hW hcl; intro H locs hW
      obtain ⟨hz, h⟩ := ckZ_el h
      exact rz_end hret h hz dX11_readsOnce_24 hW
set_option maxRecDepth 20000 in
set_option maxHeartbeats 4000000 in
theorem bl_X11_readsLedger_b121 (X : Cx G p R s m args c cells slots cX11_readsLedger 3 RX11 44) {r : Int32} {σ' : St} (hret : R_Z G p l e R s m args below meth c cells slots Q cX11_readsLedger r σ') {k69 : Nat → St → (Option (Int32 × St))}
    (hk69 : ∀ (v0 : Nat) (h0 : kd v0 = 10) (σ : St) (_ : k69 v0 σ = some (r, σ')) (H : Heap) (locs : List Loc) (ls : Array Slot) (_ : GW G σ s H locs) (_ : lv_has ls 3 [(0, .ref (gz G + (v0)))]), W p l e R s m args below meth c H locs cells slots Q (F0 m 69 ls [])) :
    ∀ (v0 : Nat) (h0 : kd v0 = 10) (s0 : Int32) (σ : St) (_ : pf_X11_readsLedger_b121 k69 v0 s0 σ = some (r, σ')) (H : Heap) (locs : List Loc) (ls : Array Slot) (_ : GW G σ s H locs) (_ : lv_has ls 3 [(0, .ref (gz G + (v0)))]), W p l e R s m args below meth c H locs cells slots Q (F0 m 121 ls [.int (s0)]) := by
  have hx := X.1.1
  have hb := X.1.2.1
  intro v0 h0 s0 σ h H locs ls hW hl
  unfold pf_X11_readsLedger_b121 at h
  refine lv_istore_n (lv' := [(2, .int (s0)), (0, .ref (gz G + (v0)))]) hx hb dX11_readsLedger_121 rfl hl (by decide) rfl ?_
  clear hl; intro ls hl
  refine lv_iload_n hx hb dX11_readsLedger_122 rfl (lv_at hl 0 rfl) ?_
  refine lv_if_eq (tgt := 135) hx hb dX11_readsLedger_123 (by decide) (fun hc => ?_) (fun hc => ?_)
  · replace h := if_t hc h
    refine lv_iconst (v := 0) hx hb dX11_readsLedger_135 (by decide) ?_
    exact rz_end hret h (by decide) dX11_readsLedger_136 hW
  · replace h := if_f hc h
    refine lv_aload_n hx hb dX11_readsLedger_126 rfl (lv_at hl 1 rfl) ?_
    refine lv_bipush (v := 59) hx hb dX11_readsLedger_127 (by decide) ?_
    obtain ⟨r_1, σ_1, hcl, h⟩ := bnd2_el h
    refine call_V1 X hW (kC_X11 h0) m_6_138 m_6_140 m_0_44 mv_X11_sign (c_X11_sign h0 hcl) (by decide) rfl rfl (Nat.le_of_ble_eq_true rfl) hl.1 dX11_readsLedger_129 ?_
    clear hW hcl; intro H locs hW
    refine lv_if_ne (tgt := 137) hx hb dX11_readsLedger_132 (by decide) (fun hc => ?_) (fun hc => ?_)
    · replace h := if_f hc h
      refine lv_goto (tgt := 69) hx hb dX11_readsLedger_137 (by decide) ?_
      exact hk69 v0 h0 σ_1 h _ _ _ hW (lv_sub hl [1] rfl)
    · replace h := if_t hc h
      refine lv_iconst (v := 0) hx hb dX11_readsLedger_135 (by decide) ?_
      exact rz_end hret h (by decide) dX11_readsLedger_136 hW
set_option maxRecDepth 20000 in
set_option maxHeartbeats 4000000 in
theorem bl_X11_readsLedger_L69 (X : Cx G p R s m args c cells slots cX11_readsLedger 3 RX11 44) {r : Int32} {σ' : St} (hret : R_Z G p l e R s m args below meth c cells slots Q cX11_readsLedger r σ') :
    ∀ (n : Nat), ∀ (v0 : Nat) (h0 : kd v0 = 10) (σ : St) (_ : pf_X11_readsLedger_L69 n v0 σ = some (r, σ')) (H : Heap) (locs : List Loc) (ls : Array Slot) (_ : GW G σ s H locs) (_ : lv_has ls 3 [(0, .ref (gz G + (v0)))]), W p l e R s m args below meth c H locs cells slots Q (F0 m 69 ls []) := by
  have hx := X.1.1
  have hb := X.1.2.1
  intro n
  induction n with
  | zero => intro v0 h0 σ h H locs ls hW hl; cases h
  | succ n ih =>
    intro v0 h0 σ h H locs ls hW hl
    rw [pf_X11_readsLedger_L69.eq_2] at h
    refine lv_aload_n hx hb dX11_readsLedger_69 rfl (lv_at hl 0 rfl) ?_
    obtain ⟨r_1, σ_1, hcl, h⟩ := bnd2_el h
    refine call_V1 X hW (kC_X11 h0) m_6_125 m_6_127 m_0_42 mv_X11_here (c_X11_here h0 hcl) (by decide) rfl rfl (Nat.le_of_ble_eq_true rfl) hl.1 dX11_readsLedger_70 ?_
    clear hW hcl; intro H locs hW
    refine lv_iconst (v := (-1)) hx hb dX11_readsLedger_73 (by decide) ?_
    refine lv_icmp_eq (tgt := 140) hx hb dX11_readsLedger_74 (by decide) (fun hc => ?_) (fun hc => ?_)
    · replace h := if_t hc h
      refine lv_iconst (v := 1) hx hb dX11_readsLedger_140 (by decide) ?_
      exact rz_end hret h (by decide) dX11_readsLedger_141 hW
    · replace h := if_f hc h
      refine lv_aload_n hx hb dX11_readsLedger_77 rfl (lv_at hl 0 rfl) ?_
      refine gf_X11_at X hW h0 m_6_22 dX11_readsLedger_78 ?_
      refine nm_i h ?_
      clear h; intro v1_2 h
      refine lv_istore_n (lv' := [(1, .int (v1_2)), (0, .ref (gz G + (v0)))]) hx hb dX11_readsLedger_81 rfl hl (by decide) rfl ?_
      clear hl; intro ls hl
      refine lv_aload_n hx hb dX11_readsLedger_82 rfl (lv_at hl 1 rfl) ?_
      refine r_ldcS (k := 48) X hW (by decide) rfl rfl dX11_readsLedger_83 ?_
      obtain ⟨r_3, σ_3, hcl, h⟩ := bnd2_el h
      refine call_V1 X hW (kC_X11 h0) m_6_121 m_6_123 m_0_41 mv_X11_takes (c_X11_takes h0 (by decide) hcl) (by decide) rfl rfl (Nat.le_of_ble_eq_true rfl) hl.1 dX11_readsLedger_86 ?_
      clear hW hcl; intro H locs hW
      refine lv_if_eq (tgt := 99) hx hb dX11_readsLedger_89 (by decide) (fun hc => ?_) (fun hc => ?_)
      · replace h := if_t hc h
        refine lv_aload_n hx hb dX11_readsLedger_99 rfl (lv_at hl 1 rfl) ?_
        refine r_ldcS (k := 34) X hW (by decide) rfl rfl dX11_readsLedger_100 ?_
        obtain ⟨r_4, σ_4, hcl, h⟩ := bnd2_el h
        refine call_V1 X hW (kC_X11 h0) m_6_121 m_6_123 m_0_41 mv_X11_takes (c_X11_takes h0 (by decide) hcl) (by decide) rfl rfl (Nat.le_of_ble_eq_true rfl) hl.1 dX11_readsLedger_102 ?_
        clear hW hcl; intro H locs hW
        refine lv_if_eq (tgt := 116) hx hb dX11_readsLedger_105 (by decide) (fun hc => ?_) (fun hc => ?_)
        · replace h := if_t hc h
          refine lv_aload_n hx hb dX11_readsLedger_116 rfl (lv_at hl 1 rfl) ?_
          refine lv_iload_n hx hb dX11_readsLedger_117 rfl (lv_at hl 0 rfl) ?_
          obtain ⟨r_5, σ_5, hcl, h⟩ := bnd2_el h
          refine call_V1 X hW (kC_X11 h0) m_6_222 m_6_224 m_0_61 mv_X11_readsOnce (c_X11_readsOnce h0 hcl) (by decide) rfl rfl (Nat.le_of_ble_eq_true rfl) hl.1 dX11_readsLedger_118 ?_
          clear hW hcl; intro H locs hW
          exact bl_X11_readsLedger_b121 X hret ih v0 h0 r_5 σ_5 h _ _ _ hW (lv_sub hl [1] rfl)
        · replace h := if_f hc h
          refine lv_aload_n hx hb dX11_readsLedger_108 rfl (lv_at hl 1 rfl) ?_
          refine lv_iload_n hx hb dX11_readsLedger_109 rfl (lv_at hl 0 rfl) ?_
          obtain ⟨r_6, σ_6, hcl, h⟩ := bnd2_el h
          refine call_V1 X hW (kC_X11 h0) m_6_164 m_6_166 m_0_49 mv_X11_readsQuest (c_X11_readsQuest h0 hcl) (by decide) rfl rfl (Nat.le_of_ble_eq_true rfl) hl.1 dX11_readsLedger_110 ?_
          clear hW hcl; intro H locs hW
          refine lv_goto (tgt := 121) hx hb dX11_readsLedger_113 (by decide) ?_
          exact bl_X11_readsLedger_b121 X hret ih v0 h0 r_6 σ_6 h _ _ _ hW (lv_sub hl [1] rfl)
      · replace h := if_f hc h
        refine lv_aload_n hx hb dX11_readsLedger_92 rfl (lv_at hl 1 rfl) ?_
        obtain ⟨r_7, σ_7, hcl, h⟩ := bnd2_el h
        refine call_V1 X hW (kC_X11 h0) m_6_143 m_6_145 m_0_45 mv_X11_readsStock (c_X11_readsStock h0 hcl) (by decide) rfl rfl (Nat.le_of_ble_eq_true rfl) hl.1 dX11_readsLedger_93 ?_
        clear hW hcl; intro H locs hW
        refine lv_goto (tgt := 121) hx hb dX11_readsLedger_96 (by decide) ?_
        exact bl_X11_readsLedger_b121 X hret ih v0 h0 r_7 σ_7 h _ _ _ hW (lv_sub hl [1] rfl)
set_option maxRecDepth 20000 in
set_option maxHeartbeats 4000000 in
theorem bl_X11_readsLedger_b22 (X : Cx G p R s m args c cells slots cX11_readsLedger 3 RX11 44) {r : Int32} {σ' : St} (hret : R_Z G p l e R s m args below meth c cells slots Q cX11_readsLedger r σ') :
    ∀ (v0 : Nat) (h0 : kd v0 = 10) (σ : St) (_ : pf_X11_readsLedger_b22 v0 σ = some (r, σ')) (H : Heap) (locs : List Loc) (ls : Array Slot) (_ : GW G σ s H locs) (_ : lv_has ls 3 [(0, .ref (gz G + (v0)))]), W p l e R s m args below meth c H locs cells slots Q (F0 m 22 ls []) := by
  have hx := X.1.1
  have hb := X.1.2.1
  intro v0 h0 σ h H locs ls hW hl
  unfold pf_X11_readsLedger_b22 at h
  refine lv_aload_n hx hb dX11_readsLedger_22 rfl (lv_at hl 0 rfl) ?_
  refine lv_iconst (v := 0) hx hb dX11_readsLedger_23 (by decide) ?_
  refine sf_X11_stocked X hW h0 m_6_31 dX11_readsLedger_24 ?_
  clear hW; intro H locs hW
  refine nm_s hW h ?_
  clear hW h; intro σ_1 hW h
  refine lv_aload_n hx hb dX11_readsLedger_27 rfl (lv_at hl 0 rfl) ?_
  refine lv_iconst (v := 0) hx hb dX11_readsLedger_28 (by decide) ?_
  refine sf_X11_hasSeed X hW (by decide) h0 m_6_29 dX11_readsLedger_29 ?_
  clear hW; intro H locs hW
  refine nm_s hW h ?_
  clear hW h; intro σ_2 hW h
  refine lv_aload_n hx hb dX11_readsLedger_32 rfl (lv_at hl 0 rfl) ?_
  refine lv_iconst (v := 0) hx hb dX11_readsLedger_33 (by decide) ?_
  refine sf_X11_hasWorth X hW (by decide) h0 m_6_30 dX11_readsLedger_34 ?_
  clear hW; intro H locs hW
  refine nm_s hW h ?_
  clear hW h; intro σ_3 hW h
  refine lv_aload_n hx hb dX11_readsLedger_37 rfl (lv_at hl 0 rfl) ?_
  refine r_ldcS (k := 47) X hW (by decide) rfl rfl dX11_readsLedger_38 ?_
  obtain ⟨r_4, σ_4, hcl, h⟩ := bnd2_el h
  refine call_V1 X hW (kC_X11 h0) m_6_121 m_6_123 m_0_41 mv_X11_takes (c_X11_takes h0 (by decide) hcl) (by decide) rfl rfl (Nat.le_of_ble_eq_true rfl) hl.1 dX11_readsLedger_41 ?_
  clear hW hcl; intro H locs hW
  refine lv_if_ne (tgt := 58) hx hb dX11_readsLedger_44 (by decide) (fun hc => ?_) (fun hc => ?_)
  · replace h := if_f hc h
    refine lv_aload_n hx hb dX11_readsLedger_58 rfl (lv_at hl 0 rfl) ?_
    refine lv_bipush (v := 59) hx hb dX11_readsLedger_59 (by decide) ?_
    obtain ⟨r_6, σ_6, hcl, h⟩ := bnd2_el h
    refine call_V1 X hW (kC_X11 h0) m_6_138 m_6_140 m_0_44 mv_X11_sign (c_X11_sign h0 hcl) (by decide) rfl rfl (Nat.le_of_ble_eq_true rfl) hl.1 dX11_readsLedger_61 ?_
    clear hW hcl; intro H locs hW
    refine lv_if_ne (tgt := 69) hx hb dX11_readsLedger_64 (by decide) (fun hc => ?_) (fun hc => ?_)
    · replace h := if_f hc h
      exact bl_X11_readsLedger_L69 X hret FU v0 h0 σ_6 h _ _ _ hW (lv_sub hl [0] rfl)
    · replace h := if_t hc h
      refine lv_iconst (v := 0) hx hb dX11_readsLedger_67 (by decide) ?_
      exact rz_end hret h (by decide) dX11_readsLedger_68 hW
  · replace h := if_t hc h
    refine lv_aload_n hx hb dX11_readsLedger_47 rfl (lv_at hl 0 rfl) ?_
    refine lv_bipush (v := (-2)) hx hb dX11_readsLedger_48 (by decide) ?_
    refine lv_aload_n hx hb dX11_readsLedger_50 rfl (lv_at hl 0 rfl) ?_
    refine gf_X11_at X hW h0 m_6_22 dX11_readsLedger_51 ?_
    obtain ⟨r_5, σ_5, hcl, h⟩ := bnd2_el h
    refine call_V1 X hW (kC_X11 h0) m_6_134 m_6_136 m_0_43 mv_X11_fails (c_X11_fails h0 hcl) (by decide) rfl rfl (Nat.le_of_ble_eq_true rfl) hl.1 dX11_readsLedger_54 ?_
    clear hW hcl; intro H locs hW
    obtain ⟨hz, h⟩ := ckZ_el h
    exact rz_end hret h hz dX11_readsLedger_57 hW
set_option maxRecDepth 20000 in
set_option maxHeartbeats 4000000 in
theorem bl_X11_readsLedger_L2 (X : Cx G p R s m args c cells slots cX11_readsLedger 3 RX11 44) {r : Int32} {σ' : St} (hret : R_Z G p l e R s m args below meth c cells slots Q cX11_readsLedger r σ') {k22 : Nat → St → (Option (Int32 × St))}
    (hk22 : ∀ (v0 : Nat) (h0 : kd v0 = 10) (σ : St) (_ : k22 v0 σ = some (r, σ')) (H : Heap) (locs : List Loc) (ls : Array Slot) (_ : GW G σ s H locs) (_ : lv_has ls 3 [(0, .ref (gz G + (v0)))]), W p l e R s m args below meth c H locs cells slots Q (F0 m 22 ls [])) :
    ∀ (n : Nat), ∀ (v0 : Nat) (h0 : kd v0 = 10) (v1 : Int32) (σ : St) (_ : pf_X11_readsLedger_L2 k22 n v0 v1 σ = some (r, σ')) (H : Heap) (locs : List Loc) (ls : Array Slot) (_ : GW G σ s H locs) (_ : lv_has ls 3 [(0, .ref (gz G + (v0))), (1, .int (v1))]), W p l e R s m args below meth c H locs cells slots Q (F0 m 2 ls []) := by
  have hx := X.1.1
  have hb := X.1.2.1
  intro n
  induction n with
  | zero => intro v0 h0 v1 σ h H locs ls hW hl; cases h
  | succ n ih =>
    intro v0 h0 v1 σ h H locs ls hW hl
    rw [pf_X11_readsLedger_L2.eq_2] at h
    refine lv_iload_n hx hb dX11_readsLedger_2 rfl (lv_at hl 1 rfl) ?_
    refine lv_sipush (v := 4370) hx hb dX11_readsLedger_3 (by decide) ?_
    refine lv_icmp_ge (tgt := 22) hx hb dX11_readsLedger_6 (by decide) (fun hc => ?_) (fun hc => ?_)
    · replace h := if_t hc h
      exact hk22 v0 h0 σ h _ _ _ hW (lv_sub hl [0] rfl)
    · replace h := if_f hc h
      refine lv_aload_n hx hb dX11_readsLedger_9 rfl (lv_at hl 0 rfl) ?_
      refine gf_X11_read X hW h0 m_6_8 dX11_readsLedger_10 ?_
      refine lv_iload_n hx hb dX11_readsLedger_13 rfl (lv_at hl 1 rfl) ?_
      refine lv_iconst (v := 0) hx hb dX11_readsLedger_14 (by decide) ?_
      obtain ⟨hi1, h⟩ := ckI_el h
      refine r_iast X hW (kf_X11_read h0) hi1 dX11_readsLedger_15 ?_
      clear hW; intro H locs hW
      refine nm_s hW h ?_
      clear hW h; intro σ_2 hW h
      refine w_iinc (v := 1) (lv' := fun y => [(1, .int (y)), (0, .ref (gz G + (v0)))]) hx hb dX11_readsLedger_16 hl (k := 1) rfl (by decide) (by decide) (fun _ => rfl) h ?_
      clear h hl; intro v1_3 h ls hl
      refine lv_goto (tgt := 2) hx hb dX11_readsLedger_19 (by decide) ?_
      exact ih v0 h0 v1_3 σ_2 h _ _ _ hW (lv_sub hl [1, 0] rfl)
set_option maxRecDepth 20000 in
set_option maxHeartbeats 4000000 in
theorem c_X11_readsLedger {G : Gt} {l : Launch} {v0 : Nat} (h0 : kd v0 = 10) {σ : St} {r : Int32} {σ' : St} (hf : pf_X11_readsLedger v0 σ = some (r, σ')) : Ct G l yX11_readsLedger cX11_readsLedger 3 (some .boolean) 44 [.ref (gz G + (v0))] σ (some (.int r)) σ' := by
  refine met_z (by decide +kernel) (Nat.le_of_ble_eq_true rfl) rfl ?_
  intro p e s m args below meth c Q ls X hW hret hl
  have hx := X.1.1
  have hb := X.1.2.1
  have hl : lv_has ls 3 [(0, .ref (gz G + (v0)))] := hl
  have h := hf
  clear hf
  unfold pf_X11_readsLedger at h
  refine lv_iconst (v := 0) hx hb dX11_readsLedger_0 (by decide) ?_
  refine lv_istore_n (lv' := [(1, .int (0)), (0, .ref (gz G + (v0)))]) hx hb dX11_readsLedger_1 rfl hl (by decide) rfl ?_
  clear hl; intro ls hl
  exact bl_X11_readsLedger_L2 X hret (bl_X11_readsLedger_b22 X hret) FU v0 h0 0 σ h _ _ _ hW (lv_sub hl [1, 0] rfl)
set_option maxRecDepth 20000 in
set_option maxHeartbeats 4000000 in
theorem bl_X11_load_b91 (X : Cx G p R s m args c cells slots cX11_load 3 RX11 45) {r : Int32} {σ' : St} (hret : R_I G p l e R s m args below meth c cells slots Q cX11_load r σ') :
    ∀ (v0 : Nat) (h0 : kd v0 = 10) (σ : St) (_ : pf_X11_load_b91 v0 σ = some (r, σ')) (H : Heap) (locs : List Loc) (ls : Array Slot) (_ : GW G σ s H locs) (_ : lv_has ls 3 [(0, .ref (gz G + (v0)))]), W p l e R s m args below meth c H locs cells slots Q (F0 m 91 ls []) := by
  have hx := X.1.1
  have hb := X.1.2.1
  intro v0 h0 σ h H locs ls hW hl
  unfold pf_X11_load_b91 at h
  refine lv_aload_n hx hb dX11_load_91 rfl (lv_at hl 0 rfl) ?_
  refine lv_iconst (v := 0) hx hb dX11_load_92 (by decide) ?_
  obtain ⟨r_1, hcl, h⟩ := bind_el h
  refine call_V1 X hW (kC_X11 h0) m_7_17 m_7_19 m_0_68 mv_X11_get (c_X11_get h0 hcl) (by decide) rfl rfl (Nat.le_of_ble_eq_true rfl) hl.1 dX11_load_93 ?_
  clear hW hcl; intro H locs hW
  exact ri_end hret h dX11_load_96 hW
set_option maxRecDepth 20000 in
set_option maxHeartbeats 4000000 in
theorem bl_X11_load_L67 (X : Cx G p R s m args c cells slots cX11_load 3 RX11 45) {r : Int32} {σ' : St} (hret : R_I G p l e R s m args below meth c cells slots Q cX11_load r σ') {k91 : Nat → St → (Option (Int32 × St))}
    (hk91 : ∀ (v0 : Nat) (h0 : kd v0 = 10) (σ : St) (_ : k91 v0 σ = some (r, σ')) (H : Heap) (locs : List Loc) (ls : Array Slot) (_ : GW G σ s H locs) (_ : lv_has ls 3 [(0, .ref (gz G + (v0)))]), W p l e R s m args below meth c H locs cells slots Q (F0 m 91 ls [])) :
    ∀ (n : Nat), ∀ (v0 : Nat) (h0 : kd v0 = 10) (v2 : Int32) (σ : St) (_ : pf_X11_load_L67 k91 n v0 v2 σ = some (r, σ')) (H : Heap) (locs : List Loc) (ls : Array Slot) (_ : GW G σ s H locs) (_ : lv_has ls 3 [(0, .ref (gz G + (v0))), (2, .int (v2))]), W p l e R s m args below meth c H locs cells slots Q (F0 m 67 ls []) := by
  have hx := X.1.1
  have hb := X.1.2.1
  intro n
  induction n with
  | zero => intro v0 h0 v2 σ h H locs ls hW hl; cases h
  | succ n ih =>
    intro v0 h0 v2 σ h H locs ls hW hl
    rw [pf_X11_load_L67.eq_2] at h
    refine lv_iload_n hx hb dX11_load_67 rfl (lv_at hl 1 rfl) ?_
    refine lv_sipush (v := 4370) hx hb dX11_load_68 (by decide) ?_
    refine lv_icmp_ge (tgt := 91) hx hb dX11_load_71 (by decide) (fun hc => ?_) (fun hc => ?_)
    · replace h := if_t hc h
      exact hk91 v0 h0 σ h _ _ _ hW (lv_sub hl [0] rfl)
    · replace h := if_f hc h
      refine lv_aload_n hx hb dX11_load_74 rfl (lv_at hl 0 rfl) ?_
      refine lv_iload_n hx hb dX11_load_75 rfl (lv_at hl 1 rfl) ?_
      refine lv_aload_n hx hb dX11_load_76 rfl (lv_at hl 0 rfl) ?_
      refine gf_X11_read X hW h0 m_6_8 dX11_load_77 ?_
      refine lv_iload_n hx hb dX11_load_80 rfl (lv_at hl 1 rfl) ?_
      obtain ⟨hi1, h⟩ := ckI_el h
      refine r_iald X hW (kf_X11_read h0) hi1 dX11_load_81 ?_
      obtain ⟨σ_2, hcl, h⟩ := bind_el h
      refine call_V0 X hW (kC_X11 h0) m_7_21 m_7_23 m_0_69 mv_X11_put (c_X11_put h0 hcl) (by decide) rfl rfl (Nat.le_of_ble_eq_true rfl) hl.1 dX11_load_82 ?_
      clear hW hcl; intro H locs hW
      refine w_iinc (v := 1) (lv' := fun y => [(2, .int (y)), (0, .ref (gz G + (v0)))]) hx hb dX11_load_85 hl (k := 1) rfl (by decide) (by decide) (fun _ => rfl) h ?_
      clear h hl; intro v2_3 h ls hl
      refine lv_goto (tgt := 67) hx hb dX11_load_88 (by decide) ?_
      exact ih v0 h0 v2_3 σ_2 h _ _ _ hW (lv_sub hl [1, 0] rfl)
set_option maxRecDepth 20000 in
set_option maxHeartbeats 4000000 in
theorem c_X11_load {G : Gt} {l : Launch} {v0 : Nat} (h0 : kd v0 = 10) {v1 : Int32} {σ : St} {r : Int32} {σ' : St} (hf : pf_X11_load v0 v1 σ = some (r, σ')) : Ct G l yX11_load cX11_load 3 (some .int) 45 [.ref (gz G + (v0)), .int (v1)] σ (some (.int r)) σ' := by
  refine met_i (by decide +kernel) (Nat.le_of_ble_eq_true rfl) rfl ?_
  intro p e s m args below meth c Q ls X hW hret hl
  have hx := X.1.1
  have hb := X.1.2.1
  have hl : lv_has ls 3 [(0, .ref (gz G + (v0))), (1, .int (v1))] := hl
  have h := hf
  clear hf
  unfold pf_X11_load at h
  refine lv_aload_n hx hb dX11_load_0 rfl (lv_at hl 0 rfl) ?_
  refine lv_iconst (v := 0) hx hb dX11_load_1 (by decide) ?_
  refine sf_X11_thrown X hW h0 m_6_6 dX11_load_2 ?_
  clear hW; intro H locs hW
  refine nm_s hW h ?_
  clear hW h; intro σ_1 hW h
  refine lv_aload_n hx hb dX11_load_5 rfl (lv_at hl 0 rfl) ?_
  refine lv_iload_n hx hb dX11_load_6 rfl (lv_at hl 1 rfl) ?_
  refine lv_iconst (v := 0) hx hb dX11_load_7 (by decide) ?_
  refine lv_aload_n hx hb dX11_load_8 rfl (lv_at hl 0 rfl) ?_
  refine gf_X11_fed X hW h0 m_6_20 dX11_load_9 ?_
  obtain ⟨r_2, hcl, h⟩ := bind_el h
  refine call_S1 X hW m_6_109 m_6_110 mv_X11_isIn (c_X11_isIn hcl) (by decide) rfl rfl (Nat.le_of_ble_eq_true rfl) hl.1 dX11_load_12 ?_
  clear hW hcl; intro H locs hW
  refine lv_iconst (v := 1) hx hb dX11_load_15 (by decide) ?_
  obtain ⟨r_3, σ_3, hcl, h⟩ := bnd2_el h
  refine call_V1 X hW (kC_X11 h0) m_6_112 m_6_114 m_0_39 mv_X11_right (c_X11_right h0 hcl) (by decide) rfl rfl (Nat.le_of_ble_eq_true rfl) hl.1 dX11_load_16 ?_
  clear hW hcl; intro H locs hW
  refine lv_if_ne (tgt := 24) hx hb dX11_load_19 (by decide) (fun hc => ?_) (fun hc => ?_)
  · replace h := if_f hc h
    refine lv_aload_n hx hb dX11_load_24 rfl (lv_at hl 0 rfl) ?_
    refine lv_iload_n hx hb dX11_load_25 rfl (lv_at hl 1 rfl) ?_
    refine sf_X11_length X hW h0 m_6_21 dX11_load_26 ?_
    clear hW; intro H locs hW
    refine nm_s hW h ?_
    clear hW h; intro σ_4 hW h
    refine lv_aload_n hx hb dX11_load_29 rfl (lv_at hl 0 rfl) ?_
    refine lv_iconst (v := 0) hx hb dX11_load_30 (by decide) ?_
    refine sf_X11_at X hW h0 m_6_22 dX11_load_31 ?_
    clear hW; intro H locs hW
    refine nm_s hW h ?_
    clear hW h; intro σ_5 hW h
    refine lv_aload_n hx hb dX11_load_34 rfl (lv_at hl 0 rfl) ?_
    refine lv_iconst (v := 0) hx hb dX11_load_35 (by decide) ?_
    refine sf_X11_fed X hW h0 m_6_20 dX11_load_36 ?_
    clear hW; intro H locs hW
    refine nm_s hW h ?_
    clear hW h; intro σ_6 hW h
    refine lv_aload_n hx hb dX11_load_39 rfl (lv_at hl 0 rfl) ?_
    refine lv_iconst (v := 0) hx hb dX11_load_40 (by decide) ?_
    refine sf_X11_fault X hW h0 m_6_23 dX11_load_41 ?_
    clear hW; intro H locs hW
    refine nm_s hW h ?_
    clear hW h; intro σ_7 hW h
    refine lv_aload_n hx hb dX11_load_44 rfl (lv_at hl 0 rfl) ?_
    refine lv_iconst (v := (-1)) hx hb dX11_load_45 (by decide) ?_
    refine sf_X11_faultAt X hW h0 m_6_24 dX11_load_46 ?_
    clear hW; intro H locs hW
    refine nm_s hW h ?_
    clear hW h; intro σ_8 hW h
    refine lv_aload_n hx hb dX11_load_49 rfl (lv_at hl 0 rfl) ?_
    obtain ⟨r_9, σ_9, hcl, h⟩ := bnd2_el h
    refine call_V1 X hW (kC_X11 h0) m_6_116 m_6_118 m_0_40 mv_X11_readsLedger (c_X11_readsLedger h0 hcl) (by decide) rfl rfl (Nat.le_of_ble_eq_true rfl) hl.1 dX11_load_50 ?_
    clear hW hcl; intro H locs hW
    refine lv_if_ne (tgt := 61) hx hb dX11_load_53 (by decide) (fun hc => ?_) (fun hc => ?_)
    · replace h := if_f hc h
      refine lv_aload_n hx hb dX11_load_61 rfl (lv_at hl 0 rfl) ?_
      obtain ⟨σ_10, hcl, h⟩ := bind_el h
      refine call_V0 X hW (kC_X11 h0) m_7_13 m_7_15 m_0_67 mv_X11_change (c_X11_change h0 hcl) (by decide) rfl rfl (Nat.le_of_ble_eq_true rfl) hl.1 dX11_load_62 ?_
      clear hW hcl; intro H locs hW
      refine lv_iconst (v := 0) hx hb dX11_load_65 (by decide) ?_
      refine lv_istore_n (lv' := [(2, .int (0)), (0, .ref (gz G + (v0))), (1, .int (v1))]) hx hb dX11_load_66 rfl hl (by decide) rfl ?_
      clear hl; intro ls hl
      exact bl_X11_load_L67 X hret (bl_X11_load_b91 X hret) FU v0 h0 0 σ_10 h _ _ _ hW (lv_sub hl [1, 0] rfl)
    · replace h := if_t hc h
      refine lv_aload_n hx hb dX11_load_56 rfl (lv_at hl 0 rfl) ?_
      refine gf_X11_fault X hW h0 m_6_23 dX11_load_57 ?_
      exact ri_end hret h dX11_load_60 hW
  · replace h := if_t hc h
    refine lv_iconst (v := 0) hx hb dX11_load_22 (by decide) ?_
    exact ri_end hret h dX11_load_23 hW
set_option maxRecDepth 20000 in
set_option maxHeartbeats 4000000 in
theorem bl_X11_counted_b115 (X : Cx G p R s m args c cells slots cX11_counted 4 RX11 10) {r : Int32} {σ' : St} (hret : R_I G p l e R s m args below meth c cells slots Q cX11_counted r σ') {k4 : Nat → Int32 → Int32 → Int32 → St → (Option (Int32 × St))}
    (hk4 : ∀ (v0 : Nat) (h0 : kd v0 = 10) (v1 : Int32) (v2 : Int32) (v3 : Int32) (σ : St) (_ : k4 v0 v1 v2 v3 σ = some (r, σ')) (H : Heap) (locs : List Loc) (ls : Array Slot) (_ : GW G σ s H locs) (_ : lv_has ls 4 [(0, .ref (gz G + (v0))), (1, .int (v1)), (2, .int (v2)), (3, .int (v3))]), W p l e R s m args below meth c H locs cells slots Q (F0 m 4 ls [])) :
    ∀ (v0 : Nat) (h0 : kd v0 = 10) (v1 : Int32) (v3 : Int32) (s0 : Int32) (s1 : Int32) (σ : St) (_ : pf_X11_counted_b115 k4 v0 v1 v3 s0 s1 σ = some (r, σ')) (H : Heap) (locs : List Loc) (ls : Array Slot) (_ : GW G σ s H locs) (_ : lv_has ls 4 [(0, .ref (gz G + (v0))), (1, .int (v1)), (3, .int (v3))]), W p l e R s m args below meth c H locs cells slots Q (F0 m 115 ls [.int (s1), .int (s0)]) := by
  have hx := X.1.1
  have hb := X.1.2.1
  intro v0 h0 v1 v3 s0 s1 σ h H locs ls hW hl
  unfold pf_X11_counted_b115 at h
  refine lv_iadd hx hb dX11_counted_115 ?_
  refine nm_i h ?_
  clear h; intro v2_1 h
  refine lv_istore_n (lv' := [(2, .int (v2_1)), (0, .ref (gz G + (v0))), (1, .int (v1)), (3, .int (v3))]) hx hb dX11_counted_116 rfl hl (by decide) rfl ?_
  clear hl; intro ls hl
  refine w_iinc (v := 1) (lv' := fun y => [(3, .int (y)), (2, .int (v2_1)), (0, .ref (gz G + (v0))), (1, .int (v1))]) hx hb dX11_counted_117 hl (k := 3) rfl (by decide) (by decide) (fun _ => rfl) h ?_
  clear h hl; intro v3_2 h ls hl
  refine lv_goto (tgt := 4) hx hb dX11_counted_120 (by decide) ?_
  exact hk4 v0 h0 v1 v2_1 v3_2 σ h _ _ _ hW (lv_sub hl [2, 3, 1, 0] rfl)
set_option maxRecDepth 20000 in
set_option maxHeartbeats 4000000 in
theorem bl_X11_counted_L4 (X : Cx G p R s m args c cells slots cX11_counted 4 RX11 10) {r : Int32} {σ' : St} (hret : R_I G p l e R s m args below meth c cells slots Q cX11_counted r σ') :
    ∀ (n : Nat), ∀ (v0 : Nat) (h0 : kd v0 = 10) (v1 : Int32) (v2 : Int32) (v3 : Int32) (σ : St) (_ : pf_X11_counted_L4 n v0 v1 v2 v3 σ = some (r, σ')) (H : Heap) (locs : List Loc) (ls : Array Slot) (_ : GW G σ s H locs) (_ : lv_has ls 4 [(0, .ref (gz G + (v0))), (1, .int (v1)), (2, .int (v2)), (3, .int (v3))]), W p l e R s m args below meth c H locs cells slots Q (F0 m 4 ls []) := by
  have hx := X.1.1
  have hb := X.1.2.1
  intro n
  induction n with
  | zero => intro v0 h0 v1 v2 v3 σ h H locs ls hW hl; cases h
  | succ n ih =>
    intro v0 h0 v1 v2 v3 σ h H locs ls hW hl
    rw [pf_X11_counted_L4.eq_2] at h
    refine lv_iload_n hx hb dX11_counted_4 rfl (lv_at hl 3 rfl) ?_
    refine lv_aload_n hx hb dX11_counted_5 rfl (lv_at hl 0 rfl) ?_
    refine lv_iconst (v := 0) hx hb dX11_counted_6 (by decide) ?_
    obtain ⟨r_1, hcl, h⟩ := bind_el h
    refine call_V1 X hW (kC_X11 h0) m_7_17 m_7_19 m_0_68 mv_X11_get (c_X11_get h0 hcl) (by decide) rfl rfl (Nat.le_of_ble_eq_true rfl) hl.1 dX11_counted_7 ?_
    clear hW hcl; intro H locs hW
    refine lv_icmp_ge (tgt := 123) hx hb dX11_counted_10 (by decide) (fun hc => ?_) (fun hc => ?_)
    · replace h := if_t hc h
      refine lv_iload_n hx hb dX11_counted_123 rfl (lv_at hl 2 rfl) ?_
      exact ri_end hret h dX11_counted_124 hW
    · replace h := if_f hc h
      refine lv_iload_n hx hb dX11_counted_13 rfl (lv_at hl 2 rfl) ?_
      refine lv_iload_n hx hb dX11_counted_14 rfl (lv_at hl 1 rfl) ?_
      refine lv_iconst (v := 1) hx hb dX11_counted_15 (by decide) ?_
      refine lv_icmp_ne (tgt := 27) hx hb dX11_counted_16 (by decide) (fun hc => ?_) (fun hc => ?_)
      · replace h := if_f hc h
        refine lv_iload_n hx hb dX11_counted_27 rfl (lv_at hl 1 rfl) ?_
        refine lv_iconst (v := 2) hx hb dX11_counted_28 (by decide) ?_
        refine lv_icmp_ne (tgt := 50) hx hb dX11_counted_29 (by decide) (fun hc => ?_) (fun hc => ?_)
        · replace h := if_f hc h
          refine lv_iload_n hx hb dX11_counted_50 rfl (lv_at hl 1 rfl) ?_
          refine lv_iconst (v := 3) hx hb dX11_counted_51 (by decide) ?_
          refine lv_icmp_ne (tgt := 73) hx hb dX11_counted_52 (by decide) (fun hc => ?_) (fun hc => ?_)
          · replace h := if_f hc h
            refine lv_iload_n hx hb dX11_counted_73 rfl (lv_at hl 1 rfl) ?_
            refine lv_iconst (v := 4) hx hb dX11_counted_74 (by decide) ?_
            refine lv_icmp_ne (tgt := 89) hx hb dX11_counted_75 (by decide) (fun hc => ?_) (fun hc => ?_)
            · replace h := if_f hc h
              refine lv_iload_n hx hb dX11_counted_89 rfl (lv_at hl 1 rfl) ?_
              refine lv_iconst (v := 5) hx hb dX11_counted_90 (by decide) ?_
              refine lv_icmp_ne (tgt := 102) hx hb dX11_counted_91 (by decide) (fun hc => ?_) (fun hc => ?_)
              · replace h := if_f hc h
                refine lv_aload_n hx hb dX11_counted_102 rfl (lv_at hl 0 rfl) ?_
                refine lv_iload_n hx hb dX11_counted_103 rfl (lv_at hl 3 rfl) ?_
                obtain ⟨r_8, σ_8, hcl, h⟩ := bnd2_el h
                refine call_V1 X hW (kC_X11 h0) m_7_62 m_7_64 m_0_77 mv_X11_isPossible (c_X11_isPossible h0 hcl) (by decide) rfl rfl (Nat.le_of_ble_eq_true rfl) hl.1 dX11_counted_104 ?_
                clear hW hcl; intro H locs hW
                refine lv_if_eq (tgt := 114) hx hb dX11_counted_107 (by decide) (fun hc => ?_) (fun hc => ?_)
                · replace h := if_t hc h
                  refine lv_iconst (v := 0) hx hb dX11_counted_114 (by decide) ?_
                  exact bl_X11_counted_b115 X hret ih v0 h0 v1 v3 v2 0 σ_8 h _ _ _ hW (lv_sub hl [0, 1, 3] rfl)
                · replace h := if_f hc h
                  refine lv_iconst (v := 1) hx hb dX11_counted_110 (by decide) ?_
                  refine lv_goto (tgt := 115) hx hb dX11_counted_111 (by decide) ?_
                  exact bl_X11_counted_b115 X hret ih v0 h0 v1 v3 v2 1 σ_8 h _ _ _ hW (lv_sub hl [0, 1, 3] rfl)
              · replace h := if_t hc h
                refine lv_aload_n hx hb dX11_counted_94 rfl (lv_at hl 0 rfl) ?_
                refine lv_iload_n hx hb dX11_counted_95 rfl (lv_at hl 3 rfl) ?_
                obtain ⟨r_7, hcl, h⟩ := bind_el h
                refine call_V1 X hW (kC_X11 h0) m_7_58 m_7_60 m_0_76 mv_X11_failsOf (c_X11_failsOf h0 hcl) (by decide) rfl rfl (Nat.le_of_ble_eq_true rfl) hl.1 dX11_counted_96 ?_
                clear hW hcl; intro H locs hW
                refine lv_goto (tgt := 115) hx hb dX11_counted_99 (by decide) ?_
                exact bl_X11_counted_b115 X hret ih v0 h0 v1 v3 v2 r_7 σ h _ _ _ hW (lv_sub hl [0, 1, 3] rfl)
            · replace h := if_t hc h
              refine lv_aload_n hx hb dX11_counted_78 rfl (lv_at hl 0 rfl) ?_
              refine lv_iload_n hx hb dX11_counted_79 rfl (lv_at hl 3 rfl) ?_
              obtain ⟨r_5, hcl, h⟩ := bind_el h
              refine call_V1 X hW (kC_X11 h0) m_7_46 m_7_48 m_0_74 mv_X11_doneSet (c_X11_doneSet h0 hcl) (by decide) rfl rfl (Nat.le_of_ble_eq_true rfl) hl.1 dX11_counted_80 ?_
              clear hW hcl; intro H locs hW
              obtain ⟨r_6, hcl, h⟩ := bind_el h
              refine call_S1 X hW m_7_57 m_2_221 mv_J6_bitCount_0f7a4 (c_J6_bitCount_0f7a4 hcl) (by decide) rfl rfl (Nat.le_of_ble_eq_true rfl) hl.1 dX11_counted_83 ?_
              clear hW hcl; intro H locs hW
              refine lv_goto (tgt := 115) hx hb dX11_counted_86 (by decide) ?_
              exact bl_X11_counted_b115 X hret ih v0 h0 v1 v3 v2 r_6 σ h _ _ _ hW (lv_sub hl [0, 1, 3] rfl)
          · replace h := if_t hc h
            refine lv_aload_n hx hb dX11_counted_55 rfl (lv_at hl 0 rfl) ?_
            refine lv_iload_n hx hb dX11_counted_56 rfl (lv_at hl 3 rfl) ?_
            refine lv_iconst (v := 1) hx hb dX11_counted_57 (by decide) ?_
            obtain ⟨r_4, hcl, h⟩ := bind_el h
            refine call_V1 X hW (kC_X11 h0) m_7_42 m_7_44 m_0_73 mv_X11_ofQuest (c_X11_ofQuest h0 hcl) (by decide) rfl rfl (Nat.le_of_ble_eq_true rfl) hl.1 dX11_counted_58 ?_
            clear hW hcl; intro H locs hW
            refine lv_iconst (v := 2) hx hb dX11_counted_61 (by decide) ?_
            refine lv_icmp_ne (tgt := 69) hx hb dX11_counted_62 (by decide) (fun hc => ?_) (fun hc => ?_)
            · replace h := if_f hc h
              refine lv_iconst (v := 0) hx hb dX11_counted_69 (by decide) ?_
              refine lv_goto (tgt := 115) hx hb dX11_counted_70 (by decide) ?_
              exact bl_X11_counted_b115 X hret ih v0 h0 v1 v3 v2 0 σ h _ _ _ hW (lv_sub hl [0, 1, 3] rfl)
            · replace h := if_t hc h
              refine lv_iconst (v := 1) hx hb dX11_counted_65 (by decide) ?_
              refine lv_goto (tgt := 115) hx hb dX11_counted_66 (by decide) ?_
              exact bl_X11_counted_b115 X hret ih v0 h0 v1 v3 v2 1 σ h _ _ _ hW (lv_sub hl [0, 1, 3] rfl)
        · replace h := if_t hc h
          refine lv_aload_n hx hb dX11_counted_32 rfl (lv_at hl 0 rfl) ?_
          refine lv_iload_n hx hb dX11_counted_33 rfl (lv_at hl 3 rfl) ?_
          refine lv_iconst (v := 1) hx hb dX11_counted_34 (by decide) ?_
          obtain ⟨r_3, hcl, h⟩ := bind_el h
          refine call_V1 X hW (kC_X11 h0) m_7_42 m_7_44 m_0_73 mv_X11_ofQuest (c_X11_ofQuest h0 hcl) (by decide) rfl rfl (Nat.le_of_ble_eq_true rfl) hl.1 dX11_counted_35 ?_
          clear hW hcl; intro H locs hW
          refine lv_iconst (v := 1) hx hb dX11_counted_38 (by decide) ?_
          refine lv_icmp_ne (tgt := 46) hx hb dX11_counted_39 (by decide) (fun hc => ?_) (fun hc => ?_)
          · replace h := if_f hc h
            refine lv_iconst (v := 0) hx hb dX11_counted_46 (by decide) ?_
            refine lv_goto (tgt := 115) hx hb dX11_counted_47 (by decide) ?_
            exact bl_X11_counted_b115 X hret ih v0 h0 v1 v3 v2 0 σ h _ _ _ hW (lv_sub hl [0, 1, 3] rfl)
          · replace h := if_t hc h
            refine lv_iconst (v := 1) hx hb dX11_counted_42 (by decide) ?_
            refine lv_goto (tgt := 115) hx hb dX11_counted_43 (by decide) ?_
            exact bl_X11_counted_b115 X hret ih v0 h0 v1 v3 v2 1 σ h _ _ _ hW (lv_sub hl [0, 1, 3] rfl)
      · replace h := if_t hc h
        refine lv_aload_n hx hb dX11_counted_19 rfl (lv_at hl 0 rfl) ?_
        refine lv_iload_n hx hb dX11_counted_20 rfl (lv_at hl 3 rfl) ?_
        obtain ⟨r_2, hcl, h⟩ := bind_el h
        refine call_V1 X hW (kC_X11 h0) m_7_38 m_7_40 m_0_72 mv_X11_stepsOf (c_X11_stepsOf h0 hcl) (by decide) rfl rfl (Nat.le_of_ble_eq_true rfl) hl.1 dX11_counted_21 ?_
        clear hW hcl; intro H locs hW
        refine lv_goto (tgt := 115) hx hb dX11_counted_24 (by decide) ?_
        exact bl_X11_counted_b115 X hret ih v0 h0 v1 v3 v2 r_2 σ h _ _ _ hW (lv_sub hl [0, 1, 3] rfl)
set_option maxRecDepth 20000 in
set_option maxHeartbeats 4000000 in
theorem c_X11_counted {G : Gt} {l : Launch} {v0 : Nat} (h0 : kd v0 = 10) {v1 : Int32} {σ : St} {r : Int32} {σ' : St} (hf : pf_X11_counted v0 v1 σ = some (r, σ')) : Ct G l yX11_counted cX11_counted 4 (some .int) 10 [.ref (gz G + (v0)), .int (v1)] σ (some (.int r)) σ' := by
  refine met_i (by decide +kernel) (Nat.le_of_ble_eq_true rfl) rfl ?_
  intro p e s m args below meth c Q ls X hW hret hl
  have hx := X.1.1
  have hb := X.1.2.1
  have hl : lv_has ls 4 [(0, .ref (gz G + (v0))), (1, .int (v1))] := hl
  have h := hf
  clear hf
  unfold pf_X11_counted at h
  refine lv_iconst (v := 0) hx hb dX11_counted_0 (by decide) ?_
  refine lv_istore_n (lv' := [(2, .int (0)), (0, .ref (gz G + (v0))), (1, .int (v1))]) hx hb dX11_counted_1 rfl hl (by decide) rfl ?_
  clear hl; intro ls hl
  refine lv_iconst (v := 0) hx hb dX11_counted_2 (by decide) ?_
  refine lv_istore_n (lv' := [(3, .int (0)), (2, .int (0)), (0, .ref (gz G + (v0))), (1, .int (v1))]) hx hb dX11_counted_3 rfl hl (by decide) rfl ?_
  clear hl; intro ls hl
  exact bl_X11_counted_L4 X hret FU v0 h0 v1 0 0 σ h _ _ _ hW (lv_sub hl [2, 3, 1, 0] rfl)
set_option maxRecDepth 20000 in
set_option maxHeartbeats 4000000 in
theorem c_X11_told {G : Gt} {l : Launch} {v0 : Nat} (h0 : kd v0 = 10) {v1 : Int32} {σ : St} {r : Int32} {σ' : St} (hf : pf_X11_told v0 v1 σ = some (r, σ')) : Ct G l yX11_told cX11_told 2 (some .int) 11 [.ref (gz G + (v0)), .int (v1)] σ (some (.int r)) σ' := by
  refine met_i (by decide +kernel) (Nat.le_of_ble_eq_true rfl) rfl ?_
  intro p e s m args below meth c Q ls X hW hret hl
  have hx := X.1.1
  have hb := X.1.2.1
  have hl : lv_has ls 2 [(0, .ref (gz G + (v0))), (1, .int (v1))] := hl
  have h := hf
  clear hf
  unfold pf_X11_told at h
  refine lv_iload_n hx hb dX11_told_0 rfl (lv_at hl 1 rfl) ?_
  by_cases hc0 : v1 = 0
  · replace h := if_t hc0 h
    refine lv_lookup (off := 35) (tgt := 36) hx hb dX11_told_1 (by decide) (by rw [hc0]; decide) (by decide) ?_
    refine lv_aload_n hx hb dX11_told_36 rfl (lv_at hl 0 rfl) ?_
    refine lv_iconst (v := 0) hx hb dX11_told_37 (by decide) ?_
    obtain ⟨r_1, hcl, h⟩ := bind_el h
    refine call_V1 X hW (kC_X11 h0) m_7_17 m_7_19 m_0_68 mv_X11_get (c_X11_get h0 hcl) (by decide) rfl rfl (Nat.le_of_ble_eq_true rfl) hl.1 dX11_told_38 ?_
    clear hW hcl; intro H locs hW
    exact ri_end hret h dX11_told_41 hW
  replace h := if_f hc0 h
  by_cases hc1 : v1 = 6
  · replace h := if_t hc1 h
    refine lv_lookup (off := 41) (tgt := 42) hx hb dX11_told_1 (by decide) (by rw [hc1]; decide) (by decide) ?_
    refine lv_aload_n hx hb dX11_told_42 rfl (lv_at hl 0 rfl) ?_
    refine lv_iconst (v := 2) hx hb dX11_told_43 (by decide) ?_
    obtain ⟨r_2, hcl, h⟩ := bind_el h
    refine call_V1 X hW (kC_X11 h0) m_7_17 m_7_19 m_0_68 mv_X11_get (c_X11_get h0 hcl) (by decide) rfl rfl (Nat.le_of_ble_eq_true rfl) hl.1 dX11_told_44 ?_
    clear hW hcl; intro H locs hW
    exact ri_end hret h dX11_told_47 hW
  replace h := if_f hc1 h
  by_cases hc2 : v1 = 7
  · replace h := if_t hc2 h
    refine lv_lookup (off := 47) (tgt := 48) hx hb dX11_told_1 (by decide) (by rw [hc2]; decide) (by decide) ?_
    refine lv_aload_n hx hb dX11_told_48 rfl (lv_at hl 0 rfl) ?_
    refine lv_iconst (v := 1) hx hb dX11_told_49 (by decide) ?_
    obtain ⟨r_3, hcl, h⟩ := bind_el h
    refine call_V1 X hW (kC_X11 h0) m_7_17 m_7_19 m_0_68 mv_X11_get (c_X11_get h0 hcl) (by decide) rfl rfl (Nat.le_of_ble_eq_true rfl) hl.1 dX11_told_50 ?_
    clear hW hcl; intro H locs hW
    exact ri_end hret h dX11_told_53 hW
  replace h := if_f hc2 h
  refine lv_lookup (off := 53) (tgt := 54) hx hb dX11_told_1 (by decide) (by simp [Op.lookupswitch.offset, i_ne2 (k := 0) hc0, i_ne2 (k := 6) hc1, i_ne2 (k := 7) hc2]) (by decide) ?_
  skip
  refine lv_aload_n hx hb dX11_told_54 rfl (lv_at hl 0 rfl) ?_
  refine lv_iload_n hx hb dX11_told_55 rfl (lv_at hl 1 rfl) ?_
  obtain ⟨r_4, σ_4, hcl, h⟩ := bnd2_el h
  refine call_V1 X hW (kC_X11 h0) m_7_34 m_7_36 m_0_71 mv_X11_counted (c_X11_counted h0 hcl) (by decide) rfl rfl (Nat.le_of_ble_eq_true rfl) hl.1 dX11_told_56 ?_
  clear hW hcl; intro H locs hW
  exact ri_end hret h dX11_told_59 hW
set_option maxRecDepth 20000 in
set_option maxHeartbeats 4000000 in
theorem c_X11_state {G : Gt} {l : Launch} {v0 : Nat} (h0 : kd v0 = 10) {v1 : Int32} {σ : St} {r : Int32} {σ' : St} (hf : pf_X11_state v0 v1 σ = some (r, σ')) : Ct G l yX11_state cX11_state 2 (some .int) 12 [.ref (gz G + (v0)), .int (v1)] σ (some (.int r)) σ' := by
  refine met_i (by decide +kernel) (Nat.le_of_ble_eq_true rfl) rfl ?_
  intro p e s m args below meth c Q ls X hW hret hl
  have hx := X.1.1
  have hb := X.1.2.1
  have hl : lv_has ls 2 [(0, .ref (gz G + (v0))), (1, .int (v1))] := hl
  have h := hf
  clear hf
  unfold pf_X11_state at h
  refine lv_aload_n hx hb dX11_state_0 rfl (lv_at hl 0 rfl) ?_
  refine lv_iconst (v := 0) hx hb dX11_state_1 (by decide) ?_
  refine sf_X11_thrown X hW h0 m_6_6 dX11_state_2 ?_
  clear hW; intro H locs hW
  refine nm_s hW h ?_
  clear hW h; intro σ_1 hW h
  refine lv_aload_n hx hb dX11_state_5 rfl (lv_at hl 0 rfl) ?_
  refine lv_iload_n hx hb dX11_state_6 rfl (lv_at hl 1 rfl) ?_
  refine lv_iconst (v := 0) hx hb dX11_state_7 (by decide) ?_
  refine lv_bipush (v := 8) hx hb dX11_state_8 (by decide) ?_
  obtain ⟨r_2, hcl, h⟩ := bind_el h
  refine call_S1 X hW m_6_109 m_6_110 mv_X11_isIn (c_X11_isIn hcl) (by decide) rfl rfl (Nat.le_of_ble_eq_true rfl) hl.1 dX11_state_10 ?_
  clear hW hcl; intro H locs hW
  refine lv_iconst (v := 1) hx hb dX11_state_13 (by decide) ?_
  obtain ⟨r_3, σ_3, hcl, h⟩ := bnd2_el h
  refine call_V1 X hW (kC_X11 h0) m_6_112 m_6_114 m_0_39 mv_X11_right (c_X11_right h0 hcl) (by decide) rfl rfl (Nat.le_of_ble_eq_true rfl) hl.1 dX11_state_14 ?_
  clear hW hcl; intro H locs hW
  refine lv_if_eq (tgt := 28) hx hb dX11_state_17 (by decide) (fun hc => ?_) (fun hc => ?_)
  · replace h := if_t hc h
    refine lv_iconst (v := 0) hx hb dX11_state_28 (by decide) ?_
    exact ri_end hret h dX11_state_29 hW
  · replace h := if_f hc h
    refine lv_aload_n hx hb dX11_state_20 rfl (lv_at hl 0 rfl) ?_
    refine lv_iload_n hx hb dX11_state_21 rfl (lv_at hl 1 rfl) ?_
    obtain ⟨r_4, σ_4, hcl, h⟩ := bnd2_el h
    refine call_V1 X hW (kC_X11 h0) m_7_30 m_7_32 m_0_70 mv_X11_told (c_X11_told h0 hcl) (by decide) rfl rfl (Nat.le_of_ble_eq_true rfl) hl.1 dX11_state_22 ?_
    clear hW hcl; intro H locs hW
    refine lv_goto (tgt := 29) hx hb dX11_state_25 (by decide) ?_
    exact ri_end hret h dX11_state_29 hW
set_option maxRecDepth 20000 in
set_option maxHeartbeats 4000000 in
theorem c_X11_isItem {G : Gt} {l : Launch} {v0 : Nat} (h0 : kd v0 = 10) {v1 : Int32} {σ : St} {r : Int32} {σ' : St} (hf : pf_X11_isItem v0 v1 σ = some (r, σ')) : Ct G l yX11_isItem cX11_isItem 2 (some .boolean) 3 [.ref (gz G + (v0)), .int (v1)] σ (some (.int r)) σ' := by
  refine met_z (by decide +kernel) (Nat.le_of_ble_eq_true rfl) rfl ?_
  intro p e s m args below meth c Q ls X hW hret hl
  have hx := X.1.1
  have hb := X.1.2.1
  have hl : lv_has ls 2 [(0, .ref (gz G + (v0))), (1, .int (v1))] := hl
  have h := hf
  clear hf
  unfold pf_X11_isItem at h
  refine lv_aload_n hx hb dX11_isItem_0 rfl (lv_at hl 0 rfl) ?_
  refine lv_iload_n hx hb dX11_isItem_1 rfl (lv_at hl 1 rfl) ?_
  refine lv_iconst (v := 0) hx hb dX11_isItem_2 (by decide) ?_
  refine lv_bipush (v := 7) hx hb dX11_isItem_3 (by decide) ?_
  obtain ⟨r_1, hcl, h⟩ := bind_el h
  refine call_S1 X hW m_6_109 m_6_110 mv_X11_isIn (c_X11_isIn hcl) (by decide) rfl rfl (Nat.le_of_ble_eq_true rfl) hl.1 dX11_isItem_5 ?_
  clear hW hcl; intro H locs hW
  refine lv_iconst (v := 1) hx hb dX11_isItem_8 (by decide) ?_
  obtain ⟨r_2, σ_2, hcl, h⟩ := bnd2_el h
  refine call_V1 X hW (kC_X11 h0) m_6_112 m_6_114 m_0_39 mv_X11_right (c_X11_right h0 hcl) (by decide) rfl rfl (Nat.le_of_ble_eq_true rfl) hl.1 dX11_isItem_9 ?_
  clear hW hcl; intro H locs hW
  obtain ⟨hz, h⟩ := ckZ_el h
  exact rz_end hret h hz dX11_isItem_12 hW
set_option maxRecDepth 20000 in
set_option maxHeartbeats 4000000 in
theorem c_X11_isQuest {G : Gt} {l : Launch} {v0 : Nat} (h0 : kd v0 = 10) {v1 : Int32} {σ : St} {r : Int32} {σ' : St} (hf : pf_X11_isQuest v0 v1 σ = some (r, σ')) : Ct G l yX11_isQuest cX11_isQuest 2 (some .boolean) 3 [.ref (gz G + (v0)), .int (v1)] σ (some (.int r)) σ' := by
  refine met_z (by decide +kernel) (Nat.le_of_ble_eq_true rfl) rfl ?_
  intro p e s m args below meth c Q ls X hW hret hl
  have hx := X.1.1
  have hb := X.1.2.1
  have hl : lv_has ls 2 [(0, .ref (gz G + (v0))), (1, .int (v1))] := hl
  have h := hf
  clear hf
  unfold pf_X11_isQuest at h
  refine lv_aload_n hx hb dX11_isQuest_0 rfl (lv_at hl 0 rfl) ?_
  refine lv_iload_n hx hb dX11_isQuest_1 rfl (lv_at hl 1 rfl) ?_
  refine lv_iconst (v := 0) hx hb dX11_isQuest_2 (by decide) ?_
  refine lv_aload_n hx hb dX11_isQuest_3 rfl (lv_at hl 0 rfl) ?_
  refine lv_iconst (v := 0) hx hb dX11_isQuest_4 (by decide) ?_
  obtain ⟨r_1, hcl, h⟩ := bind_el h
  refine call_V1 X hW (kC_X11 h0) m_7_17 m_7_19 m_0_68 mv_X11_get (c_X11_get h0 hcl) (by decide) rfl rfl (Nat.le_of_ble_eq_true rfl) hl.1 dX11_isQuest_5 ?_
  clear hW hcl; intro H locs hW
  refine lv_iconst (v := 1) hx hb dX11_isQuest_8 (by decide) ?_
  refine lv_isub hx hb dX11_isQuest_9 ?_
  obtain ⟨r_2, hcl, h⟩ := bind_el h
  refine call_S1 X hW m_6_109 m_6_110 mv_X11_isIn (c_X11_isIn hcl) (by decide) rfl rfl (Nat.le_of_ble_eq_true rfl) hl.1 dX11_isQuest_10 ?_
  clear hW hcl; intro H locs hW
  refine lv_iconst (v := 1) hx hb dX11_isQuest_13 (by decide) ?_
  obtain ⟨r_3, σ_3, hcl, h⟩ := bnd2_el h
  refine call_V1 X hW (kC_X11 h0) m_6_112 m_6_114 m_0_39 mv_X11_right (c_X11_right h0 hcl) (by decide) rfl rfl (Nat.le_of_ble_eq_true rfl) hl.1 dX11_isQuest_14 ?_
  clear hW hcl; intro H locs hW
  obtain ⟨hz, h⟩ := ckZ_el h
  exact rz_end hret h hz dX11_isQuest_17 hW
set_option maxRecDepth 20000 in
set_option maxHeartbeats 4000000 in
theorem c_X11_isStep {G : Gt} {l : Launch} {v0 : Nat} (h0 : kd v0 = 10) {v1 : Int32} {v2 : Int32} {σ : St} {r : Int32} {σ' : St} (hf : pf_X11_isStep v0 v1 v2 σ = some (r, σ')) : Ct G l yX11_isStep cX11_isStep 3 (some .boolean) 5 [.ref (gz G + (v0)), .int (v1), .int (v2)] σ (some (.int r)) σ' := by
  refine met_z (by decide +kernel) (Nat.le_of_ble_eq_true rfl) rfl ?_
  intro p e s m args below meth c Q ls X hW hret hl
  have hx := X.1.1
  have hb := X.1.2.1
  have hl : lv_has ls 3 [(0, .ref (gz G + (v0))), (1, .int (v1)), (2, .int (v2))] := hl
  have h := hf
  clear hf
  unfold pf_X11_isStep at h
  refine lv_aload_n hx hb dX11_isStep_0 rfl (lv_at hl 0 rfl) ?_
  refine lv_iload_n hx hb dX11_isStep_1 rfl (lv_at hl 1 rfl) ?_
  obtain ⟨r_1, σ_1, hcl, h⟩ := bnd2_el h
  refine call_V1 X hW (kC_X11 h0) m_7_112 m_7_114 m_0_87 mv_X11_isQuest (c_X11_isQuest h0 hcl) (by decide) rfl rfl (Nat.le_of_ble_eq_true rfl) hl.1 dX11_isStep_2 ?_
  clear hW hcl; intro H locs hW
  refine lv_if_eq (tgt := 32) hx hb dX11_isStep_5 (by decide) (fun hc => ?_) (fun hc => ?_)
  · replace h := if_t hc h
    refine lv_iconst (v := 0) hx hb dX11_isStep_32 (by decide) ?_
    exact rz_end hret h (by decide) dX11_isStep_33 hW
  · replace h := if_f hc h
    refine lv_aload_n hx hb dX11_isStep_8 rfl (lv_at hl 0 rfl) ?_
    refine lv_iload_n hx hb dX11_isStep_9 rfl (lv_at hl 2 rfl) ?_
    refine lv_iconst (v := 0) hx hb dX11_isStep_10 (by decide) ?_
    refine lv_aload_n hx hb dX11_isStep_11 rfl (lv_at hl 0 rfl) ?_
    refine lv_iload_n hx hb dX11_isStep_12 rfl (lv_at hl 1 rfl) ?_
    obtain ⟨r_2, hcl, h⟩ := bind_el h
    refine call_V1 X hW (kC_X11 h0) m_7_38 m_7_40 m_0_72 mv_X11_stepsOf (c_X11_stepsOf h0 hcl) (by decide) rfl rfl (Nat.le_of_ble_eq_true rfl) hl.1 dX11_isStep_13 ?_
    clear hW hcl; intro H locs hW
    refine lv_iconst (v := 1) hx hb dX11_isStep_16 (by decide) ?_
    refine lv_isub hx hb dX11_isStep_17 ?_
    obtain ⟨r_3, hcl, h⟩ := bind_el h
    refine call_S1 X hW m_6_109 m_6_110 mv_X11_isIn (c_X11_isIn hcl) (by decide) rfl rfl (Nat.le_of_ble_eq_true rfl) hl.1 dX11_isStep_18 ?_
    clear hW hcl; intro H locs hW
    refine lv_iconst (v := 1) hx hb dX11_isStep_21 (by decide) ?_
    obtain ⟨r_4, σ_4, hcl, h⟩ := bnd2_el h
    refine call_V1 X hW (kC_X11 h0) m_6_112 m_6_114 m_0_39 mv_X11_right (c_X11_right h0 hcl) (by decide) rfl rfl (Nat.le_of_ble_eq_true rfl) hl.1 dX11_isStep_22 ?_
    clear hW hcl; intro H locs hW
    refine lv_if_eq (tgt := 32) hx hb dX11_isStep_25 (by decide) (fun hc => ?_) (fun hc => ?_)
    · replace h := if_t hc h
      refine lv_iconst (v := 0) hx hb dX11_isStep_32 (by decide) ?_
      exact rz_end hret h (by decide) dX11_isStep_33 hW
    · replace h := if_f hc h
      refine lv_iconst (v := 1) hx hb dX11_isStep_28 (by decide) ?_
      refine lv_goto (tgt := 33) hx hb dX11_isStep_29 (by decide) ?_
      exact rz_end hret h (by decide) dX11_isStep_33 hW
set_option maxRecDepth 20000 in
set_option maxHeartbeats 4000000 in
theorem c_X11_stock {G : Gt} {l : Launch} {v0 : Nat} (h0 : kd v0 = 10) {v1 : Int32} {σ : St} {r : Int32} {σ' : St} (hf : pf_X11_stock v0 v1 σ = some (r, σ')) : Ct G l yX11_stock cX11_stock 2 (some .int) 4 [.ref (gz G + (v0)), .int (v1)] σ (some (.int r)) σ' := by
  refine met_i (by decide +kernel) (Nat.le_of_ble_eq_true rfl) rfl ?_
  intro p e s m args below meth c Q ls X hW hret hl
  have hx := X.1.1
  have hb := X.1.2.1
  have hl : lv_has ls 2 [(0, .ref (gz G + (v0))), (1, .int (v1))] := hl
  have h := hf
  clear hf
  unfold pf_X11_stock at h
  refine lv_aload_n hx hb dX11_stock_0 rfl (lv_at hl 0 rfl) ?_
  refine lv_iconst (v := 0) hx hb dX11_stock_1 (by decide) ?_
  refine sf_X11_thrown X hW h0 m_6_6 dX11_stock_2 ?_
  clear hW; intro H locs hW
  refine nm_s hW h ?_
  clear hW h; intro σ_1 hW h
  refine lv_aload_n hx hb dX11_stock_5 rfl (lv_at hl 0 rfl) ?_
  refine lv_iload_n hx hb dX11_stock_6 rfl (lv_at hl 1 rfl) ?_
  obtain ⟨r_2, σ_2, hcl, h⟩ := bnd2_el h
  refine call_V1 X hW (kC_X11 h0) m_7_104 m_7_106 m_0_86 mv_X11_isItem (c_X11_isItem h0 hcl) (by decide) rfl rfl (Nat.le_of_ble_eq_true rfl) hl.1 dX11_stock_7 ?_
  clear hW hcl; intro H locs hW
  refine lv_if_eq (tgt := 23) hx hb dX11_stock_10 (by decide) (fun hc => ?_) (fun hc => ?_)
  · replace h := if_t hc h
    refine lv_iconst (v := 0) hx hb dX11_stock_23 (by decide) ?_
    exact ri_end hret h dX11_stock_24 hW
  · replace h := if_f hc h
    refine lv_aload_n hx hb dX11_stock_13 rfl (lv_at hl 0 rfl) ?_
    refine lv_iconst (v := 5) hx hb dX11_stock_14 (by decide) ?_
    refine lv_iload_n hx hb dX11_stock_15 rfl (lv_at hl 1 rfl) ?_
    refine lv_iadd hx hb dX11_stock_16 ?_
    obtain ⟨r_3, hcl, h⟩ := bind_el h
    refine call_V1 X hW (kC_X11 h0) m_7_17 m_7_19 m_0_68 mv_X11_get (c_X11_get h0 hcl) (by decide) rfl rfl (Nat.le_of_ble_eq_true rfl) hl.1 dX11_stock_17 ?_
    clear hW hcl; intro H locs hW
    refine lv_goto (tgt := 24) hx hb dX11_stock_20 (by decide) ?_
    exact ri_end hret h dX11_stock_24 hW
set_option maxRecDepth 20000 in
set_option maxHeartbeats 4000000 in
theorem bl_X11_triedSet_b54 (X : Cx G p R s m args c cells slots cX11_triedSet 5 RX11 8) {r : Int32} {σ' : St} (hret : R_I G p l e R s m args below meth c cells slots Q cX11_triedSet r σ') {k15 : Nat → Int32 → Int32 → Int32 → Int32 → St → (Option (Int32 × St))}
    (hk15 : ∀ (v0 : Nat) (h0 : kd v0 = 10) (v1 : Int32) (v2 : Int32) (v3 : Int32) (v4 : Int32) (σ : St) (_ : k15 v0 v1 v2 v3 v4 σ = some (r, σ')) (H : Heap) (locs : List Loc) (ls : Array Slot) (_ : GW G σ s H locs) (_ : lv_has ls 5 [(0, .ref (gz G + (v0))), (1, .int (v1)), (2, .int (v2)), (3, .int (v3)), (4, .int (v4))]), W p l e R s m args below meth c H locs cells slots Q (F0 m 15 ls [])) :
    ∀ (v0 : Nat) (h0 : kd v0 = 10) (v1 : Int32) (v2 : Int32) (v4 : Int32) (s0 : Int32) (s1 : Int32) (σ : St) (_ : pf_X11_triedSet_b54 k15 v0 v1 v2 v4 s0 s1 σ = some (r, σ')) (H : Heap) (locs : List Loc) (ls : Array Slot) (_ : GW G σ s H locs) (_ : lv_has ls 5 [(0, .ref (gz G + (v0))), (1, .int (v1)), (2, .int (v2)), (4, .int (v4))]), W p l e R s m args below meth c H locs cells slots Q (F0 m 54 ls [.int (s1), .int (s0)]) := by
  have hx := X.1.1
  have hb := X.1.2.1
  intro v0 h0 v1 v2 v4 s0 s1 σ h H locs ls hW hl
  unfold pf_X11_triedSet_b54 at h
  refine lv_ior hx hb dX11_triedSet_54 ?_
  refine nm_i h ?_
  clear h; intro v3_1 h
  refine lv_istore_n (lv' := [(3, .int (v3_1)), (0, .ref (gz G + (v0))), (1, .int (v1)), (2, .int (v2)), (4, .int (v4))]) hx hb dX11_triedSet_55 rfl hl (by decide) rfl ?_
  clear hl; intro ls hl
  refine w_iinc (v := 1) (lv' := fun y => [(4, .int (y)), (3, .int (v3_1)), (0, .ref (gz G + (v0))), (1, .int (v1)), (2, .int (v2))]) hx hb dX11_triedSet_56 hl (k := 4) rfl (by decide) (by decide) (fun _ => rfl) h ?_
  clear h hl; intro v4_2 h ls hl
  refine lv_goto (tgt := 15) hx hb dX11_triedSet_59 (by decide) ?_
  exact hk15 v0 h0 v1 v2 v3_1 v4_2 σ h _ _ _ hW (lv_sub hl [2, 3, 4, 1, 0] rfl)
set_option maxRecDepth 20000 in
set_option maxHeartbeats 4000000 in
theorem bl_X11_triedSet_b53 (X : Cx G p R s m args c cells slots cX11_triedSet 5 RX11 8) {r : Int32} {σ' : St} (hret : R_I G p l e R s m args below meth c cells slots Q cX11_triedSet r σ') {k15 : Nat → Int32 → Int32 → Int32 → Int32 → St → (Option (Int32 × St))}
    (hk15 : ∀ (v0 : Nat) (h0 : kd v0 = 10) (v1 : Int32) (v2 : Int32) (v3 : Int32) (v4 : Int32) (σ : St) (_ : k15 v0 v1 v2 v3 v4 σ = some (r, σ')) (H : Heap) (locs : List Loc) (ls : Array Slot) (_ : GW G σ s H locs) (_ : lv_has ls 5 [(0, .ref (gz G + (v0))), (1, .int (v1)), (2, .int (v2)), (3, .int (v3)), (4, .int (v4))]), W p l e R s m args below meth c H locs cells slots Q (F0 m 15 ls [])) :
    ∀ (v0 : Nat) (h0 : kd v0 = 10) (v1 : Int32) (v2 : Int32) (v4 : Int32) (s0 : Int32) (σ : St) (_ : pf_X11_triedSet_b53 k15 v0 v1 v2 v4 s0 σ = some (r, σ')) (H : Heap) (locs : List Loc) (ls : Array Slot) (_ : GW G σ s H locs) (_ : lv_has ls 5 [(0, .ref (gz G + (v0))), (1, .int (v1)), (2, .int (v2)), (4, .int (v4))]), W p l e R s m args below meth c H locs cells slots Q (F0 m 53 ls [.int (s0)]) := by
  have hx := X.1.1
  have hb := X.1.2.1
  intro v0 h0 v1 v2 v4 s0 σ h H locs ls hW hl
  unfold pf_X11_triedSet_b53 at h
  refine lv_iconst (v := 0) hx hb dX11_triedSet_53 (by decide) ?_
  exact bl_X11_triedSet_b54 X hret hk15 v0 h0 v1 v2 v4 s0 0 σ h _ _ _ hW (lv_sub hl [0, 1, 2, 3] rfl)
set_option maxRecDepth 20000 in
set_option maxHeartbeats 4000000 in
theorem bl_X11_triedSet_L15 (X : Cx G p R s m args c cells slots cX11_triedSet 5 RX11 8) {r : Int32} {σ' : St} (hret : R_I G p l e R s m args below meth c cells slots Q cX11_triedSet r σ') :
    ∀ (n : Nat), ∀ (v0 : Nat) (h0 : kd v0 = 10) (v1 : Int32) (v2 : Int32) (v3 : Int32) (v4 : Int32) (σ : St) (_ : pf_X11_triedSet_L15 n v0 v1 v2 v3 v4 σ = some (r, σ')) (H : Heap) (locs : List Loc) (ls : Array Slot) (_ : GW G σ s H locs) (_ : lv_has ls 5 [(0, .ref (gz G + (v0))), (1, .int (v1)), (2, .int (v2)), (3, .int (v3)), (4, .int (v4))]), W p l e R s m args below meth c H locs cells slots Q (F0 m 15 ls []) := by
  have hx := X.1.1
  have hb := X.1.2.1
  intro n
  induction n with
  | zero => intro v0 h0 v1 v2 v3 v4 σ h H locs ls hW hl; cases h
  | succ n ih =>
    intro v0 h0 v1 v2 v3 v4 σ h H locs ls hW hl
    rw [pf_X11_triedSet_L15.eq_2] at h
    refine lv_iload hx hb dX11_triedSet_15 (lv_at hl 4 rfl) ?_
    refine lv_aload_n hx hb dX11_triedSet_17 rfl (lv_at hl 0 rfl) ?_
    refine lv_iload_n hx hb dX11_triedSet_18 rfl (lv_at hl 1 rfl) ?_
    obtain ⟨r_1, hcl, h⟩ := bind_el h
    refine call_V1 X hW (kC_X11 h0) m_7_38 m_7_40 m_0_72 mv_X11_stepsOf (c_X11_stepsOf h0 hcl) (by decide) rfl rfl (Nat.le_of_ble_eq_true rfl) hl.1 dX11_triedSet_19 ?_
    clear hW hcl; intro H locs hW
    refine lv_icmp_ge (tgt := 62) hx hb dX11_triedSet_22 (by decide) (fun hc => ?_) (fun hc => ?_)
    · replace h := if_t hc h
      refine lv_iload_n hx hb dX11_triedSet_62 rfl (lv_at hl 3 rfl) ?_
      exact ri_end hret h dX11_triedSet_63 hW
    · replace h := if_f hc h
      refine lv_iload_n hx hb dX11_triedSet_25 rfl (lv_at hl 3 rfl) ?_
      refine lv_aload_n hx hb dX11_triedSet_26 rfl (lv_at hl 0 rfl) ?_
      refine lv_iload_n hx hb dX11_triedSet_27 rfl (lv_at hl 1 rfl) ?_
      obtain ⟨r_2, hcl, h⟩ := bind_el h
      refine call_V1 X hW (kC_X11 h0) m_7_96 m_7_98 m_0_85 mv_X11_isQuestOpen (c_X11_isQuestOpen h0 hcl) (by decide) rfl rfl (Nat.le_of_ble_eq_true rfl) hl.1 dX11_triedSet_28 ?_
      clear hW hcl; intro H locs hW
      refine lv_if_eq (tgt := 53) hx hb dX11_triedSet_31 (by decide) (fun hc => ?_) (fun hc => ?_)
      · replace h := if_t hc h
        exact bl_X11_triedSet_b53 X hret ih v0 h0 v1 v2 v4 v3 σ h _ _ _ hW (lv_sub hl [0, 1, 2, 4] rfl)
      · replace h := if_f hc h
        refine lv_aload_n hx hb dX11_triedSet_34 rfl (lv_at hl 0 rfl) ?_
        refine lv_iload_n hx hb dX11_triedSet_35 rfl (lv_at hl 1 rfl) ?_
        refine lv_iload hx hb dX11_triedSet_36 (lv_at hl 4 rfl) ?_
        refine lv_iload_n hx hb dX11_triedSet_38 rfl (lv_at hl 2 rfl) ?_
        refine lv_iload_n hx hb dX11_triedSet_39 rfl (lv_at hl 2 rfl) ?_
        obtain ⟨r_3, hcl, h⟩ := bind_el h
        refine call_V1 X hW (kC_X11 h0) m_7_79 m_7_81 m_0_81 mv_X11_can (c_X11_can h0 hcl) (by decide) rfl rfl (Nat.le_of_ble_eq_true rfl) hl.1 dX11_triedSet_40 ?_
        clear hW hcl; intro H locs hW
        refine lv_if_eq (tgt := 53) hx hb dX11_triedSet_43 (by decide) (fun hc => ?_) (fun hc => ?_)
        · replace h := if_t hc h
          exact bl_X11_triedSet_b53 X hret ih v0 h0 v1 v2 v4 v3 σ h _ _ _ hW (lv_sub hl [0, 1, 2, 4] rfl)
        · replace h := if_f hc h
          refine lv_iconst (v := 1) hx hb dX11_triedSet_46 (by decide) ?_
          refine lv_iload hx hb dX11_triedSet_47 (lv_at hl 4 rfl) ?_
          refine w_ishl hx hb dX11_triedSet_49 ?_
          refine lv_goto (tgt := 54) hx hb dX11_triedSet_50 (by decide) ?_
          exact bl_X11_triedSet_b54 X hret ih v0 h0 v1 v2 v4 v3 (ishl 1 v4) σ h _ _ _ hW (lv_sub hl [0, 1, 2, 4] rfl)
set_option maxRecDepth 20000 in
set_option maxHeartbeats 4000000 in
theorem c_X11_triedSet {G : Gt} {l : Launch} {v0 : Nat} (h0 : kd v0 = 10) {v1 : Int32} {σ : St} {r : Int32} {σ' : St} (hf : pf_X11_triedSet v0 v1 σ = some (r, σ')) : Ct G l yX11_triedSet cX11_triedSet 5 (some .int) 8 [.ref (gz G + (v0)), .int (v1)] σ (some (.int r)) σ' := by
  refine met_i (by decide +kernel) (Nat.le_of_ble_eq_true rfl) rfl ?_
  intro p e s m args below meth c Q ls X hW hret hl
  have hx := X.1.1
  have hb := X.1.2.1
  have hl : lv_has ls 5 [(0, .ref (gz G + (v0))), (1, .int (v1))] := hl
  have h := hf
  clear hf
  unfold pf_X11_triedSet at h
  refine lv_aload_n hx hb dX11_triedSet_0 rfl (lv_at hl 0 rfl) ?_
  obtain ⟨σ_1, hcl, h⟩ := bind_el h
  refine call_V0 X hW (kC_X11 h0) m_7_66 m_7_68 m_0_78 mv_X11_asItIs (c_X11_asItIs h0 hcl) (by decide) rfl rfl (Nat.le_of_ble_eq_true rfl) hl.1 dX11_triedSet_1 ?_
  clear hW hcl; intro H locs hW
  refine lv_aload_n hx hb dX11_triedSet_4 rfl (lv_at hl 0 rfl) ?_
  refine lv_iload_n hx hb dX11_triedSet_5 rfl (lv_at hl 1 rfl) ?_
  obtain ⟨r_2, hcl, h⟩ := bind_el h
  refine call_V1 X hW (kC_X11 h0) m_7_46 m_7_48 m_0_74 mv_X11_doneSet (c_X11_doneSet h0 hcl) (by decide) rfl rfl (Nat.le_of_ble_eq_true rfl) hl.1 dX11_triedSet_6 ?_
  clear hW hcl; intro H locs hW
  refine lv_istore_n (lv' := [(2, .int (r_2)), (0, .ref (gz G + (v0))), (1, .int (v1))]) hx hb dX11_triedSet_9 rfl hl (by decide) rfl ?_
  clear hl; intro ls hl
  refine lv_iconst (v := 0) hx hb dX11_triedSet_10 (by decide) ?_
  refine lv_istore_n (lv' := [(3, .int (0)), (2, .int (r_2)), (0, .ref (gz G + (v0))), (1, .int (v1))]) hx hb dX11_triedSet_11 rfl hl (by decide) rfl ?_
  clear hl; intro ls hl
  refine lv_iconst (v := 0) hx hb dX11_triedSet_12 (by decide) ?_
  refine lv_istore (lv' := [(4, .int (0)), (3, .int (0)), (2, .int (r_2)), (0, .ref (gz G + (v0))), (1, .int (v1))]) hx hb dX11_triedSet_13 hl (by decide) rfl ?_
  clear hl; intro ls hl
  exact bl_X11_triedSet_L15 X hret FU v0 h0 v1 r_2 0 0 σ_1 h _ _ _ hW (lv_sub hl [3, 4, 2, 1, 0] rfl)
set_option maxRecDepth 20000 in
set_option maxHeartbeats 4000000 in
theorem c_X11_toldOf {G : Gt} {l : Launch} {v0 : Nat} (h0 : kd v0 = 10) {v1 : Int32} {v2 : Int32} {σ : St} {r : Int32} {σ' : St} (hf : pf_X11_toldOf v0 v1 v2 σ = some (r, σ')) : Ct G l yX11_toldOf cX11_toldOf 3 (some .int) 9 [.ref (gz G + (v0)), .int (v1), .int (v2)] σ (some (.int r)) σ' := by
  refine met_i (by decide +kernel) (Nat.le_of_ble_eq_true rfl) rfl ?_
  intro p e s m args below meth c Q ls X hW hret hl
  have hx := X.1.1
  have hb := X.1.2.1
  have hl : lv_has ls 3 [(0, .ref (gz G + (v0))), (1, .int (v1)), (2, .int (v2))] := hl
  have h := hf
  clear hf
  unfold pf_X11_toldOf at h
  refine lv_iload_n hx hb dX11_toldOf_0 rfl (lv_at hl 2 rfl) ?_
  by_cases hc0 : v2 = 0
  · replace h := if_t hc0 h
    refine lv_tableIn (off := 43) (tgt := 44) hx hb dX11_toldOf_1 (by rw [hc0]; decide) (by rw [hc0]; decide) (by rw [hc0]; rfl) (by decide) ?_
    refine lv_aload_n hx hb dX11_toldOf_44 rfl (lv_at hl 0 rfl) ?_
    refine lv_iload_n hx hb dX11_toldOf_45 rfl (lv_at hl 1 rfl) ?_
    obtain ⟨r_1, hcl, h⟩ := bind_el h
    refine call_V1 X hW (kC_X11 h0) m_7_38 m_7_40 m_0_72 mv_X11_stepsOf (c_X11_stepsOf h0 hcl) (by decide) rfl rfl (Nat.le_of_ble_eq_true rfl) hl.1 dX11_toldOf_46 ?_
    clear hW hcl; intro H locs hW
    exact ri_end hret h dX11_toldOf_49 hW
  replace h := if_f hc0 h
  by_cases hc1 : v2 = 1
  · replace h := if_t hc1 h
    refine lv_tableIn (off := 49) (tgt := 50) hx hb dX11_toldOf_1 (by rw [hc1]; decide) (by rw [hc1]; decide) (by rw [hc1]; rfl) (by decide) ?_
    refine lv_aload_n hx hb dX11_toldOf_50 rfl (lv_at hl 0 rfl) ?_
    refine lv_iload_n hx hb dX11_toldOf_51 rfl (lv_at hl 1 rfl) ?_
    refine lv_iconst (v := 1) hx hb dX11_toldOf_52 (by decide) ?_
    obtain ⟨r_2, hcl, h⟩ := bind_el h
    refine call_V1 X hW (kC_X11 h0) m_7_42 m_7_44 m_0_73 mv_X11_ofQuest (c_X11_ofQuest h0 hcl) (by decide) rfl rfl (Nat.le_of_ble_eq_true rfl) hl.1 dX11_toldOf_53 ?_
    clear hW hcl; intro H locs hW
    exact ri_end hret h dX11_toldOf_56 hW
  replace h := if_f hc1 h
  by_cases hc2 : v2 = 2
  · replace h := if_t hc2 h
    refine lv_tableIn (off := 56) (tgt := 57) hx hb dX11_toldOf_1 (by rw [hc2]; decide) (by rw [hc2]; decide) (by rw [hc2]; rfl) (by decide) ?_
    refine lv_aload_n hx hb dX11_toldOf_57 rfl (lv_at hl 0 rfl) ?_
    refine lv_iload_n hx hb dX11_toldOf_58 rfl (lv_at hl 1 rfl) ?_
    obtain ⟨r_3, hcl, h⟩ := bind_el h
    refine call_V1 X hW (kC_X11 h0) m_7_46 m_7_48 m_0_74 mv_X11_doneSet (c_X11_doneSet h0 hcl) (by decide) rfl rfl (Nat.le_of_ble_eq_true rfl) hl.1 dX11_toldOf_59 ?_
    clear hW hcl; intro H locs hW
    exact ri_end hret h dX11_toldOf_62 hW
  replace h := if_f hc2 h
  by_cases hc3 : v2 = 3
  · replace h := if_t hc3 h
    refine lv_tableIn (off := 62) (tgt := 63) hx hb dX11_toldOf_1 (by rw [hc3]; decide) (by rw [hc3]; decide) (by rw [hc3]; rfl) (by decide) ?_
    refine lv_aload_n hx hb dX11_toldOf_63 rfl (lv_at hl 0 rfl) ?_
    refine lv_iload_n hx hb dX11_toldOf_64 rfl (lv_at hl 1 rfl) ?_
    obtain ⟨r_4, hcl, h⟩ := bind_el h
    refine call_V1 X hW (kC_X11 h0) m_7_120 m_7_122 m_0_89 mv_X11_brokenSet (c_X11_brokenSet h0 hcl) (by decide) rfl rfl (Nat.le_of_ble_eq_true rfl) hl.1 dX11_toldOf_65 ?_
    clear hW hcl; intro H locs hW
    exact ri_end hret h dX11_toldOf_68 hW
  replace h := if_f hc3 h
  by_cases hc4 : v2 = 4
  · replace h := if_t hc4 h
    refine lv_tableIn (off := 68) (tgt := 69) hx hb dX11_toldOf_1 (by rw [hc4]; decide) (by rw [hc4]; decide) (by rw [hc4]; rfl) (by decide) ?_
    refine lv_aload_n hx hb dX11_toldOf_69 rfl (lv_at hl 0 rfl) ?_
    refine lv_iload_n hx hb dX11_toldOf_70 rfl (lv_at hl 1 rfl) ?_
    refine lv_iconst (v := 2) hx hb dX11_toldOf_71 (by decide) ?_
    obtain ⟨r_5, hcl, h⟩ := bind_el h
    refine call_V1 X hW (kC_X11 h0) m_7_42 m_7_44 m_0_73 mv_X11_ofQuest (c_X11_ofQuest h0 hcl) (by decide) rfl rfl (Nat.le_of_ble_eq_true rfl) hl.1 dX11_toldOf_72 ?_
    clear hW hcl; intro H locs hW
    exact ri_end hret h dX11_toldOf_75 hW
  replace h := if_f hc4 h
  by_cases hc5 : v2 = 5
  · replace h := if_t hc5 h
    refine lv_tableIn (off := 75) (tgt := 76) hx hb dX11_toldOf_1 (by rw [hc5]; decide) (by rw [hc5]; decide) (by rw [hc5]; rfl) (by decide) ?_
    refine lv_aload_n hx hb dX11_toldOf_76 rfl (lv_at hl 0 rfl) ?_
    refine lv_iload_n hx hb dX11_toldOf_77 rfl (lv_at hl 1 rfl) ?_
    refine lv_iconst (v := 3) hx hb dX11_toldOf_78 (by decide) ?_
    obtain ⟨r_6, hcl, h⟩ := bind_el h
    refine call_V1 X hW (kC_X11 h0) m_7_42 m_7_44 m_0_73 mv_X11_ofQuest (c_X11_ofQuest h0 hcl) (by decide) rfl rfl (Nat.le_of_ble_eq_true rfl) hl.1 dX11_toldOf_79 ?_
    clear hW hcl; intro H locs hW
    exact ri_end hret h dX11_toldOf_82 hW
  replace h := if_f hc5 h
  by_cases hc6 : v2 = 6
  · replace h := if_t hc6 h
    refine lv_tableIn (off := 82) (tgt := 83) hx hb dX11_toldOf_1 (by rw [hc6]; decide) (by rw [hc6]; decide) (by rw [hc6]; rfl) (by decide) ?_
    refine lv_aload_n hx hb dX11_toldOf_83 rfl (lv_at hl 0 rfl) ?_
    refine lv_iload_n hx hb dX11_toldOf_84 rfl (lv_at hl 1 rfl) ?_
    obtain ⟨r_7, hcl, h⟩ := bind_el h
    refine call_V1 X hW (kC_X11 h0) m_7_58 m_7_60 m_0_76 mv_X11_failsOf (c_X11_failsOf h0 hcl) (by decide) rfl rfl (Nat.le_of_ble_eq_true rfl) hl.1 dX11_toldOf_85 ?_
    clear hW hcl; intro H locs hW
    exact ri_end hret h dX11_toldOf_88 hW
  replace h := if_f hc6 h
  refine lv_tableOut (tgt := 89) hx hb dX11_toldOf_1 (tb_out (n := 7) (by decide) rfl (fun k hk => match k, hk with | 0, _ => hc0 | 1, _ => hc1 | 2, _ => hc2 | 3, _ => hc3 | 4, _ => hc4 | 5, _ => hc5 | 6, _ => hc6 | k + 7, hk => absurd hk (by omega))) (by decide) ?_
  skip
  refine lv_aload_n hx hb dX11_toldOf_89 rfl (lv_at hl 0 rfl) ?_
  refine lv_iload_n hx hb dX11_toldOf_90 rfl (lv_at hl 1 rfl) ?_
  obtain ⟨r_8, σ_8, hcl, h⟩ := bnd2_el h
  refine call_V1 X hW (kC_X11 h0) m_7_124 m_7_126 m_0_90 mv_X11_triedSet (c_X11_triedSet h0 hcl) (by decide) rfl rfl (Nat.le_of_ble_eq_true rfl) hl.1 dX11_toldOf_91 ?_
  clear hW hcl; intro H locs hW
  exact ri_end hret h dX11_toldOf_94 hW
set_option maxRecDepth 20000 in
set_option maxHeartbeats 4000000 in
theorem c_X11_toldOfStep {G : Gt} {l : Launch} {v0 : Nat} (h0 : kd v0 = 10) {v1 : Int32} {v2 : Int32} {v3 : Int32} {σ : St} {r : Int32} (hf : pf_X11_toldOfStep v0 v1 v2 v3 σ = some r) : Ct G l yX11_toldOfStep cX11_toldOfStep 4 (some .int) 4 [.ref (gz G + (v0)), .int (v1), .int (v2), .int (v3)] σ (some (.int r)) σ := by
  refine met_i (by decide +kernel) (Nat.le_of_ble_eq_true rfl) rfl ?_
  intro p e s m args below meth c Q ls X hW hret hl
  have hx := X.1.1
  have hb := X.1.2.1
  have hl : lv_has ls 4 [(0, .ref (gz G + (v0))), (1, .int (v1)), (2, .int (v2)), (3, .int (v3))] := hl
  have h := hf
  clear hf
  unfold pf_X11_toldOfStep at h
  refine lv_aload_n hx hb dX11_toldOfStep_0 rfl (lv_at hl 0 rfl) ?_
  refine lv_iload_n hx hb dX11_toldOfStep_1 rfl (lv_at hl 1 rfl) ?_
  refine lv_iload_n hx hb dX11_toldOfStep_2 rfl (lv_at hl 2 rfl) ?_
  refine lv_iload_n hx hb dX11_toldOfStep_3 rfl (lv_at hl 3 rfl) ?_
  obtain ⟨r_1, hcl, h⟩ := bind_el h
  refine call_V1 X hW (kC_X11 h0) m_7_50 m_7_52 m_0_75 mv_X11_ofStep (c_X11_ofStep h0 hcl) (by decide) rfl rfl (Nat.le_of_ble_eq_true rfl) hl.1 dX11_toldOfStep_4 ?_
  clear hW hcl; intro H locs hW
  exact ri_end0 hret h dX11_toldOfStep_7 hW
set_option maxRecDepth 20000 in
set_option maxHeartbeats 4000000 in
theorem c_X11_quest {G : Gt} {l : Launch} {v0 : Nat} (h0 : kd v0 = 10) {v1 : Int32} {v2 : Int32} {σ : St} {r : Int32} {σ' : St} (hf : pf_X11_quest v0 v1 v2 σ = some (r, σ')) : Ct G l yX11_quest cX11_quest 3 (some .int) 10 [.ref (gz G + (v0)), .int (v1), .int (v2)] σ (some (.int r)) σ' := by
  refine met_i (by decide +kernel) (Nat.le_of_ble_eq_true rfl) rfl ?_
  intro p e s m args below meth c Q ls X hW hret hl
  have hx := X.1.1
  have hb := X.1.2.1
  have hl : lv_has ls 3 [(0, .ref (gz G + (v0))), (1, .int (v1)), (2, .int (v2))] := hl
  have h := hf
  clear hf
  unfold pf_X11_quest at h
  refine lv_aload_n hx hb dX11_quest_0 rfl (lv_at hl 0 rfl) ?_
  refine lv_iconst (v := 0) hx hb dX11_quest_1 (by decide) ?_
  refine sf_X11_thrown X hW h0 m_6_6 dX11_quest_2 ?_
  clear hW; intro H locs hW
  refine nm_s hW h ?_
  clear hW h; intro σ_1 hW h
  refine lv_aload_n hx hb dX11_quest_5 rfl (lv_at hl 0 rfl) ?_
  refine lv_iload_n hx hb dX11_quest_6 rfl (lv_at hl 1 rfl) ?_
  obtain ⟨r_2, σ_2, hcl, h⟩ := bnd2_el h
  refine call_V1 X hW (kC_X11 h0) m_7_112 m_7_114 m_0_87 mv_X11_isQuest (c_X11_isQuest h0 hcl) (by decide) rfl rfl (Nat.le_of_ble_eq_true rfl) hl.1 dX11_quest_7 ?_
  clear hW hcl; intro H locs hW
  refine lv_if_eq (tgt := 37) hx hb dX11_quest_10 (by decide) (fun hc => ?_) (fun hc => ?_)
  · replace h := if_t hc h
    refine lv_iconst (v := 0) hx hb dX11_quest_37 (by decide) ?_
    exact ri_end hret h dX11_quest_38 hW
  · replace h := if_f hc h
    refine lv_aload_n hx hb dX11_quest_13 rfl (lv_at hl 0 rfl) ?_
    refine lv_iload_n hx hb dX11_quest_14 rfl (lv_at hl 2 rfl) ?_
    refine lv_iconst (v := 0) hx hb dX11_quest_15 (by decide) ?_
    refine lv_bipush (v := 7) hx hb dX11_quest_16 (by decide) ?_
    obtain ⟨r_3, hcl, h⟩ := bind_el h
    refine call_S1 X hW m_6_109 m_6_110 mv_X11_isIn (c_X11_isIn hcl) (by decide) rfl rfl (Nat.le_of_ble_eq_true rfl) hl.1 dX11_quest_18 ?_
    clear hW hcl; intro H locs hW
    refine lv_iconst (v := 2) hx hb dX11_quest_21 (by decide) ?_
    obtain ⟨r_4, σ_4, hcl, h⟩ := bnd2_el h
    refine call_V1 X hW (kC_X11 h0) m_6_112 m_6_114 m_0_39 mv_X11_right (c_X11_right h0 hcl) (by decide) rfl rfl (Nat.le_of_ble_eq_true rfl) hl.1 dX11_quest_22 ?_
    clear hW hcl; intro H locs hW
    refine lv_if_eq (tgt := 37) hx hb dX11_quest_25 (by decide) (fun hc => ?_) (fun hc => ?_)
    · replace h := if_t hc h
      refine lv_iconst (v := 0) hx hb dX11_quest_37 (by decide) ?_
      exact ri_end hret h dX11_quest_38 hW
    · replace h := if_f hc h
      refine lv_aload_n hx hb dX11_quest_28 rfl (lv_at hl 0 rfl) ?_
      refine lv_iload_n hx hb dX11_quest_29 rfl (lv_at hl 1 rfl) ?_
      refine lv_iload_n hx hb dX11_quest_30 rfl (lv_at hl 2 rfl) ?_
      obtain ⟨r_5, σ_5, hcl, h⟩ := bnd2_el h
      refine call_V1 X hW (kC_X11 h0) m_7_116 m_7_118 m_0_88 mv_X11_toldOf (c_X11_toldOf h0 hcl) (by decide) rfl rfl (Nat.le_of_ble_eq_true rfl) hl.1 dX11_quest_31 ?_
      clear hW hcl; intro H locs hW
      refine lv_goto (tgt := 38) hx hb dX11_quest_34 (by decide) ?_
      exact ri_end hret h dX11_quest_38 hW
set_option maxRecDepth 20000 in
set_option maxHeartbeats 4000000 in
theorem c_X11_step {G : Gt} {l : Launch} {v0 : Nat} (h0 : kd v0 = 10) {v1 : Int32} {v2 : Int32} {v3 : Int32} {σ : St} {r : Int32} {σ' : St} (hf : pf_X11_step v0 v1 v2 v3 σ = some (r, σ')) : Ct G l yX11_step cX11_step 4 (some .int) 6 [.ref (gz G + (v0)), .int (v1), .int (v2), .int (v3)] σ (some (.int r)) σ' := by
  refine met_i (by decide +kernel) (Nat.le_of_ble_eq_true rfl) rfl ?_
  intro p e s m args below meth c Q ls X hW hret hl
  have hx := X.1.1
  have hb := X.1.2.1
  have hl : lv_has ls 4 [(0, .ref (gz G + (v0))), (1, .int (v1)), (2, .int (v2)), (3, .int (v3))] := hl
  have h := hf
  clear hf
  unfold pf_X11_step at h
  refine lv_aload_n hx hb dX11_step_0 rfl (lv_at hl 0 rfl) ?_
  refine lv_iconst (v := 0) hx hb dX11_step_1 (by decide) ?_
  refine sf_X11_thrown X hW h0 m_6_6 dX11_step_2 ?_
  clear hW; intro H locs hW
  refine nm_s hW h ?_
  clear hW h; intro σ_1 hW h
  refine lv_aload_n hx hb dX11_step_5 rfl (lv_at hl 0 rfl) ?_
  refine lv_iload_n hx hb dX11_step_6 rfl (lv_at hl 1 rfl) ?_
  refine lv_iload_n hx hb dX11_step_7 rfl (lv_at hl 2 rfl) ?_
  obtain ⟨r_2, σ_2, hcl, h⟩ := bnd2_el h
  refine call_V1 X hW (kC_X11 h0) m_7_132 m_7_134 m_0_91 mv_X11_isStep (c_X11_isStep h0 hcl) (by decide) rfl rfl (Nat.le_of_ble_eq_true rfl) hl.1 dX11_step_8 ?_
  clear hW hcl; intro H locs hW
  refine lv_if_eq (tgt := 38) hx hb dX11_step_11 (by decide) (fun hc => ?_) (fun hc => ?_)
  · replace h := if_t hc h
    refine lv_iconst (v := 0) hx hb dX11_step_38 (by decide) ?_
    exact ri_end hret h dX11_step_39 hW
  · replace h := if_f hc h
    refine lv_aload_n hx hb dX11_step_14 rfl (lv_at hl 0 rfl) ?_
    refine lv_iload_n hx hb dX11_step_15 rfl (lv_at hl 3 rfl) ?_
    refine lv_iconst (v := 0) hx hb dX11_step_16 (by decide) ?_
    refine lv_iconst (v := 5) hx hb dX11_step_17 (by decide) ?_
    obtain ⟨r_3, hcl, h⟩ := bind_el h
    refine call_S1 X hW m_6_109 m_6_110 mv_X11_isIn (c_X11_isIn hcl) (by decide) rfl rfl (Nat.le_of_ble_eq_true rfl) hl.1 dX11_step_18 ?_
    clear hW hcl; intro H locs hW
    refine lv_iconst (v := 2) hx hb dX11_step_21 (by decide) ?_
    obtain ⟨r_4, σ_4, hcl, h⟩ := bnd2_el h
    refine call_V1 X hW (kC_X11 h0) m_6_112 m_6_114 m_0_39 mv_X11_right (c_X11_right h0 hcl) (by decide) rfl rfl (Nat.le_of_ble_eq_true rfl) hl.1 dX11_step_22 ?_
    clear hW hcl; intro H locs hW
    refine lv_if_eq (tgt := 38) hx hb dX11_step_25 (by decide) (fun hc => ?_) (fun hc => ?_)
    · replace h := if_t hc h
      refine lv_iconst (v := 0) hx hb dX11_step_38 (by decide) ?_
      exact ri_end hret h dX11_step_39 hW
    · replace h := if_f hc h
      refine lv_aload_n hx hb dX11_step_28 rfl (lv_at hl 0 rfl) ?_
      refine lv_iload_n hx hb dX11_step_29 rfl (lv_at hl 1 rfl) ?_
      refine lv_iload_n hx hb dX11_step_30 rfl (lv_at hl 2 rfl) ?_
      refine lv_iload_n hx hb dX11_step_31 rfl (lv_at hl 3 rfl) ?_
      obtain ⟨r_5, hcl, h⟩ := bind_el h
      refine call_V1 X hW (kC_X11 h0) m_7_136 m_7_138 m_0_92 mv_X11_toldOfStep (c_X11_toldOfStep h0 hcl) (by decide) rfl rfl (Nat.le_of_ble_eq_true rfl) hl.1 dX11_step_32 ?_
      clear hW hcl; intro H locs hW
      refine lv_goto (tgt := 39) hx hb dX11_step_35 (by decide) ?_
      exact ri_end hret h dX11_step_39 hW
end
