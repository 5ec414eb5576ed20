section
variable {G : Gt} {p : Program} {l : Launch} {e : Env} {R : Room} {s : State} {m : MethodId} {args : Array Value} {below : List Frame} {meth : Method} {c : Code} {cells slots : Nat} {Q : State → Prop}
set_option maxRecDepth 20000 in
set_option maxHeartbeats 4000000 in
theorem bl_X2_copyFrom_L101 (X : Cx G p R s m args c cells slots cX2_copyFrom 3 RX2 3) {σ' : St} (hret : R_V G p l e R s m args below meth c cells slots Q cX2_copyFrom σ') :
    ∀ (n : Nat), ∀ (v0 : Nat) (h0 : kd v0 = 2) (v1 : Nat) (h1 : kd v1 = 2) (v2 : Int32) (σ : St) (_ : pf_X2_copyFrom_L101 n v0 v1 v2 σ = some σ') (H : Heap) (locs : List Loc) (ls : Array Slot) (_ : GW G σ s H locs) (_ : lv_has ls 3 [(0, .ref (gz G + (v0))), (1, .ref (gz G + (v1))), (2, .int (v2))]), W p l e R s m args below meth c H locs cells slots Q (F0 m 101 ls []) := by
  have hx := X.1.1
  have hb := X.1.2.1
  intro n
  induction n with
  | zero => intro v0 h0 v1 h1 v2 σ h H locs ls hW hl; cases h
  | succ n ih =>
    intro v0 h0 v1 h1 v2 σ h H locs ls hW hl
    rw [pf_X2_copyFrom_L101.eq_2] at h
    refine lv_iload_n hx hb dX2_copyFrom_101 rfl (lv_at hl 2 rfl) ?_
    refine lv_aload_n hx hb dX2_copyFrom_102 rfl (lv_at hl 0 rfl) ?_
    refine gf_X2_worthLength X hW h0 m_1_157 dX2_copyFrom_103 ?_
    refine lv_icmp_ge (tgt := 134) hx hb dX2_copyFrom_106 (by decide) (fun hc => ?_) (fun hc => ?_)
    · replace h := if_t hc h
      exact rv_end hret h dX2_copyFrom_134 hW
    · replace h := if_f hc h
      refine lv_iload_n hx hb dX2_copyFrom_109 rfl (lv_at hl 2 rfl) ?_
      refine lv_sipush (v := 800) hx hb dX2_copyFrom_110 (by decide) ?_
      refine lv_icmp_ge (tgt := 134) hx hb dX2_copyFrom_113 (by decide) (fun hc => ?_) (fun hc => ?_)
      · replace h := if_t hc h
        exact rv_end hret h dX2_copyFrom_134 hW
      · replace h := if_f hc h
        refine lv_aload_n hx hb dX2_copyFrom_116 rfl (lv_at hl 0 rfl) ?_
        refine gf_X2_worthCode X hW h0 m_1_155 dX2_copyFrom_117 ?_
        refine lv_iload_n hx hb dX2_copyFrom_120 rfl (lv_at hl 2 rfl) ?_
        refine lv_aload_n hx hb dX2_copyFrom_121 rfl (lv_at hl 1 rfl) ?_
        refine gf_X2_worthCode X hW h1 m_1_155 dX2_copyFrom_122 ?_
        refine lv_iload_n hx hb dX2_copyFrom_125 rfl (lv_at hl 2 rfl) ?_
        obtain ⟨hi1, h⟩ := ckI_el h
        refine r_iald X hW (kf_X2_worthCode h1) hi1 dX2_copyFrom_126 ?_
        obtain ⟨hi2, h⟩ := ckI_el h
        refine r_iast X hW (kf_X2_worthCode h0) hi2 dX2_copyFrom_127 ?_
        clear hW; intro H locs hW
        refine nm_s hW h ?_
        clear hW h; intro σ_3 hW h
        refine w_iinc (v := 1) (lv' := fun y => [(2, .int (y)), (0, .ref (gz G + (v0))), (1, .ref (gz G + (v1)))]) hx hb dX2_copyFrom_128 hl (k := 2) rfl (by decide) (by decide) (fun _ => rfl) h ?_
        clear h hl; intro v2_4 h ls hl
        refine lv_goto (tgt := 101) hx hb dX2_copyFrom_131 (by decide) ?_
        exact ih v0 h0 v1 h1 v2_4 σ_3 h _ _ _ hW (lv_sub hl [1, 2, 0] rfl)
set_option maxRecDepth 20000 in
set_option maxHeartbeats 4000000 in
theorem bl_X2_copyFrom_b91 (X : Cx G p R s m args c cells slots cX2_copyFrom 3 RX2 3) {σ' : St} (hret : R_V G p l e R s m args below meth c cells slots Q cX2_copyFrom σ') :
    ∀ (v0 : Nat) (h0 : kd v0 = 2) (v1 : Nat) (h1 : kd v1 = 2) (σ : St) (_ : pf_X2_copyFrom_b91 v0 v1 σ = some σ') (H : Heap) (locs : List Loc) (ls : Array Slot) (_ : GW G σ s H locs) (_ : lv_has ls 3 [(0, .ref (gz G + (v0))), (1, .ref (gz G + (v1)))]), W p l e R s m args below meth c H locs cells slots Q (F0 m 91 ls []) := by
  have hx := X.1.1
  have hb := X.1.2.1
  intro v0 h0 v1 h1 σ h H locs ls hW hl
  unfold pf_X2_copyFrom_b91 at h
  refine lv_aload_n hx hb dX2_copyFrom_91 rfl (lv_at hl 0 rfl) ?_
  refine lv_aload_n hx hb dX2_copyFrom_92 rfl (lv_at hl 1 rfl) ?_
  refine gf_X2_worthLength X hW h1 m_1_157 dX2_copyFrom_93 ?_
  refine sf_X2_worthLength X hW h0 m_1_157 dX2_copyFrom_96 ?_
  clear hW; intro H locs hW
  refine nm_s hW h ?_
  clear hW h; intro σ_1 hW h
  refine lv_iconst (v := 0) hx hb dX2_copyFrom_99 (by decide) ?_
  refine lv_istore_n (lv' := [(2, .int (0)), (0, .ref (gz G + (v0))), (1, .ref (gz G + (v1)))]) hx hb dX2_copyFrom_100 rfl hl (by decide) rfl ?_
  clear hl; intro ls hl
  exact bl_X2_copyFrom_L101 X hret FU v0 h0 v1 h1 0 σ_1 h _ _ _ hW (lv_sub hl [1, 2, 0] rfl)
set_option maxRecDepth 20000 in
set_option maxHeartbeats 4000000 in
theorem bl_X2_copyFrom_L56 (X : Cx G p R s m args c cells slots cX2_copyFrom 3 RX2 3) {σ' : St} (hret : R_V G p l e R s m args below meth c cells slots Q cX2_copyFrom σ') {k91 : Nat → Nat → St → (Option St)}
    (hk91 : ∀ (v0 : Nat) (h0 : kd v0 = 2) (v1 : Nat) (h1 : kd v1 = 2) (σ : St) (_ : k91 v0 v1 σ = some σ') (H : Heap) (locs : List Loc) (ls : Array Slot) (_ : GW G σ s H locs) (_ : lv_has ls 3 [(0, .ref (gz G + (v0))), (1, .ref (gz G + (v1)))]), W p l e R s m args below meth c H locs cells slots Q (F0 m 91 ls [])) :
    ∀ (n : Nat), ∀ (v0 : Nat) (h0 : kd v0 = 2) (v1 : Nat) (h1 : kd v1 = 2) (v2 : Int32) (σ : St) (_ : pf_X2_copyFrom_L56 k91 n v0 v1 v2 σ = some σ') (H : Heap) (locs : List Loc) (ls : Array Slot) (_ : GW G σ s H locs) (_ : lv_has ls 3 [(0, .ref (gz G + (v0))), (1, .ref (gz G + (v1))), (2, .int (v2))]), W p l e R s m args below meth c H locs cells slots Q (F0 m 56 ls []) := by
  have hx := X.1.1
  have hb := X.1.2.1
  intro n
  induction n with
  | zero => intro v0 h0 v1 h1 v2 σ h H locs ls hW hl; cases h
  | succ n ih =>
    intro v0 h0 v1 h1 v2 σ h H locs ls hW hl
    rw [pf_X2_copyFrom_L56.eq_2] at h
    refine lv_iload_n hx hb dX2_copyFrom_56 rfl (lv_at hl 2 rfl) ?_
    refine lv_aload_n hx hb dX2_copyFrom_57 rfl (lv_at hl 0 rfl) ?_
    refine gf_X2_questCount X hW h0 m_1_152 dX2_copyFrom_58 ?_
    refine lv_icmp_ge (tgt := 91) hx hb dX2_copyFrom_61 (by decide) (fun hc => ?_) (fun hc => ?_)
    · replace h := if_t hc h
      exact hk91 v0 h0 v1 h1 σ h _ _ _ hW (lv_sub hl [0, 1] rfl)
    · replace h := if_f hc h
      refine lv_iload_n hx hb dX2_copyFrom_64 rfl (lv_at hl 2 rfl) ?_
      refine lv_bipush (v := 6) hx hb dX2_copyFrom_65 (by decide) ?_
      refine lv_icmp_ge (tgt := 91) hx hb dX2_copyFrom_67 (by decide) (fun hc => ?_) (fun hc => ?_)
      · replace h := if_t hc h
        exact hk91 v0 h0 v1 h1 σ h _ _ _ hW (lv_sub hl [0, 1] rfl)
      · replace h := if_f hc h
        refine lv_aload_n hx hb dX2_copyFrom_70 rfl (lv_at hl 0 rfl) ?_
        refine gf_X2_quests X hW h0 m_1_149 dX2_copyFrom_71 ?_
        refine lv_iload_n hx hb dX2_copyFrom_74 rfl (lv_at hl 2 rfl) ?_
        obtain ⟨hi1, h⟩ := ckI_el h
        refine r_qald X hW (kf_X2_quests h0) hi1 dX2_copyFrom_75 ?_
        refine lv_aload_n hx hb dX2_copyFrom_76 rfl (lv_at hl 1 rfl) ?_
        refine gf_X2_quests X hW h1 m_1_149 dX2_copyFrom_77 ?_
        refine lv_iload_n hx hb dX2_copyFrom_80 rfl (lv_at hl 2 rfl) ?_
        obtain ⟨hi2, h⟩ := ckI_el h
        refine r_qald X hW (kf_X2_quests h1) hi2 dX2_copyFrom_81 ?_
        obtain ⟨σ_3, hcl, h⟩ := bind_el h
        refine call_V0 X hW (kC_X3 (kq_16 (kf_X2_quests h0) (vp_lt hi1))) m_3_19 m_3_20 m_3_21 mv_X3_copyFrom (c_X3_copyFrom (kq_16 (kf_X2_quests h0) (vp_lt hi1)) (kq_16 (kf_X2_quests h1) (vp_lt hi2)) hcl) (by decide) rfl rfl (Nat.le_of_ble_eq_true rfl) hl.1 dX2_copyFrom_82 ?_
        clear hW hcl; intro H locs hW
        refine w_iinc (v := 1) (lv' := fun y => [(2, .int (y)), (0, .ref (gz G + (v0))), (1, .ref (gz G + (v1)))]) hx hb dX2_copyFrom_85 hl (k := 2) rfl (by decide) (by decide) (fun _ => rfl) h ?_
        clear h hl; intro v2_4 h ls hl
        refine lv_goto (tgt := 56) hx hb dX2_copyFrom_88 (by decide) ?_
        exact ih v0 h0 v1 h1 v2_4 σ_3 h _ _ _ hW (lv_sub hl [1, 2, 0] rfl)
set_option maxRecDepth 20000 in
set_option maxHeartbeats 4000000 in
theorem c_X2_copyFrom {G : Gt} {l : Launch} {v0 : Nat} (h0 : kd v0 = 2) {v1 : Nat} (h1 : kd v1 = 2) {σ : St} {σ' : St} (hf : pf_X2_copyFrom v0 v1 σ = some σ') : Ct G l yX2_copyFrom cX2_copyFrom 3 none 3 [.ref (gz G + (v0)), .ref (gz G + (v1))] σ none σ' := by
  refine met_v (by decide +kernel) (Nat.le_of_ble_eq_true rfl) rfl ?_
  intro p e s m args below meth c Q ls X hW hret hl
  have hx := X.1.1
  have hb := X.1.2.1
  have hl : lv_has ls 3 [(0, .ref (gz G + (v0))), (1, .ref (gz G + (v1)))] := hl
  have h := hf
  clear hf
  unfold pf_X2_copyFrom at h
  refine lv_aload_n hx hb dX2_copyFrom_0 rfl (lv_at hl 1 rfl) ?_
  refine gf_X2_stock X hW h1 m_1_140 dX2_copyFrom_1 ?_
  refine lv_iconst (v := 0) hx hb dX2_copyFrom_4 (by decide) ?_
  refine lv_aload_n hx hb dX2_copyFrom_5 rfl (lv_at hl 0 rfl) ?_
  refine gf_X2_stock X hW h0 m_1_140 dX2_copyFrom_6 ?_
  refine lv_iconst (v := 0) hx hb dX2_copyFrom_9 (by decide) ?_
  refine lv_bipush (v := 8) hx hb dX2_copyFrom_10 (by decide) ?_
  obtain ⟨hcp, h⟩ := ckC_el h
  refine r_copy X hW (kf_X2_stock h1) (kf_X2_stock h0) hcp m_3_16 dX2_copyFrom_12  (by decide) (Nat.le_of_ble_eq_true rfl) hl.1 ?_
  clear hW; intro H locs hW
  refine nm_s hW h ?_
  clear hW h; intro σ_1 hW h
  refine lv_aload_n hx hb dX2_copyFrom_15 rfl (lv_at hl 1 rfl) ?_
  refine gf_X2_queue X hW h1 m_1_143 dX2_copyFrom_16 ?_
  refine lv_iconst (v := 0) hx hb dX2_copyFrom_19 (by decide) ?_
  refine lv_aload_n hx hb dX2_copyFrom_20 rfl (lv_at hl 0 rfl) ?_
  refine gf_X2_queue X hW h0 m_1_143 dX2_copyFrom_21 ?_
  refine lv_iconst (v := 0) hx hb dX2_copyFrom_24 (by decide) ?_
  refine lv_bipush (v := 40) hx hb dX2_copyFrom_25 (by decide) ?_
  obtain ⟨hcp, h⟩ := ckC_el h
  refine r_copy X hW (kf_X2_queue h1) (kf_X2_queue h0) hcp m_3_16 dX2_copyFrom_27  (by decide) (Nat.le_of_ble_eq_true rfl) hl.1 ?_
  clear hW; intro H locs hW
  refine nm_s hW h ?_
  clear hW h; intro σ_2 hW h
  refine lv_aload_n hx hb dX2_copyFrom_30 rfl (lv_at hl 0 rfl) ?_
  refine lv_aload_n hx hb dX2_copyFrom_31 rfl (lv_at hl 1 rfl) ?_
  refine gf_X2_queueLength X hW h1 m_1_144 dX2_copyFrom_32 ?_
  refine sf_X2_queueLength X hW h0 m_1_144 dX2_copyFrom_35 ?_
  clear hW; intro H locs hW
  refine nm_s hW h ?_
  clear hW h; intro σ_3 hW h
  refine lv_aload_n hx hb dX2_copyFrom_38 rfl (lv_at hl 0 rfl) ?_
  refine lv_aload_n hx hb dX2_copyFrom_39 rfl (lv_at hl 1 rfl) ?_
  refine gf_X2_seed X hW h1 m_1_146 dX2_copyFrom_40 ?_
  refine sf_X2_seed X hW h0 m_1_146 dX2_copyFrom_43 ?_
  clear hW; intro H locs hW
  refine nm_s hW h ?_
  clear hW h; intro σ_4 hW h
  refine lv_aload_n hx hb dX2_copyFrom_46 rfl (lv_at hl 0 rfl) ?_
  refine lv_aload_n hx hb dX2_copyFrom_47 rfl (lv_at hl 1 rfl) ?_
  refine gf_X2_questCount X hW h1 m_1_152 dX2_copyFrom_48 ?_
  refine sf_X2_questCount X hW h0 m_1_152 dX2_copyFrom_51 ?_
  clear hW; intro H locs hW
  refine nm_s hW h ?_
  clear hW h; intro σ_5 hW h
  refine lv_iconst (v := 0) hx hb dX2_copyFrom_54 (by decide) ?_
  refine lv_istore_n (lv' := [(2, .int (0)), (0, .ref (gz G + (v0))), (1, .ref (gz G + (v1)))]) hx hb dX2_copyFrom_55 rfl hl (by decide) rfl ?_
  clear hl; intro ls hl
  exact bl_X2_copyFrom_L56 X hret (bl_X2_copyFrom_b91 X hret) FU v0 h0 v1 h1 0 σ_5 h _ _ _ hW (lv_sub hl [1, 2, 0] rfl)
set_option maxRecDepth 20000 in
set_option maxHeartbeats 4000000 in
theorem bl_X1_remember_b29 (X : Cx G p R s m args c cells slots cX1_remember 2 RX1 4) {σ' : St} (hret : R_V G p l e R s m args below meth c cells slots Q cX1_remember σ') :
    ∀ (v0 : Nat) (h0 : kd v0 = 1) (σ : St) (_ : pf_X1_remember_b29 v0 σ = some σ') (H : Heap) (locs : List Loc) (ls : Array Slot) (_ : GW G σ s H locs) (_ : lv_has ls 2 [(0, .ref (gz G + (v0)))]), W p l e R s m args below meth c H locs cells slots Q (F0 m 29 ls []) := by
  have hx := X.1.1
  have hb := X.1.2.1
  intro v0 h0 σ h H locs ls hW hl
  unfold pf_X1_remember_b29 at h
  refine lv_aload_n hx hb dX1_remember_29 rfl (lv_at hl 0 rfl) ?_
  refine lv_aload_n hx hb dX1_remember_30 rfl (lv_at hl 0 rfl) ?_
  refine gf_X1_next X hW h0 m_1_187 dX1_remember_31 ?_
  refine lv_iconst (v := 1) hx hb dX1_remember_34 (by decide) ?_
  refine lv_iadd hx hb dX1_remember_35 ?_
  refine lv_bipush (v := 8) hx hb dX1_remember_36 (by decide) ?_
  refine w_irem hx hb dX1_remember_38 (by decide) ?_
  refine sf_X1_next X hW h0 m_1_187 dX1_remember_39 ?_
  clear hW; intro H locs hW
  refine nm_s hW h ?_
  clear hW h; intro σ_1 hW h
  refine lv_aload_n hx hb dX1_remember_42 rfl (lv_at hl 0 rfl) ?_
  refine lv_aload_n hx hb dX1_remember_43 rfl (lv_at hl 0 rfl) ?_
  refine gf_X1_count X hW h0 m_1_188 dX1_remember_44 ?_
  refine lv_iconst (v := 1) hx hb dX1_remember_47 (by decide) ?_
  refine lv_iadd hx hb dX1_remember_48 ?_
  refine lv_bipush (v := 8) hx hb dX1_remember_49 (by decide) ?_
  obtain ⟨r_2, hcl, h⟩ := bind_el h
  refine call_S1 X hW m_3_24 m_2_227 mv_J9_min_7cf53 (c_J9_min_7cf53 hcl) (by decide) rfl rfl (Nat.le_of_ble_eq_true rfl) hl.1 dX1_remember_51 ?_
  clear hW hcl; intro H locs hW
  refine sf_X1_count X hW h0 m_1_188 dX1_remember_54 ?_
  clear hW; intro H locs hW
  refine nm_s hW h ?_
  clear hW h; intro σ_3 hW h
  exact rv_end hret h dX1_remember_57 hW
set_option maxRecDepth 20000 in
set_option maxHeartbeats 4000000 in
theorem c_X1_remember {G : Gt} {l : Launch} {v0 : Nat} (h0 : kd v0 = 1) {v1 : Nat} (h1 : kd v1 = 2) {σ : St} {σ' : St} (hf : pf_X1_remember v0 v1 σ = some σ') : Ct G l yX1_remember cX1_remember 2 none 4 [.ref (gz G + (v0)), .ref (gz G + (v1))] σ none σ' := by
  refine met_v (by decide +kernel) (Nat.le_of_ble_eq_true rfl) rfl ?_
  intro p e s m args below meth c Q ls X hW hret hl
  have hx := X.1.1
  have hb := X.1.2.1
  have hl : lv_has ls 2 [(0, .ref (gz G + (v0))), (1, .ref (gz G + (v1)))] := hl
  have h := hf
  clear hf
  unfold pf_X1_remember at h
  refine lv_aload_n hx hb dX1_remember_0 rfl (lv_at hl 0 rfl) ?_
  refine gf_X1_next X hW h0 m_1_187 dX1_remember_1 ?_
  refine lv_if_lt (tgt := 29) hx hb dX1_remember_4 (by decide) (fun hc => ?_) (fun hc => ?_)
  · replace h := if_t hc h
    exact bl_X1_remember_b29 X hret v0 h0 σ h _ _ _ hW (lv_sub hl [0] rfl)
  · replace h := if_f hc h
    refine lv_aload_n hx hb dX1_remember_7 rfl (lv_at hl 0 rfl) ?_
    refine gf_X1_next X hW h0 m_1_187 dX1_remember_8 ?_
    refine lv_bipush (v := 8) hx hb dX1_remember_11 (by decide) ?_
    refine lv_icmp_ge (tgt := 29) hx hb dX1_remember_13 (by decide) (fun hc => ?_) (fun hc => ?_)
    · replace h := if_t hc h
      exact bl_X1_remember_b29 X hret v0 h0 σ h _ _ _ hW (lv_sub hl [0] rfl)
    · replace h := if_f hc h
      refine lv_aload_n hx hb dX1_remember_16 rfl (lv_at hl 0 rfl) ?_
      refine gf_X1_past X hW h0 m_1_186 dX1_remember_17 ?_
      refine lv_aload_n hx hb dX1_remember_20 rfl (lv_at hl 0 rfl) ?_
      refine gf_X1_next X hW h0 m_1_187 dX1_remember_21 ?_
      obtain ⟨hi1, h⟩ := ckI_el h
      refine r_pald X hW (kf_X1_past h0) hi1 dX1_remember_24 ?_
      refine lv_aload_n hx hb dX1_remember_25 rfl (lv_at hl 1 rfl) ?_
      obtain ⟨σ_2, hcl, h⟩ := bind_el h
      refine call_V0 X hW (kC_X2 (kq_17 (kf_X1_past h0) (vp_lt hi1))) m_3_12 m_3_13 m_3_14 mv_X2_copyFrom (c_X2_copyFrom (kq_17 (kf_X1_past h0) (vp_lt hi1)) h1 hcl) (by decide) rfl rfl (Nat.le_of_ble_eq_true rfl) hl.1 dX1_remember_26 ?_
      clear hW hcl; intro H locs hW
      exact bl_X1_remember_b29 X hret v0 h0 σ_2 h _ _ _ hW (lv_sub hl [0] rfl)
set_option maxRecDepth 20000 in
set_option maxHeartbeats 4000000 in
theorem bl_J7_fill_53178_L5 (X : Cx G p R s m args c cells slots cJ7_fill_53178 4 RJ7 2) {σ' : St} (hret : R_V G p l e R s m args below meth c cells slots Q cJ7_fill_53178 σ') :
    ∀ (n : Nat), ∀ (v0 : Nat) (h0 : kd v0 = 11) (v1 : Int32) (v2 : Int32) (v3 : Int32) (σ : St) (_ : pf_J7_fill_53178_L5 n v0 v1 v2 v3 σ = some σ') (H : Heap) (locs : List Loc) (ls : Array Slot) (_ : GW G σ s H locs) (_ : lv_has ls 4 [(0, .ref (gz G + (v0))), (1, .int (v1)), (2, .int (v2)), (3, .int (v3))]), W p l e R s m args below meth c H locs cells slots Q (F0 m 5 ls []) := by
  have hx := X.1.1
  have hb := X.1.2.1
  intro n
  induction n with
  | zero => intro v0 h0 v1 v2 v3 σ h H locs ls hW hl; cases h
  | succ n ih =>
    intro v0 h0 v1 v2 v3 σ h H locs ls hW hl
    rw [pf_J7_fill_53178_L5.eq_2] at h
    refine lv_iload_n hx hb dJ7_fill_53178_5 rfl (lv_at hl 2 rfl) ?_
    refine lv_iload_n hx hb dJ7_fill_53178_6 rfl (lv_at hl 3 rfl) ?_
    refine lv_icmp_ge (tgt := 20) hx hb dJ7_fill_53178_7 (by decide) (fun hc => ?_) (fun hc => ?_)
    · replace h := if_t hc h
      exact rv_end hret h dJ7_fill_53178_20 hW
    · replace h := if_f hc h
      refine lv_aload_n hx hb dJ7_fill_53178_10 rfl (lv_at hl 0 rfl) ?_
      refine lv_iload_n hx hb dJ7_fill_53178_11 rfl (lv_at hl 2 rfl) ?_
      refine lv_iload_n hx hb dJ7_fill_53178_12 rfl (lv_at hl 1 rfl) ?_
      obtain ⟨hi1, h⟩ := ckI_el h
      refine r_iast X hW h0 hi1 dJ7_fill_53178_13 ?_
      clear hW; intro H locs hW
      refine nm_s hW h ?_
      clear hW h; intro σ_2 hW h
      refine w_iinc (v := 1) (lv' := fun y => [(2, .int (y)), (0, .ref (gz G + (v0))), (1, .int (v1)), (3, .int (v3))]) hx hb dJ7_fill_53178_14 hl (k := 2) rfl (by decide) (by decide) (fun _ => rfl) h ?_
      clear h hl; intro v2_3 h ls hl
      refine lv_goto (tgt := 5) hx hb dJ7_fill_53178_17 (by decide) ?_
      exact ih v0 h0 v1 v2_3 v3 σ_2 h _ _ _ hW (lv_sub hl [1, 2, 0, 3] rfl)
set_option maxRecDepth 20000 in
set_option maxHeartbeats 4000000 in
theorem c_J7_fill_53178 {G : Gt} {l : Launch} {v0 : Nat} (h0 : kd v0 = 11) {v1 : Int32} {σ : St} {σ' : St} (hf : pf_J7_fill_53178 v0 v1 σ = some σ') : Ct G l yJ7_fill_53178 cJ7_fill_53178 4 none 2 [.ref (gz G + (v0)), .int (v1)] σ none σ' := by
  refine met_v (by decide +kernel) (Nat.le_of_ble_eq_true rfl) rfl ?_
  intro p e s m args below meth c Q ls X hW hret hl
  have hx := X.1.1
  have hb := X.1.2.1
  have hl : lv_has ls 4 [(0, .ref (gz G + (v0))), (1, .int (v1))] := hl
  have h := hf
  clear hf
  unfold pf_J7_fill_53178 at h
  refine lv_iconst (v := 0) hx hb dJ7_fill_53178_0 (by decide) ?_
  refine lv_istore_n (lv' := [(2, .int (0)), (0, .ref (gz G + (v0))), (1, .int (v1))]) hx hb dJ7_fill_53178_1 rfl hl (by decide) rfl ?_
  clear hl; intro ls hl
  refine lv_aload_n hx hb dJ7_fill_53178_2 rfl (lv_at hl 1 rfl) ?_
  refine r_alen11 X hW h0 dJ7_fill_53178_3 ?_
  refine nm_i h ?_
  clear h; intro v3_1 h
  refine lv_istore_n (lv' := [(3, .int (v3_1)), (2, .int (0)), (0, .ref (gz G + (v0))), (1, .int (v1))]) hx hb dJ7_fill_53178_4 rfl hl (by decide) rfl ?_
  clear hl; intro ls hl
  exact bl_J7_fill_53178_L5 X hret FU v0 h0 v1 0 v3_1 σ h _ _ _ hW (lv_sub hl [2, 3, 1, 0] rfl)
set_option maxRecDepth 20000 in
set_option maxHeartbeats 4000000 in
theorem c_X2_clear {G : Gt} {l : Launch} {v0 : Nat} (h0 : kd v0 = 2) {σ : St} {σ' : St} (hf : pf_X2_clear v0 σ = some σ') : Ct G l yX2_clear cX2_clear 1 none 3 [.ref (gz G + (v0))] σ none σ' := by
  refine met_v (by decide +kernel) (Nat.le_of_ble_eq_true rfl) rfl ?_
  intro p e s m args below meth c Q ls X hW hret hl
  have hx := X.1.1
  have hb := X.1.2.1
  have hl : lv_has ls 1 [(0, .ref (gz G + (v0)))] := hl
  have h := hf
  clear hf
  unfold pf_X2_clear at h
  refine lv_aload_n hx hb dX2_clear_0 rfl (lv_at hl 0 rfl) ?_
  refine gf_X2_stock X hW h0 m_1_140 dX2_clear_1 ?_
  refine lv_iconst (v := 0) hx hb dX2_clear_4 (by decide) ?_
  obtain ⟨σ_1, hcl, h⟩ := bind_el h
  refine call_S0 X hW m_5_235 m_2_185 mv_J7_fill_53178 (c_J7_fill_53178 (kf_X2_stock h0) hcl) (by decide) rfl rfl (Nat.le_of_ble_eq_true rfl) hl.1 dX2_clear_5 ?_
  clear hW hcl; intro H locs hW
  refine lv_aload_n hx hb dX2_clear_8 rfl (lv_at hl 0 rfl) ?_
  refine lv_iconst (v := 0) hx hb dX2_clear_9 (by decide) ?_
  refine sf_X2_queueLength X hW h0 m_1_144 dX2_clear_10 ?_
  clear hW; intro H locs hW
  refine nm_s hW h ?_
  clear hW h; intro σ_2 hW h
  refine lv_aload_n hx hb dX2_clear_13 rfl (lv_at hl 0 rfl) ?_
  refine lv_iconst (v := 0) hx hb dX2_clear_14 (by decide) ?_
  refine sf_X2_seed X hW h0 m_1_146 dX2_clear_15 ?_
  clear hW; intro H locs hW
  refine nm_s hW h ?_
  clear hW h; intro σ_3 hW h
  refine lv_aload_n hx hb dX2_clear_18 rfl (lv_at hl 0 rfl) ?_
  refine lv_iconst (v := 0) hx hb dX2_clear_19 (by decide) ?_
  refine sf_X2_questCount X hW h0 m_1_152 dX2_clear_20 ?_
  clear hW; intro H locs hW
  refine nm_s hW h ?_
  clear hW h; intro σ_4 hW h
  refine lv_aload_n hx hb dX2_clear_23 rfl (lv_at hl 0 rfl) ?_
  refine lv_iconst (v := 0) hx hb dX2_clear_24 (by decide) ?_
  refine sf_X2_worthLength X hW h0 m_1_157 dX2_clear_25 ?_
  clear hW; intro H locs hW
  refine nm_s hW h ?_
  clear hW h; intro σ_5 hW h
  exact rv_end hret h dX2_clear_28 hW
set_option maxRecDepth 20000 in
set_option maxHeartbeats 4000000 in
theorem c_X10_put {G : Gt} {l : Launch} {v0 : Nat} (h0 : kd v0 = 11) {v1 : Int32} {v2 : Int32} {σ : St} {σ' : St} (hf : pf_X10_put v0 v1 v2 σ = some σ') : Ct G l yX10_put cX10_put 3 none 2 [.ref (gz G + (v0)), .int (v1), .int (v2)] σ none σ' := by
  refine met_v (by decide +kernel) (Nat.le_of_ble_eq_true rfl) rfl ?_
  intro p e s m args below meth c Q ls X hW hret hl
  have hx := X.1.1
  have hb := X.1.2.1
  have hl : lv_has ls 3 [(0, .ref (gz G + (v0))), (1, .int (v1)), (2, .int (v2))] := hl
  have h := hf
  clear hf
  unfold pf_X10_put at h
  refine lv_iload_n hx hb dX10_put_0 rfl (lv_at hl 1 rfl) ?_
  refine lv_if_lt (tgt := 14) hx hb dX10_put_1 (by decide) (fun hc => ?_) (fun hc => ?_)
  · replace h := if_t hc h
    exact rv_end hret h dX10_put_14 hW
  · replace h := if_f hc h
    refine lv_iload_n hx hb dX10_put_4 rfl (lv_at hl 1 rfl) ?_
    refine lv_aload_n hx hb dX10_put_5 rfl (lv_at hl 0 rfl) ?_
    refine r_alen11 X hW h0 dX10_put_6 ?_
    refine lv_icmp_ge (tgt := 14) hx hb dX10_put_7 (by decide) (fun hc => ?_) (fun hc => ?_)
    · replace h := if_t hc h
      exact rv_end hret h dX10_put_14 hW
    · replace h := if_f hc h
      refine lv_aload_n hx hb dX10_put_10 rfl (lv_at hl 0 rfl) ?_
      refine lv_iload_n hx hb dX10_put_11 rfl (lv_at hl 1 rfl) ?_
      refine lv_iload_n hx hb dX10_put_12 rfl (lv_at hl 2 rfl) ?_
      obtain ⟨hi1, h⟩ := ckI_el h
      refine r_iast X hW h0 hi1 dX10_put_13 ?_
      clear hW; intro H locs hW
      refine nm_s hW h ?_
      clear hW h; intro σ_2 hW h
      exact rv_end hret h dX10_put_14 hW
set_option maxRecDepth 20000 in
set_option maxHeartbeats 4000000 in
theorem c_X2_appendCode {G : Gt} {l : Launch} {v0 : Nat} (h0 : kd v0 = 2) {v1 : Int32} {σ : St} {σ' : St} (hf : pf_X2_appendCode v0 v1 σ = some σ') : Ct G l yX2_appendCode cX2_appendCode 2 none 3 [.ref (gz G + (v0)), .int (v1)] σ none σ' := by
  refine met_v (by decide +kernel) (Nat.le_of_ble_eq_true rfl) rfl ?_
  intro p e s m args below meth c Q ls X hW hret hl
  have hx := X.1.1
  have hb := X.1.2.1
  have hl : lv_has ls 2 [(0, .ref (gz G + (v0))), (1, .int (v1))] := hl
  have h := hf
  clear hf
  unfold pf_X2_appendCode at h
  refine lv_aload_n hx hb dX2_appendCode_0 rfl (lv_at hl 0 rfl) ?_
  refine gf_X2_worthCode X hW h0 m_1_155 dX2_appendCode_1 ?_
  refine lv_aload_n hx hb dX2_appendCode_4 rfl (lv_at hl 0 rfl) ?_
  refine gf_X2_worthLength X hW h0 m_1_157 dX2_appendCode_5 ?_
  refine lv_iload_n hx hb dX2_appendCode_8 rfl (lv_at hl 1 rfl) ?_
  obtain ⟨σ_1, hcl, h⟩ := bind_el h
  refine call_SN0 X hW m_3_29 m_2_189 mv_X10_put (c_X10_put (kf_X2_worthCode h0) hcl) (by decide) rfl rfl (Nat.le_of_ble_eq_true rfl) hl.1 dX2_appendCode_9 ?_
  clear hW hcl; intro H locs hW
  refine lv_aload_n hx hb dX2_appendCode_12 rfl (lv_at hl 0 rfl) ?_
  refine lv_dup hx hb dX2_appendCode_13 rfl ?_
  refine gf_X2_worthLength X hW h0 m_1_157 dX2_appendCode_14 ?_
  refine lv_iconst (v := 1) hx hb dX2_appendCode_17 (by decide) ?_
  refine lv_iadd hx hb dX2_appendCode_18 ?_
  refine sf_X2_worthLength X hW h0 m_1_157 dX2_appendCode_19 ?_
  clear hW; intro H locs hW
  refine nm_s hW h ?_
  clear hW h; intro σ_2 hW h
  exact rv_end hret h dX2_appendCode_22 hW
set_option maxRecDepth 20000 in
set_option maxHeartbeats 4000000 in
theorem c_X2_enqueue {G : Gt} {l : Launch} {v0 : Nat} (h0 : kd v0 = 2) {v1 : Int32} {σ : St} {σ' : St} (hf : pf_X2_enqueue v0 v1 σ = some σ') : Ct G l yX2_enqueue cX2_enqueue 2 none 3 [.ref (gz G + (v0)), .int (v1)] σ none σ' := by
  refine met_v (by decide +kernel) (Nat.le_of_ble_eq_true rfl) rfl ?_
  intro p e s m args below meth c Q ls X hW hret hl
  have hx := X.1.1
  have hb := X.1.2.1
  have hl : lv_has ls 2 [(0, .ref (gz G + (v0))), (1, .int (v1))] := hl
  have h := hf
  clear hf
  unfold pf_X2_enqueue at h
  refine lv_aload_n hx hb dX2_enqueue_0 rfl (lv_at hl 0 rfl) ?_
  refine gf_X2_queue X hW h0 m_1_143 dX2_enqueue_1 ?_
  refine lv_aload_n hx hb dX2_enqueue_4 rfl (lv_at hl 0 rfl) ?_
  refine gf_X2_queueLength X hW h0 m_1_144 dX2_enqueue_5 ?_
  refine lv_iload_n hx hb dX2_enqueue_8 rfl (lv_at hl 1 rfl) ?_
  obtain ⟨σ_1, hcl, h⟩ := bind_el h
  refine call_SN0 X hW m_3_29 m_2_189 mv_X10_put (c_X10_put (kf_X2_queue h0) hcl) (by decide) rfl rfl (Nat.le_of_ble_eq_true rfl) hl.1 dX2_enqueue_9 ?_
  clear hW hcl; intro H locs hW
  refine lv_aload_n hx hb dX2_enqueue_12 rfl (lv_at hl 0 rfl) ?_
  refine lv_dup hx hb dX2_enqueue_13 rfl ?_
  refine gf_X2_queueLength X hW h0 m_1_144 dX2_enqueue_14 ?_
  refine lv_iconst (v := 1) hx hb dX2_enqueue_17 (by decide) ?_
  refine lv_iadd hx hb dX2_enqueue_18 ?_
  refine sf_X2_queueLength X hW h0 m_1_144 dX2_enqueue_19 ?_
  clear hW; intro H locs hW
  refine nm_s hW h ?_
  clear hW h; intro σ_2 hW h
  exact rv_end hret h dX2_enqueue_22 hW
set_option maxRecDepth 20000 in
set_option maxHeartbeats 4000000 in
theorem bl_X2_draw_L56 (X : Cx G p R s m args c cells slots cX2_draw 3 RX2 3) {r : Int32} {σ' : St} (hret : R_I G p l e R s m args below meth c cells slots Q cX2_draw r σ') :
    ∀ (n : Nat), ∀ (v0 : Nat) (h0 : kd v0 = 2) (v1 : Int32) (v2 : Int32) (σ : St) (_ : pf_X2_draw_L56 n v0 v1 v2 σ = some (r, σ')) (H : Heap) (locs : List Loc) (ls : Array Slot) (_ : GW G σ s H locs) (_ : lv_has ls 3 [(0, .ref (gz G + (v0))), (1, .int (v1)), (2, .int (v2))]), W p l e R s m args below meth c H locs cells slots Q (F0 m 56 ls []) := by
  have hx := X.1.1
  have hb := X.1.2.1
  intro n
  induction n with
  | zero => intro v0 h0 v1 v2 σ h H locs ls hW hl; cases h
  | succ n ih =>
    intro v0 h0 v1 v2 σ h H locs ls hW hl
    rw [pf_X2_draw_L56.eq_2] at h
    refine lv_iload_n hx hb dX2_draw_56 rfl (lv_at hl 2 rfl) ?_
    refine lv_aload_n hx hb dX2_draw_57 rfl (lv_at hl 0 rfl) ?_
    refine gf_X2_queueLength X hW h0 m_1_144 dX2_draw_58 ?_
    refine lv_icmp_ge (tgt := 88) hx hb dX2_draw_61 (by decide) (fun hc => ?_) (fun hc => ?_)
    · replace h := if_t hc h
      refine lv_iload_n hx hb dX2_draw_88 rfl (lv_at hl 1 rfl) ?_
      exact ri_end hret h dX2_draw_89 hW
    · replace h := if_f hc h
      refine lv_aload_n hx hb dX2_draw_64 rfl (lv_at hl 0 rfl) ?_
      refine gf_X2_queue X hW h0 m_1_143 dX2_draw_65 ?_
      refine lv_iload_n hx hb dX2_draw_68 rfl (lv_at hl 2 rfl) ?_
      refine lv_aload_n hx hb dX2_draw_69 rfl (lv_at hl 0 rfl) ?_
      refine gf_X2_queue X hW h0 m_1_143 dX2_draw_70 ?_
      refine lv_iload_n hx hb dX2_draw_73 rfl (lv_at hl 2 rfl) ?_
      refine lv_iconst (v := 1) hx hb dX2_draw_74 (by decide) ?_
      refine lv_iadd hx hb dX2_draw_75 ?_
      obtain ⟨r_1, hcl, h⟩ := bind_el h
      refine call_SN1 X hW m_6_223 m_2_178 mv_X10_at (c_X10_at (kf_X2_queue h0) hcl) (by decide) rfl rfl (Nat.le_of_ble_eq_true rfl) hl.1 dX2_draw_76 ?_
      clear hW hcl; intro H locs hW
      obtain ⟨σ_2, hcl, h⟩ := bind_el h
      refine call_SN0 X hW m_3_29 m_2_189 mv_X10_put (c_X10_put (kf_X2_queue h0) hcl) (by decide) rfl rfl (Nat.le_of_ble_eq_true rfl) hl.1 dX2_draw_79 ?_
      clear hW hcl; intro H locs hW
      refine w_iinc (v := 1) (lv' := fun y => [(2, .int (y)), (0, .ref (gz G + (v0))), (1, .int (v1))]) hx hb dX2_draw_82 hl (k := 2) rfl (by decide) (by decide) (fun _ => rfl) h ?_
      clear h hl; intro v2_3 h ls hl
      refine lv_goto (tgt := 56) hx hb dX2_draw_85 (by decide) ?_
      exact ih v0 h0 v1 v2_3 σ_2 h _ _ _ hW (lv_sub hl [1, 2, 0] rfl)
set_option maxRecDepth 20000 in
set_option maxHeartbeats 4000000 in
theorem c_X2_draw {G : Gt} {l : Launch} {v0 : Nat} (h0 : kd v0 = 2) {σ : St} {r : Int32} {σ' : St} (hf : pf_X2_draw v0 σ = some (r, σ')) : Ct G l yX2_draw cX2_draw 3 (some .int) 3 [.ref (gz G + (v0))] σ (some (.int r)) σ' := by
  refine met_i (by decide +kernel) (Nat.le_of_ble_eq_true rfl) rfl ?_
  intro p e s m args below meth c Q ls X hW hret hl
  have hx := X.1.1
  have hb := X.1.2.1
  have hl : lv_has ls 3 [(0, .ref (gz G + (v0)))] := hl
  have h := hf
  clear hf
  unfold pf_X2_draw at h
  refine lv_aload_n hx hb dX2_draw_0 rfl (lv_at hl 0 rfl) ?_
  refine gf_X2_queueLength X hW h0 m_1_144 dX2_draw_1 ?_
  refine lv_if_gt (tgt := 37) hx hb dX2_draw_4 (by decide) (fun hc => ?_) (fun hc => ?_)
  · replace h := if_t hc h
    refine lv_aload_n hx hb dX2_draw_37 rfl (lv_at hl 0 rfl) ?_
    refine gf_X2_queue X hW h0 m_1_143 dX2_draw_38 ?_
    refine lv_iconst (v := 0) hx hb dX2_draw_41 (by decide) ?_
    obtain ⟨hi1, h⟩ := ckI_el h
    refine r_iald X hW (kf_X2_queue h0) hi1 dX2_draw_42 ?_
    refine nm_i h ?_
    clear h; intro v1_2 h
    refine lv_istore_n (lv' := [(1, .int (v1_2)), (0, .ref (gz G + (v0)))]) hx hb dX2_draw_43 rfl hl (by decide) rfl ?_
    clear hl; intro ls hl
    refine lv_aload_n hx hb dX2_draw_44 rfl (lv_at hl 1 rfl) ?_
    refine lv_dup hx hb dX2_draw_45 rfl ?_
    refine gf_X2_queueLength X hW h0 m_1_144 dX2_draw_46 ?_
    refine lv_iconst (v := 1) hx hb dX2_draw_49 (by decide) ?_
    refine lv_isub hx hb dX2_draw_50 ?_
    refine sf_X2_queueLength X hW h0 m_1_144 dX2_draw_51 ?_
    clear hW; intro H locs hW
    refine nm_s hW h ?_
    clear hW h; intro σ_3 hW h
    refine lv_iconst (v := 0) hx hb dX2_draw_54 (by decide) ?_
    refine lv_istore_n (lv' := [(2, .int (0)), (1, .int (v1_2)), (0, .ref (gz G + (v0)))]) hx hb dX2_draw_55 rfl hl (by decide) rfl ?_
    clear hl; intro ls hl
    exact bl_X2_draw_L56 X hret FU v0 h0 v1_2 0 σ_3 h _ _ _ hW (lv_sub hl [2, 1, 0] rfl)
  · replace h := if_f hc h
    refine lv_aload_n hx hb dX2_draw_7 rfl (lv_at hl 0 rfl) ?_
    refine lv_aload_n hx hb dX2_draw_8 rfl (lv_at hl 0 rfl) ?_
    refine gf_X2_seed X hW h0 m_1_146 dX2_draw_9 ?_
    refine lv_ldc (v := 1103515245) hx hb X.1.2.2.2.1 (X.1.2.2.2.2 _ m_6_222) dX2_draw_12 ?_
    refine lv_imul hx hb dX2_draw_14 ?_
    refine lv_sipush (v := 12345) hx hb dX2_draw_15 (by decide) ?_
    refine lv_iadd hx hb dX2_draw_18 ?_
    refine sf_X2_seed X hW h0 m_1_146 dX2_draw_19 ?_
    clear hW; intro H locs hW
    refine nm_s hW h ?_
    clear hW h; intro σ_4 hW h
    refine lv_aload_n hx hb dX2_draw_22 rfl (lv_at hl 0 rfl) ?_
    refine gf_X2_seed X hW h0 m_1_146 dX2_draw_23 ?_
    refine lv_bipush (v := 16) hx hb dX2_draw_26 (by decide) ?_
    refine w_iushr hx hb dX2_draw_28 ?_
    refine lv_sipush (v := 32767) hx hb dX2_draw_29 (by decide) ?_
    refine lv_iand hx hb dX2_draw_32 ?_
    refine lv_bipush (v := 100) hx hb dX2_draw_33 (by decide) ?_
    refine w_irem hx hb dX2_draw_35 (by decide) ?_
    exact ri_end hret h dX2_draw_36 hW
set_option maxRecDepth 20000 in
set_option maxHeartbeats 4000000 in
theorem bl_X2_change_L3 (X : Cx G p R s m args c cells slots cX2_change 5 RX2 3) {σ' : St} (hret : R_V G p l e R s m args below meth c cells slots Q cX2_change σ') :
    ∀ (n : Nat), ∀ (v0 : Nat) (h0 : kd v0 = 2) (v1 : Nat) (h1 : kd v1 = 11) (v2 : Int32) (v3 : Int32) (v4 : Int32) (σ : St) (_ : pf_X2_change_L3 n v0 v1 v2 v3 v4 σ = some σ') (H : Heap) (locs : List Loc) (ls : Array Slot) (_ : GW G σ s H locs) (_ : lv_has ls 5 [(0, .ref (gz G + (v0))), (1, .ref (gz G + (v1))), (2, .int (v2)), (3, .int (v3)), (4, .int (v4))]), W p l e R s m args below meth c H locs cells slots Q (F0 m 3 ls []) := by
  have hx := X.1.1
  have hb := X.1.2.1
  intro n
  induction n with
  | zero => intro v0 h0 v1 h1 v2 v3 v4 σ h H locs ls hW hl; cases h
  | succ n ih =>
    intro v0 h0 v1 h1 v2 v3 v4 σ h H locs ls hW hl
    rw [pf_X2_change_L3.eq_2] at h
    refine lv_iload hx hb dX2_change_3 (lv_at hl 4 rfl) ?_
    refine lv_bipush (v := 8) hx hb dX2_change_5 (by decide) ?_
    refine lv_icmp_ge (tgt := 39) hx hb dX2_change_7 (by decide) (fun hc => ?_) (fun hc => ?_)
    · replace h := if_t hc h
      exact rv_end hret h dX2_change_39 hW
    · replace h := if_f hc h
      refine lv_aload_n hx hb dX2_change_10 rfl (lv_at hl 0 rfl) ?_
      refine gf_X2_stock X hW h0 m_1_140 dX2_change_11 ?_
      refine lv_iload hx hb dX2_change_14 (lv_at hl 4 rfl) ?_
      refine lv_dup2_11 hx hb dX2_change_16 rfl rfl ?_
      obtain ⟨hi1, h⟩ := ckI_el h
      refine r_iald X hW (kf_X2_stock h0) hi1 dX2_change_17 ?_
      refine lv_iload_n hx hb dX2_change_18 rfl (lv_at hl 3 rfl) ?_
      refine lv_aload_n hx hb dX2_change_19 rfl (lv_at hl 1 rfl) ?_
      refine lv_iload_n hx hb dX2_change_20 rfl (lv_at hl 2 rfl) ?_
      refine lv_bipush (v := 8) hx hb dX2_change_21 (by decide) ?_
      refine lv_imul hx hb dX2_change_23 ?_
      refine lv_iload hx hb dX2_change_24 (lv_at hl 4 rfl) ?_
      refine lv_iadd hx hb dX2_change_26 ?_
      obtain ⟨r_2, hcl, h⟩ := bind_el h
      refine call_SN1 X hW m_6_223 m_2_178 mv_X10_at (c_X10_at h1 hcl) (by decide) rfl rfl (Nat.le_of_ble_eq_true rfl) hl.1 dX2_change_27 ?_
      clear hW hcl; intro H locs hW
      refine lv_imul hx hb dX2_change_30 ?_
      refine lv_iadd hx hb dX2_change_31 ?_
      obtain ⟨hi3, h⟩ := ckI_el h
      refine r_iast X hW (kf_X2_stock h0) hi3 dX2_change_32 ?_
      clear hW; intro H locs hW
      refine nm_s hW h ?_
      clear hW h; intro σ_4 hW h
      refine w_iinc (v := 1) (lv' := fun y => [(4, .int (y)), (0, .ref (gz G + (v0))), (1, .ref (gz G + (v1))), (2, .int (v2)), (3, .int (v3))]) hx hb dX2_change_33 hl (k := 4) rfl (by decide) (by decide) (fun _ => rfl) h ?_
      clear h hl; intro v4_5 h ls hl
      refine lv_goto (tgt := 3) hx hb dX2_change_36 (by decide) ?_
      exact ih v0 h0 v1 h1 v2 v3 v4_5 σ_4 h _ _ _ hW (lv_sub hl [1, 2, 3, 4, 0] rfl)
set_option maxRecDepth 20000 in
set_option maxHeartbeats 4000000 in
theorem c_X2_change {G : Gt} {l : Launch} {v0 : Nat} (h0 : kd v0 = 2) {v1 : Nat} (h1 : kd v1 = 11) {v2 : Int32} {v3 : Int32} {σ : St} {σ' : St} (hf : pf_X2_change v0 v1 v2 v3 σ = some σ') : Ct G l yX2_change cX2_change 5 none 3 [.ref (gz G + (v0)), .ref (gz G + (v1)), .int (v2), .int (v3)] σ none σ' := by
  refine met_v (by decide +kernel) (Nat.le_of_ble_eq_true rfl) rfl ?_
  intro p e s m args below meth c Q ls X hW hret hl
  have hx := X.1.1
  have hb := X.1.2.1
  have hl : lv_has ls 5 [(0, .ref (gz G + (v0))), (1, .ref (gz G + (v1))), (2, .int (v2)), (3, .int (v3))] := hl
  have h := hf
  clear hf
  unfold pf_X2_change at h
  refine lv_iconst (v := 0) hx hb dX2_change_0 (by decide) ?_
  refine lv_istore (lv' := [(4, .int (0)), (0, .ref (gz G + (v0))), (1, .ref (gz G + (v1))), (2, .int (v2)), (3, .int (v3))]) hx hb dX2_change_1 hl (by decide) rfl ?_
  clear hl; intro ls hl
  exact bl_X2_change_L3 X hret FU v0 h0 v1 h1 v2 v3 0 σ h _ _ _ hW (lv_sub hl [1, 2, 3, 4, 0] rfl)
set_option maxRecDepth 20000 in
set_option maxHeartbeats 4000000 in
theorem c_X3_goalHolds {G : Gt} {l : Launch} {v0 : Nat} (h0 : kd v0 = 3) {v1 : Int32} {σ : St} {r : Int32} (hf : pf_X3_goalHolds v0 v1 σ = some r) : Ct G l yX3_goalHolds cX3_goalHolds 2 (some .boolean) 2 [.ref (gz G + (v0)), .int (v1)] σ (some (.int r)) σ := by
  refine met_z (by decide +kernel) (Nat.le_of_ble_eq_true rfl) rfl ?_
  intro p e s m args below meth c Q ls X hW hret hl
  have hx := X.1.1
  have hb := X.1.2.1
  have hl : lv_has ls 2 [(0, .ref (gz G + (v0))), (1, .int (v1))] := hl
  have h := hf
  clear hf
  unfold pf_X3_goalHolds at h
  refine lv_aload_n hx hb dX3_goalHolds_0 rfl (lv_at hl 0 rfl) ?_
  refine gf_X3_goal X hW h0 m_1_80 dX3_goalHolds_1 ?_
  refine lv_iload_n hx hb dX3_goalHolds_4 rfl (lv_at hl 1 rfl) ?_
  refine w_lushr hx hb dX3_goalHolds_5 ?_
  refine lv_lconst (v := 1) hx hb dX3_goalHolds_6 (by decide) ?_
  refine lv_land hx hb dX3_goalHolds_7 ?_
  refine lv_lconst (v := 0) hx hb dX3_goalHolds_8 (by decide) ?_
  refine W.lcmp hx hb dX3_goalHolds_9 ?_
  refine lv_if_eq (tgt := 17) hx hb dX3_goalHolds_10 (by decide) (fun hc => ?_) (fun hc => ?_)
  · replace h := if_t (lcmp_eq.mp hc) h
    refine lv_iconst (v := 0) hx hb dX3_goalHolds_17 (by decide) ?_
    exact rz_end0 hret h (by decide) dX3_goalHolds_18 hW
  · replace h := if_f (fun q => hc (lcmp_eq.mpr q)) h
    refine lv_iconst (v := 1) hx hb dX3_goalHolds_13 (by decide) ?_
    refine lv_goto (tgt := 18) hx hb dX3_goalHolds_14 (by decide) ?_
    exact rz_end0 hret h (by decide) dX3_goalHolds_18 hW
set_option maxRecDepth 20000 in
set_option maxHeartbeats 4000000 in
theorem c_X3_isBroken {G : Gt} {l : Launch} {v0 : Nat} (h0 : kd v0 = 3) {v1 : Int32} {σ : St} {r : Int32} (hf : pf_X3_isBroken v0 v1 σ = some r) : Ct G l yX3_isBroken cX3_isBroken 2 (some .boolean) 3 [.ref (gz G + (v0)), .int (v1)] σ (some (.int r)) σ := by
  refine met_z (by decide +kernel) (Nat.le_of_ble_eq_true rfl) rfl ?_
  intro p e s m args below meth c Q ls X hW hret hl
  have hx := X.1.1
  have hb := X.1.2.1
  have hl : lv_has ls 2 [(0, .ref (gz G + (v0))), (1, .int (v1))] := hl
  have h := hf
  clear hf
  unfold pf_X3_isBroken at h
  refine lv_aload_n hx hb dX3_isBroken_0 rfl (lv_at hl 0 rfl) ?_
  refine gf_X3_fails X hW h0 m_1_90 dX3_isBroken_1 ?_
  refine lv_iload_n hx hb dX3_isBroken_4 rfl (lv_at hl 1 rfl) ?_
  obtain ⟨r_1, hcl, h⟩ := bind_el h
  refine call_SN1 X hW m_2_177 m_2_178 mv_X10_at (c_X10_at (kf_X3_fails h0) hcl) (by decide) rfl rfl (Nat.le_of_ble_eq_true rfl) hl.1 dX3_isBroken_5 ?_
  clear hW hcl; intro H locs hW
  refine lv_aload_n hx hb dX3_isBroken_8 rfl (lv_at hl 0 rfl) ?_
  refine gf_X3_limit X hW h0 m_1_87 dX3_isBroken_9 ?_
  refine lv_iload_n hx hb dX3_isBroken_12 rfl (lv_at hl 1 rfl) ?_
  obtain ⟨r_2, hcl, h⟩ := bind_el h
  refine call_SN1 X hW m_2_177 m_2_178 mv_X10_at (c_X10_at (kf_X3_limit h0) hcl) (by decide) rfl rfl (Nat.le_of_ble_eq_true rfl) hl.1 dX3_isBroken_13 ?_
  clear hW hcl; intro H locs hW
  refine lv_icmp_lt (tgt := 23) hx hb dX3_isBroken_16 (by decide) (fun hc => ?_) (fun hc => ?_)
  · replace h := if_t hc h
    refine lv_iconst (v := 0) hx hb dX3_isBroken_23 (by decide) ?_
    exact rz_end0 hret h (by decide) dX3_isBroken_24 hW
  · replace h := if_f hc h
    refine lv_iconst (v := 1) hx hb dX3_isBroken_19 (by decide) ?_
    refine lv_goto (tgt := 24) hx hb dX3_isBroken_20 (by decide) ?_
    exact rz_end0 hret h (by decide) dX3_isBroken_24 hW
set_option maxRecDepth 20000 in
set_option maxHeartbeats 4000000 in
theorem c_X3_isDone {G : Gt} {l : Launch} {v0 : Nat} (h0 : kd v0 = 3) {v1 : Int32} {σ : St} {r : Int32} (hf : pf_X3_isDone v0 v1 σ = some r) : Ct G l yX3_isDone cX3_isDone 2 (some .boolean) 2 [.ref (gz G + (v0)), .int (v1)] σ (some (.int r)) σ := by
  refine met_z (by decide +kernel) (Nat.le_of_ble_eq_true rfl) rfl ?_
  intro p e s m args below meth c Q ls X hW hret hl
  have hx := X.1.1
  have hb := X.1.2.1
  have hl : lv_has ls 2 [(0, .ref (gz G + (v0))), (1, .int (v1))] := hl
  have h := hf
  clear hf
  unfold pf_X3_isDone at h
  refine lv_aload_n hx hb dX3_isDone_0 rfl (lv_at hl 0 rfl) ?_
  refine gf_X3_done X hW h0 m_1_68 dX3_isDone_1 ?_
  refine lv_iload_n hx hb dX3_isDone_4 rfl (lv_at hl 1 rfl) ?_
  refine w_iushr hx hb dX3_isDone_5 ?_
  refine lv_iconst (v := 1) hx hb dX3_isDone_6 (by decide) ?_
  refine lv_iand hx hb dX3_isDone_7 ?_
  refine lv_if_eq (tgt := 15) hx hb dX3_isDone_8 (by decide) (fun hc => ?_) (fun hc => ?_)
  · replace h := if_t hc h
    refine lv_iconst (v := 0) hx hb dX3_isDone_15 (by decide) ?_
    exact rz_end0 hret h (by decide) dX3_isDone_16 hW
  · replace h := if_f hc h
    refine lv_iconst (v := 1) hx hb dX3_isDone_11 (by decide) ?_
    refine lv_goto (tgt := 16) hx hb dX3_isDone_12 (by decide) ?_
    exact rz_end0 hret h (by decide) dX3_isDone_16 hW
set_option maxRecDepth 20000 in
set_option maxHeartbeats 4000000 in
theorem bl_X3_canStillHold_b47 {σ : St} (X : Cx G p R s m args c cells slots cX3_canStillHold 3 RX3 4) {r : Int32} (hret : R_Z G p l e R s m args below meth c cells slots Q cX3_canStillHold r σ) {k4 : Nat → Int32 → Int32 → (Option (Int32))}
    (hk4 : ∀ (v0 : Nat) (h0 : kd v0 = 3) (v1 : Int32) (v2 : Int32) (_ : k4 v0 v1 v2 = some r) (H : Heap) (locs : List Loc) (ls : Array Slot) (_ : GW G σ s H locs) (_ : lv_has ls 3 [(0, .ref (gz G + (v0))), (1, .int (v1)), (2, .int (v2))]), W p l e R s m args below meth c H locs cells slots Q (F0 m 4 ls [])) :
    ∀ (v0 : Nat) (h0 : kd v0 = 3) (v1 : Int32) (v2 : Int32) (_ : pf_X3_canStillHold_b47 σ k4 v0 v1 v2 = some r) (H : Heap) (locs : List Loc) (ls : Array Slot) (_ : GW G σ s H locs) (_ : lv_has ls 3 [(0, .ref (gz G + (v0))), (1, .int (v1)), (2, .int (v2))]), W p l e R s m args below meth c H locs cells slots Q (F0 m 47 ls []) := by
  have hx := X.1.1
  have hb := X.1.2.1
  intro v0 h0 v1 v2 h H locs ls hW hl
  unfold pf_X3_canStillHold_b47 at h
  refine w_iinc (v := 1) (lv' := fun y => [(2, .int (y)), (0, .ref (gz G + (v0))), (1, .int (v1))]) hx hb dX3_canStillHold_47 hl (k := 2) rfl (by decide) (by decide) (fun _ => rfl) h ?_
  clear h hl; intro v2_1 h ls hl
  refine lv_goto (tgt := 4) hx hb dX3_canStillHold_50 (by decide) ?_
  exact hk4 v0 h0 v1 v2_1 h _ _ _ hW (lv_sub hl [1, 2, 0] rfl)
set_option maxRecDepth 20000 in
set_option maxHeartbeats 4000000 in
theorem bl_X3_canStillHold_b41 {σ : St} (X : Cx G p R s m args c cells slots cX3_canStillHold 3 RX3 4) {r : Int32} (hret : R_Z G p l e R s m args below meth c cells slots Q cX3_canStillHold r σ) {k4 : Nat → Int32 → Int32 → (Option (Int32))}
    (hk4 : ∀ (v0 : Nat) (h0 : kd v0 = 3) (v1 : Int32) (v2 : Int32) (_ : k4 v0 v1 v2 = some r) (H : Heap) (locs : List Loc) (ls : Array Slot) (_ : GW G σ s H locs) (_ : lv_has ls 3 [(0, .ref (gz G + (v0))), (1, .int (v1)), (2, .int (v2))]), W p l e R s m args below meth c H locs cells slots Q (F0 m 4 ls [])) :
    ∀ (v0 : Nat) (h0 : kd v0 = 3) (v1 : Int32) (v2 : Int32) (_ : pf_X3_canStillHold_b41 σ k4 v0 v1 v2 = some r) (H : Heap) (locs : List Loc) (ls : Array Slot) (_ : GW G σ s H locs) (_ : lv_has ls 3 [(0, .ref (gz G + (v0))), (1, .int (v1)), (2, .int (v2))]), W p l e R s m args below meth c H locs cells slots Q (F0 m 41 ls []) := by
  have hx := X.1.1
  have hb := X.1.2.1
  intro v0 h0 v1 v2 h H locs ls hW hl
  unfold pf_X3_canStillHold_b41 at h
  refine lv_iload_n hx hb dX3_canStillHold_41 rfl (lv_at hl 1 rfl) ?_
  refine lv_iconst (v := 1) hx hb dX3_canStillHold_42 (by decide) ?_
  refine lv_iload_n hx hb dX3_canStillHold_43 rfl (lv_at hl 2 rfl) ?_
  refine w_ishl hx hb dX3_canStillHold_44 ?_
  refine lv_ior hx hb dX3_canStillHold_45 ?_
  refine nm_i h ?_
  clear h; intro v1_1 h
  refine lv_istore_n (lv' := [(1, .int (v1_1)), (0, .ref (gz G + (v0))), (2, .int (v2))]) hx hb dX3_canStillHold_46 rfl hl (by decide) rfl ?_
  clear hl; intro ls hl
  exact bl_X3_canStillHold_b47 X hret hk4 v0 h0 v1_1 v2 h _ _ _ hW (lv_sub hl [1, 0, 2] rfl)
set_option maxRecDepth 20000 in
set_option maxHeartbeats 4000000 in
theorem bl_X3_canStillHold_b53 {σ : St} (X : Cx G p R s m args c cells slots cX3_canStillHold 3 RX3 4) {r : Int32} (hret : R_Z G p l e R s m args below meth c cells slots Q cX3_canStillHold r σ) :
    ∀ (v0 : Nat) (h0 : kd v0 = 3) (v1 : Int32) (_ : pf_X3_canStillHold_b53 σ v0 v1 = some r) (H : Heap) (locs : List Loc) (ls : Array Slot) (_ : GW G σ s H locs) (_ : lv_has ls 3 [(0, .ref (gz G + (v0))), (1, .int (v1))]), W p l e R s m args below meth c H locs cells slots Q (F0 m 53 ls []) := by
  have hx := X.1.1
  have hb := X.1.2.1
  intro v0 h0 v1 h H locs ls hW hl
  unfold pf_X3_canStillHold_b53 at h
  refine lv_aload_n hx hb dX3_canStillHold_53 rfl (lv_at hl 0 rfl) ?_
  refine lv_bipush (v := 63) hx hb dX3_canStillHold_54 (by decide) ?_
  refine lv_iload_n hx hb dX3_canStillHold_56 rfl (lv_at hl 1 rfl) ?_
  refine lv_iconst (v := (-1)) hx hb dX3_canStillHold_57 (by decide) ?_
  refine lv_ixor hx hb dX3_canStillHold_58 ?_
  refine lv_iand hx hb dX3_canStillHold_59 ?_
  obtain ⟨r_1, hcl, h⟩ := bind_el h
  refine call_V1 X hW (kC_X3 h0) m_7_2 m_2_200 m_2_201 mv_X3_goalHolds (c_X3_goalHolds h0 hcl) (by decide) rfl rfl (Nat.le_of_ble_eq_true rfl) hl.1 dX3_canStillHold_60 ?_
  clear hW hcl; intro H locs hW
  obtain ⟨hz, h⟩ := ckZ_el h
  exact rz_end0 hret h hz dX3_canStillHold_63 hW
set_option maxRecDepth 20000 in
set_option maxHeartbeats 4000000 in
theorem bl_X3_canStillHold_L4 {σ : St} (X : Cx G p R s m args c cells slots cX3_canStillHold 3 RX3 4) {r : Int32} (hret : R_Z G p l e R s m args below meth c cells slots Q cX3_canStillHold r σ) {k53 : Nat → Int32 → (Option (Int32))}
    (hk53 : ∀ (v0 : Nat) (h0 : kd v0 = 3) (v1 : Int32) (_ : k53 v0 v1 = some r) (H : Heap) (locs : List Loc) (ls : Array Slot) (_ : GW G σ s H locs) (_ : lv_has ls 3 [(0, .ref (gz G + (v0))), (1, .int (v1))]), W p l e R s m args below meth c H locs cells slots Q (F0 m 53 ls [])) :
    ∀ (n : Nat), ∀ (v0 : Nat) (h0 : kd v0 = 3) (v1 : Int32) (v2 : Int32) (_ : pf_X3_canStillHold_L4 σ k53 n v0 v1 v2 = some r) (H : Heap) (locs : List Loc) (ls : Array Slot) (_ : GW G σ s H locs) (_ : lv_has ls 3 [(0, .ref (gz G + (v0))), (1, .int (v1)), (2, .int (v2))]), W p l e R s m args below meth c H locs cells slots Q (F0 m 4 ls []) := by
  have hx := X.1.1
  have hb := X.1.2.1
  intro n
  induction n with
  | zero => intro v0 h0 v1 v2 h H locs ls hW hl; cases h
  | succ n ih =>
    intro v0 h0 v1 v2 h H locs ls hW hl
    rw [pf_X3_canStillHold_L4.eq_2] at h
    refine lv_iload_n hx hb dX3_canStillHold_4 rfl (lv_at hl 2 rfl) ?_
    refine lv_aload_n hx hb dX3_canStillHold_5 rfl (lv_at hl 0 rfl) ?_
    refine gf_X3_stepCount X hW h0 m_1_60 dX3_canStillHold_6 ?_
    refine lv_icmp_ge (tgt := 53) hx hb dX3_canStillHold_9 (by decide) (fun hc => ?_) (fun hc => ?_)
    · replace h := if_t hc h
      exact hk53 v0 h0 v1 h _ _ _ hW (lv_sub hl [0, 1] rfl)
    · replace h := if_f hc h
      refine lv_aload_n hx hb dX3_canStillHold_12 rfl (lv_at hl 0 rfl) ?_
      refine lv_iload_n hx hb dX3_canStillHold_13 rfl (lv_at hl 2 rfl) ?_
      obtain ⟨r_1, hcl, h⟩ := bind_el h
      refine call_V1 X hW (kC_X3 h0) m_7_1 m_5_73 m_5_74 mv_X3_isDone (c_X3_isDone h0 hcl) (by decide) rfl rfl (Nat.le_of_ble_eq_true rfl) hl.1 dX3_canStillHold_14 ?_
      clear hW hcl; intro H locs hW
      refine lv_if_ne (tgt := 47) hx hb dX3_canStillHold_17 (by decide) (fun hc => ?_) (fun hc => ?_)
      · replace h := if_f hc h
        exact bl_X3_canStillHold_b47 X hret ih v0 h0 v1 v2 h _ _ _ hW (lv_sub hl [0, 1, 2] rfl)
      · replace h := if_t hc h
        refine lv_aload_n hx hb dX3_canStillHold_20 rfl (lv_at hl 0 rfl) ?_
        refine lv_iload_n hx hb dX3_canStillHold_21 rfl (lv_at hl 2 rfl) ?_
        obtain ⟨r_2, hcl, h⟩ := bind_el h
        refine call_V1 X hW (kC_X3 h0) m_2_207 m_2_209 m_0_4 mv_X3_isBroken (c_X3_isBroken h0 hcl) (by decide) rfl rfl (Nat.le_of_ble_eq_true rfl) hl.1 dX3_canStillHold_22 ?_
        clear hW hcl; intro H locs hW
        refine lv_if_ne (tgt := 41) hx hb dX3_canStillHold_25 (by decide) (fun hc => ?_) (fun hc => ?_)
        · replace h := if_f hc h
          exact bl_X3_canStillHold_b41 X hret ih v0 h0 v1 v2 h _ _ _ hW (lv_sub hl [0, 1, 2] rfl)
        · replace h := if_t hc h
          refine lv_aload_n hx hb dX3_canStillHold_28 rfl (lv_at hl 0 rfl) ?_
          refine gf_X3_ahead X hW h0 m_1_93 dX3_canStillHold_29 ?_
          refine lv_iload_n hx hb dX3_canStillHold_32 rfl (lv_at hl 2 rfl) ?_
          obtain ⟨r_3, hcl, h⟩ := bind_el h
          refine call_SN1 X hW m_2_177 m_2_178 mv_X10_at (c_X10_at (kf_X3_ahead h0) hcl) (by decide) rfl rfl (Nat.le_of_ble_eq_true rfl) hl.1 dX3_canStillHold_33 ?_
          clear hW hcl; intro H locs hW
          refine lv_iload_n hx hb dX3_canStillHold_36 rfl (lv_at hl 1 rfl) ?_
          refine lv_iand hx hb dX3_canStillHold_37 ?_
          refine lv_if_eq (tgt := 47) hx hb dX3_canStillHold_38 (by decide) (fun hc => ?_) (fun hc => ?_)
          · replace h := if_t hc h
            exact bl_X3_canStillHold_b47 X hret ih v0 h0 v1 v2 h _ _ _ hW (lv_sub hl [0, 1, 2] rfl)
          · replace h := if_f hc h
            exact bl_X3_canStillHold_b41 X hret ih v0 h0 v1 v2 h _ _ _ hW (lv_sub hl [0, 1, 2] rfl)
set_option maxRecDepth 20000 in
set_option maxHeartbeats 4000000 in
theorem c_X3_canStillHold {G : Gt} {l : Launch} {v0 : Nat} (h0 : kd v0 = 3) {σ : St} {r : Int32} (hf : pf_X3_canStillHold v0 σ = some r) : Ct G l yX3_canStillHold cX3_canStillHold 3 (some .boolean) 4 [.ref (gz G + (v0))] σ (some (.int r)) σ := by
  refine met_z (by decide +kernel) (Nat.le_of_ble_eq_true rfl) rfl ?_
  intro p e s m args below meth c Q ls X hW hret hl
  have hx := X.1.1
  have hb := X.1.2.1
  have hl : lv_has ls 3 [(0, .ref (gz G + (v0)))] := hl
  have h := hf
  clear hf
  unfold pf_X3_canStillHold at h
  refine lv_iconst (v := 0) hx hb dX3_canStillHold_0 (by decide) ?_
  refine lv_istore_n (lv' := [(1, .int (0)), (0, .ref (gz G + (v0)))]) hx hb dX3_canStillHold_1 rfl hl (by decide) rfl ?_
  clear hl; intro ls hl
  refine lv_iconst (v := 0) hx hb dX3_canStillHold_2 (by decide) ?_
  refine lv_istore_n (lv' := [(2, .int (0)), (1, .int (0)), (0, .ref (gz G + (v0)))]) hx hb dX3_canStillHold_3 rfl hl (by decide) rfl ?_
  clear hl; intro ls hl
  exact bl_X3_canStillHold_L4 X hret (bl_X3_canStillHold_b53 X hret) FU v0 h0 0 0 h _ _ _ hW (lv_sub hl [2, 1, 0] rfl)
set_option maxRecDepth 20000 in
set_option maxHeartbeats 4000000 in
theorem bl_X2_fail_b40 (X : Cx G p R s m args c cells slots cX2_fail 3 RX2 5) {σ' : St} (hret : R_V G p l e R s m args below meth c cells slots Q cX2_fail σ') :
    ∀ (v1 : Nat) (h1 : kd v1 = 3) (σ : St) (_ : pf_X2_fail_b40 v1 σ = some σ') (H : Heap) (locs : List Loc) (ls : Array Slot) (_ : GW G σ s H locs) (_ : lv_has ls 3 [(1, .ref (gz G + (v1)))]), W p l e R s m args below meth c H locs cells slots Q (F0 m 40 ls []) := by
  have hx := X.1.1
  have hb := X.1.2.1
  intro v1 h1 σ h H locs ls hW hl
  unfold pf_X2_fail_b40 at h
  refine lv_aload_n hx hb dX2_fail_40 rfl (lv_at hl 0 rfl) ?_
  obtain ⟨r_1, hcl, h⟩ := bind_el h
  refine call_V1 X hW (kC_X3 h1) m_6_237 m_6_238 m_6_239 mv_X3_canStillHold (c_X3_canStillHold h1 hcl) (by decide) rfl rfl (Nat.le_of_ble_eq_true rfl) hl.1 dX2_fail_41 ?_
  clear hW hcl; intro H locs hW
  refine lv_if_ne (tgt := 52) hx hb dX2_fail_44 (by decide) (fun hc => ?_) (fun hc => ?_)
  · replace h := if_f hc h
    exact rv_end hret h dX2_fail_52 hW
  · replace h := if_t hc h
    refine lv_aload_n hx hb dX2_fail_47 rfl (lv_at hl 0 rfl) ?_
    refine lv_iconst (v := 2) hx hb dX2_fail_48 (by decide) ?_
    refine sf_X3_status X hW h1 m_1_66 dX2_fail_49 ?_
    clear hW; intro H locs hW
    refine nm_s hW h ?_
    clear hW h; intro σ_2 hW h
    exact rv_end hret h dX2_fail_52 hW
set_option maxRecDepth 20000 in
set_option maxHeartbeats 4000000 in
theorem c_X2_fail {G : Gt} {l : Launch} {v0 : Nat} (h0 : kd v0 = 2) {v1 : Nat} (h1 : kd v1 = 3) {v2 : Int32} {σ : St} {σ' : St} (hf : pf_X2_fail v0 v1 v2 σ = some σ') : Ct G l yX2_fail cX2_fail 3 none 5 [.ref (gz G + (v0)), .ref (gz G + (v1)), .int (v2)] σ none σ' := by
  refine met_v (by decide +kernel) (Nat.le_of_ble_eq_true rfl) rfl ?_
  intro p e s m args below meth c Q ls X hW hret hl
  have hx := X.1.1
  have hb := X.1.2.1
  have hl : lv_has ls 3 [(0, .ref (gz G + (v0))), (1, .ref (gz G + (v1))), (2, .int (v2))] := hl
  have h := hf
  clear hf
  unfold pf_X2_fail at h
  refine lv_aload_n hx hb dX2_fail_0 rfl (lv_at hl 1 rfl) ?_
  refine gf_X3_fails X hW h1 m_1_91 dX2_fail_1 ?_
  refine lv_iload_n hx hb dX2_fail_4 rfl (lv_at hl 2 rfl) ?_
  refine lv_aload_n hx hb dX2_fail_5 rfl (lv_at hl 1 rfl) ?_
  refine gf_X3_fails X hW h1 m_1_91 dX2_fail_6 ?_
  refine lv_iload_n hx hb dX2_fail_9 rfl (lv_at hl 2 rfl) ?_
  obtain ⟨r_1, hcl, h⟩ := bind_el h
  refine call_SN1 X hW m_6_223 m_2_178 mv_X10_at (c_X10_at (kf_X3_fails h1) hcl) (by decide) rfl rfl (Nat.le_of_ble_eq_true rfl) hl.1 dX2_fail_10 ?_
  clear hW hcl; intro H locs hW
  refine lv_iconst (v := 1) hx hb dX2_fail_13 (by decide) ?_
  refine lv_iadd hx hb dX2_fail_14 ?_
  obtain ⟨σ_2, hcl, h⟩ := bind_el h
  refine call_SN0 X hW m_3_29 m_2_189 mv_X10_put (c_X10_put (kf_X3_fails h1) hcl) (by decide) rfl rfl (Nat.le_of_ble_eq_true rfl) hl.1 dX2_fail_15 ?_
  clear hW hcl; intro H locs hW
  refine lv_aload_n hx hb dX2_fail_18 rfl (lv_at hl 1 rfl) ?_
  refine gf_X3_costly X hW h1 m_1_97 dX2_fail_19 ?_
  refine lv_iload_n hx hb dX2_fail_22 rfl (lv_at hl 2 rfl) ?_
  obtain ⟨r_3, hcl, h⟩ := bind_el h
  refine call_SN1 X hW m_6_223 m_2_178 mv_X10_at (c_X10_at (kf_X3_costly h1) hcl) (by decide) rfl rfl (Nat.le_of_ble_eq_true rfl) hl.1 dX2_fail_23 ?_
  clear hW hcl; intro H locs hW
  refine lv_iconst (v := 1) hx hb dX2_fail_26 (by decide) ?_
  refine lv_icmp_ne (tgt := 40) hx hb dX2_fail_27 (by decide) (fun hc => ?_) (fun hc => ?_)
  · replace h := if_f hc h
    exact bl_X2_fail_b40 X hret v1 h1 σ_2 h _ _ _ hW (lv_sub hl [1] rfl)
  · replace h := if_t hc h
    refine lv_aload_n hx hb dX2_fail_30 rfl (lv_at hl 0 rfl) ?_
    refine lv_aload_n hx hb dX2_fail_31 rfl (lv_at hl 1 rfl) ?_
    refine gf_X3_uses X hW h1 m_1_102 dX2_fail_32 ?_
    refine lv_iload_n hx hb dX2_fail_35 rfl (lv_at hl 2 rfl) ?_
    refine lv_iconst (v := (-1)) hx hb dX2_fail_36 (by decide) ?_
    obtain ⟨σ_4, hcl, h⟩ := bind_el h
    refine call_V0 X hW (kC_X2 h0) m_6_228 m_6_230 m_0_35 mv_X2_change (c_X2_change h0 (kf_X3_uses h1) hcl) (by decide) rfl rfl (Nat.le_of_ble_eq_true rfl) hl.1 dX2_fail_37 ?_
    clear hW hcl; intro H locs hW
    exact bl_X2_fail_b40 X hret v1 h1 σ_4 h _ _ _ hW (lv_sub hl [1] rfl)
set_option maxRecDepth 20000 in
set_option maxHeartbeats 4000000 in
theorem c_X2_succeed {G : Gt} {l : Launch} {v0 : Nat} (h0 : kd v0 = 2) {v1 : Nat} (h1 : kd v1 = 3) {v2 : Int32} {σ : St} {σ' : St} (hf : pf_X2_succeed v0 v1 v2 σ = some σ') : Ct G l yX2_succeed cX2_succeed 3 none 4 [.ref (gz G + (v0)), .ref (gz G + (v1)), .int (v2)] σ none σ' := by
  refine met_v (by decide +kernel) (Nat.le_of_ble_eq_true rfl) rfl ?_
  intro p e s m args below meth c Q ls X hW hret hl
  have hx := X.1.1
  have hb := X.1.2.1
  have hl : lv_has ls 3 [(0, .ref (gz G + (v0))), (1, .ref (gz G + (v1))), (2, .int (v2))] := hl
  have h := hf
  clear hf
  unfold pf_X2_succeed at h
  refine lv_aload_n hx hb dX2_succeed_0 rfl (lv_at hl 0 rfl) ?_
  refine lv_aload_n hx hb dX2_succeed_1 rfl (lv_at hl 1 rfl) ?_
  refine gf_X3_uses X hW h1 m_1_102 dX2_succeed_2 ?_
  refine lv_iload_n hx hb dX2_succeed_5 rfl (lv_at hl 2 rfl) ?_
  refine lv_iconst (v := (-1)) hx hb dX2_succeed_6 (by decide) ?_
  obtain ⟨σ_1, hcl, h⟩ := bind_el h
  refine call_V0 X hW (kC_X2 h0) m_6_228 m_6_230 m_0_35 mv_X2_change (c_X2_change h0 (kf_X3_uses h1) hcl) (by decide) rfl rfl (Nat.le_of_ble_eq_true rfl) hl.1 dX2_succeed_7 ?_
  clear hW hcl; intro H locs hW
  refine lv_aload_n hx hb dX2_succeed_10 rfl (lv_at hl 0 rfl) ?_
  refine lv_aload_n hx hb dX2_succeed_11 rfl (lv_at hl 1 rfl) ?_
  refine gf_X3_gives X hW h1 m_1_108 dX2_succeed_12 ?_
  refine lv_iload_n hx hb dX2_succeed_15 rfl (lv_at hl 2 rfl) ?_
  refine lv_iconst (v := 1) hx hb dX2_succeed_16 (by decide) ?_
  obtain ⟨σ_2, hcl, h⟩ := bind_el h
  refine call_V0 X hW (kC_X2 h0) m_6_228 m_6_230 m_0_35 mv_X2_change (c_X2_change h0 (kf_X3_gives h1) hcl) (by decide) rfl rfl (Nat.le_of_ble_eq_true rfl) hl.1 dX2_succeed_17 ?_
  clear hW hcl; intro H locs hW
  refine lv_aload_n hx hb dX2_succeed_20 rfl (lv_at hl 1 rfl) ?_
  refine lv_dup hx hb dX2_succeed_21 rfl ?_
  refine gf_X3_done X hW h1 m_1_71 dX2_succeed_22 ?_
  refine lv_iconst (v := 1) hx hb dX2_succeed_25 (by decide) ?_
  refine lv_iload_n hx hb dX2_succeed_26 rfl (lv_at hl 2 rfl) ?_
  refine w_ishl hx hb dX2_succeed_27 ?_
  refine lv_ior hx hb dX2_succeed_28 ?_
  refine sf_X3_done X hW h1 m_1_71 dX2_succeed_29 ?_
  clear hW; intro H locs hW
  refine nm_s hW h ?_
  clear hW h; intro σ_3 hW h
  refine lv_aload_n hx hb dX2_succeed_32 rfl (lv_at hl 1 rfl) ?_
  refine lv_aload_n hx hb dX2_succeed_33 rfl (lv_at hl 1 rfl) ?_
  refine gf_X3_done X hW h1 m_1_71 dX2_succeed_34 ?_
  obtain ⟨r_4, hcl, h⟩ := bind_el h
  refine call_V1 X hW (kC_X3 h1) m_6_232 m_2_200 m_2_201 mv_X3_goalHolds (c_X3_goalHolds h1 hcl) (by decide) rfl rfl (Nat.le_of_ble_eq_true rfl) hl.1 dX2_succeed_37 ?_
  clear hW hcl; intro H locs hW
  refine lv_if_eq (tgt := 75) hx hb dX2_succeed_40 (by decide) (fun hc => ?_) (fun hc => ?_)
  · replace h := if_t hc h
    exact rv_end hret h dX2_succeed_75 hW
  · replace h := if_f hc h
    refine lv_aload_n hx hb dX2_succeed_43 rfl (lv_at hl 1 rfl) ?_
    refine lv_iconst (v := 1) hx hb dX2_succeed_44 (by decide) ?_
    refine sf_X3_status X hW h1 m_1_66 dX2_succeed_45 ?_
    clear hW; intro H locs hW
    refine nm_s hW h ?_
    clear hW h; intro σ_5 hW h
    refine lv_aload_n hx hb dX2_succeed_48 rfl (lv_at hl 0 rfl) ?_
    refine gf_X2_stock X hW h0 m_1_140 dX2_succeed_49 ?_
    refine lv_aload_n hx hb dX2_succeed_52 rfl (lv_at hl 1 rfl) ?_
    refine gf_X3_rewardItem X hW h1 m_1_73 dX2_succeed_53 ?_
    refine lv_aload_n hx hb dX2_succeed_56 rfl (lv_at hl 0 rfl) ?_
    refine gf_X2_stock X hW h0 m_1_140 dX2_succeed_57 ?_
    refine lv_aload_n hx hb dX2_succeed_60 rfl (lv_at hl 1 rfl) ?_
    refine gf_X3_rewardItem X hW h1 m_1_73 dX2_succeed_61 ?_
    obtain ⟨r_6, hcl, h⟩ := bind_el h
    refine call_SN1 X hW m_6_223 m_2_178 mv_X10_at (c_X10_at (kf_X2_stock h0) hcl) (by decide) rfl rfl (Nat.le_of_ble_eq_true rfl) hl.1 dX2_succeed_64 ?_
    clear hW hcl; intro H locs hW
    refine lv_aload_n hx hb dX2_succeed_67 rfl (lv_at hl 1 rfl) ?_
    refine gf_X3_rewardAmount X hW h1 m_1_77 dX2_succeed_68 ?_
    refine lv_iadd hx hb dX2_succeed_71 ?_
    obtain ⟨σ_7, hcl, h⟩ := bind_el h
    refine call_SN0 X hW m_3_29 m_2_189 mv_X10_put (c_X10_put (kf_X2_stock h0) hcl) (by decide) rfl rfl (Nat.le_of_ble_eq_true rfl) hl.1 dX2_succeed_72 ?_
    clear hW hcl; intro H locs hW
    exact rv_end hret h dX2_succeed_75 hW
set_option maxRecDepth 20000 in
set_option maxHeartbeats 4000000 in
theorem c_X2_tryStep {G : Gt} {l : Launch} {v0 : Nat} (h0 : kd v0 = 2) {v1 : Nat} (h1 : kd v1 = 3) {v2 : Int32} {σ : St} {r : Int32} {σ' : St} (hf : pf_X2_tryStep v0 v1 v2 σ = some (r, σ')) : Ct G l yX2_tryStep cX2_tryStep 3 (some .int) 6 [.ref (gz G + (v0)), .ref (gz G + (v1)), .int (v2)] σ (some (.int r)) σ' := by
  refine met_i (by decide +kernel) (Nat.le_of_ble_eq_true rfl) rfl ?_
  intro p e s m args below meth c Q ls X hW hret hl
  have hx := X.1.1
  have hb := X.1.2.1
  have hl : lv_has ls 3 [(0, .ref (gz G + (v0))), (1, .ref (gz G + (v1))), (2, .int (v2))] := hl
  have h := hf
  clear hf
  unfold pf_X2_tryStep at h
  refine lv_aload_n hx hb dX2_tryStep_0 rfl (lv_at hl 0 rfl) ?_
  obtain ⟨r_1, σ_1, hcl, h⟩ := bnd2_el h
  refine call_V1 X hW (kC_X2 h0) m_6_218 m_6_219 m_6_220 mv_X2_draw (c_X2_draw h0 hcl) (by decide) rfl rfl (Nat.le_of_ble_eq_true rfl) hl.1 dX2_tryStep_1 ?_
  clear hW hcl; intro H locs hW
  refine lv_aload_n hx hb dX2_tryStep_4 rfl (lv_at hl 1 rfl) ?_
  refine gf_X3_risk X hW h1 m_1_84 dX2_tryStep_5 ?_
  refine lv_iload_n hx hb dX2_tryStep_8 rfl (lv_at hl 2 rfl) ?_
  obtain ⟨r_2, hcl, h⟩ := bind_el h
  refine call_SN1 X hW m_6_223 m_2_178 mv_X10_at (c_X10_at (kf_X3_risk h1) hcl) (by decide) rfl rfl (Nat.le_of_ble_eq_true rfl) hl.1 dX2_tryStep_9 ?_
  clear hW hcl; intro H locs hW
  refine lv_icmp_lt (tgt := 35) hx hb dX2_tryStep_12 (by decide) (fun hc => ?_) (fun hc => ?_)
  · replace h := if_t hc h
    refine lv_aload_n hx hb dX2_tryStep_35 rfl (lv_at hl 0 rfl) ?_
    refine lv_aload_n hx hb dX2_tryStep_36 rfl (lv_at hl 1 rfl) ?_
    refine lv_iload_n hx hb dX2_tryStep_37 rfl (lv_at hl 2 rfl) ?_
    obtain ⟨σ_3, hcl, h⟩ := bind_el h
    refine call_V0 X hW (kC_X2 h0) m_6_233 m_6_235 m_0_36 mv_X2_fail (c_X2_fail h0 h1 hcl) (by decide) rfl rfl (Nat.le_of_ble_eq_true rfl) hl.1 dX2_tryStep_38 ?_
    clear hW hcl; intro H locs hW
    refine lv_aload_n hx hb dX2_tryStep_41 rfl (lv_at hl 1 rfl) ?_
    refine gf_X3_status X hW h1 m_1_66 dX2_tryStep_42 ?_
    refine lv_iconst (v := 2) hx hb dX2_tryStep_45 (by decide) ?_
    refine lv_icmp_ne (tgt := 53) hx hb dX2_tryStep_46 (by decide) (fun hc => ?_) (fun hc => ?_)
    · replace h := if_f hc h
      refine lv_iconst (v := 0) hx hb dX2_tryStep_53 (by decide) ?_
      exact ri_end hret h dX2_tryStep_54 hW
    · replace h := if_t hc h
      refine lv_iconst (v := 3) hx hb dX2_tryStep_49 (by decide) ?_
      refine lv_goto (tgt := 54) hx hb dX2_tryStep_50 (by decide) ?_
      exact ri_end hret h dX2_tryStep_54 hW
  · replace h := if_f hc h
    refine lv_aload_n hx hb dX2_tryStep_15 rfl (lv_at hl 0 rfl) ?_
    refine lv_aload_n hx hb dX2_tryStep_16 rfl (lv_at hl 1 rfl) ?_
    refine lv_iload_n hx hb dX2_tryStep_17 rfl (lv_at hl 2 rfl) ?_
    obtain ⟨σ_4, hcl, h⟩ := bind_el h
    refine call_V0 X hW (kC_X2 h0) m_6_224 m_6_225 m_6_226 mv_X2_succeed (c_X2_succeed h0 h1 hcl) (by decide) rfl rfl (Nat.le_of_ble_eq_true rfl) hl.1 dX2_tryStep_18 ?_
    clear hW hcl; intro H locs hW
    refine lv_aload_n hx hb dX2_tryStep_21 rfl (lv_at hl 1 rfl) ?_
    refine gf_X3_status X hW h1 m_1_66 dX2_tryStep_22 ?_
    refine lv_iconst (v := 1) hx hb dX2_tryStep_25 (by decide) ?_
    refine lv_icmp_ne (tgt := 33) hx hb dX2_tryStep_26 (by decide) (fun hc => ?_) (fun hc => ?_)
    · replace h := if_f hc h
      refine lv_iconst (v := 1) hx hb dX2_tryStep_33 (by decide) ?_
      exact ri_end hret h dX2_tryStep_34 hW
    · replace h := if_t hc h
      refine lv_iconst (v := 2) hx hb dX2_tryStep_29 (by decide) ?_
      refine lv_goto (tgt := 34) hx hb dX2_tryStep_30 (by decide) ?_
      exact ri_end hret h dX2_tryStep_34 hW
set_option maxRecDepth 20000 in
set_option maxHeartbeats 4000000 in
theorem c_X3_beginAnew {G : Gt} {l : Launch} {v0 : Nat} (h0 : kd v0 = 3) {σ : St} {σ' : St} (hf : pf_X3_beginAnew v0 σ = some σ') : Ct G l yX3_beginAnew cX3_beginAnew 1 none 3 [.ref (gz G + (v0))] σ none σ' := by
  refine met_v (by decide +kernel) (Nat.le_of_ble_eq_true rfl) rfl ?_
  intro p e s m args below meth c Q ls X hW hret hl
  have hx := X.1.1
  have hb := X.1.2.1
  have hl : lv_has ls 1 [(0, .ref (gz G + (v0)))] := hl
  have h := hf
  clear hf
  unfold pf_X3_beginAnew at h
  refine lv_aload_n hx hb dX3_beginAnew_0 rfl (lv_at hl 0 rfl) ?_
  refine lv_iconst (v := 0) hx hb dX3_beginAnew_1 (by decide) ?_
  refine sf_X3_status X hW h0 m_1_64 dX3_beginAnew_2 ?_
  clear hW; intro H locs hW
  refine nm_s hW h ?_
  clear hW h; intro σ_1 hW h
  refine lv_aload_n hx hb dX3_beginAnew_5 rfl (lv_at hl 0 rfl) ?_
  refine lv_iconst (v := 0) hx hb dX3_beginAnew_6 (by decide) ?_
  refine sf_X3_done X hW h0 m_1_68 dX3_beginAnew_7 ?_
  clear hW; intro H locs hW
  refine nm_s hW h ?_
  clear hW h; intro σ_2 hW h
  refine lv_aload_n hx hb dX3_beginAnew_10 rfl (lv_at hl 0 rfl) ?_
  refine gf_X3_fails X hW h0 m_1_90 dX3_beginAnew_11 ?_
  refine lv_iconst (v := 0) hx hb dX3_beginAnew_14 (by decide) ?_
  obtain ⟨σ_3, hcl, h⟩ := bind_el h
  refine call_S0 X hW m_6_110 m_2_185 mv_J7_fill_53178 (c_J7_fill_53178 (kf_X3_fails h0) hcl) (by decide) rfl rfl (Nat.le_of_ble_eq_true rfl) hl.1 dX3_beginAnew_15 ?_
  clear hW hcl; intro H locs hW
  exact rv_end hret h dX3_beginAnew_18 hW
set_option maxRecDepth 20000 in
set_option maxHeartbeats 4000000 in
theorem c_X3_clear {G : Gt} {l : Launch} {v0 : Nat} (h0 : kd v0 = 3) {σ : St} {σ' : St} (hf : pf_X3_clear v0 σ = some σ') : Ct G l yX3_clear cX3_clear 1 none 4 [.ref (gz G + (v0))] σ none σ' := by
  refine met_v (by decide +kernel) (Nat.le_of_ble_eq_true rfl) rfl ?_
  intro p e s m args below meth c Q ls X hW hret hl
  have hx := X.1.1
  have hb := X.1.2.1
  have hl : lv_has ls 1 [(0, .ref (gz G + (v0)))] := hl
  have h := hf
  clear hf
  unfold pf_X3_clear at h
  refine lv_aload_n hx hb dX3_clear_0 rfl (lv_at hl 0 rfl) ?_
  refine lv_iconst (v := 0) hx hb dX3_clear_1 (by decide) ?_
  refine sf_X3_stepCount X hW h0 m_1_60 dX3_clear_2 ?_
  clear hW; intro H locs hW
  refine nm_s hW h ?_
  clear hW h; intro σ_1 hW h
  refine lv_aload_n hx hb dX3_clear_5 rfl (lv_at hl 0 rfl) ?_
  obtain ⟨σ_2, hcl, h⟩ := bind_el h
  refine call_V0 X hW (kC_X3 h0) m_6_106 m_6_107 m_6_108 mv_X3_beginAnew (c_X3_beginAnew h0 hcl) (by decide) rfl rfl (Nat.le_of_ble_eq_true rfl) hl.1 dX3_clear_6 ?_
  clear hW hcl; intro H locs hW
  refine lv_aload_n hx hb dX3_clear_9 rfl (lv_at hl 0 rfl) ?_
  refine gf_X3_ahead X hW h0 m_1_93 dX3_clear_10 ?_
  refine lv_iconst (v := 0) hx hb dX3_clear_13 (by decide) ?_
  obtain ⟨σ_3, hcl, h⟩ := bind_el h
  refine call_S0 X hW m_6_110 m_2_185 mv_J7_fill_53178 (c_J7_fill_53178 (kf_X3_ahead h0) hcl) (by decide) rfl rfl (Nat.le_of_ble_eq_true rfl) hl.1 dX3_clear_14 ?_
  clear hW hcl; intro H locs hW
  refine lv_aload_n hx hb dX3_clear_17 rfl (lv_at hl 0 rfl) ?_
  refine gf_X3_costly X hW h0 m_1_96 dX3_clear_18 ?_
  refine lv_iconst (v := 0) hx hb dX3_clear_21 (by decide) ?_
  obtain ⟨σ_4, hcl, h⟩ := bind_el h
  refine call_S0 X hW m_6_110 m_2_185 mv_J7_fill_53178 (c_J7_fill_53178 (kf_X3_costly h0) hcl) (by decide) rfl rfl (Nat.le_of_ble_eq_true rfl) hl.1 dX3_clear_22 ?_
  clear hW hcl; intro H locs hW
  refine lv_aload_n hx hb dX3_clear_25 rfl (lv_at hl 0 rfl) ?_
  refine gf_X3_uses X hW h0 m_1_100 dX3_clear_26 ?_
  refine lv_iconst (v := 0) hx hb dX3_clear_29 (by decide) ?_
  obtain ⟨σ_5, hcl, h⟩ := bind_el h
  refine call_S0 X hW m_6_110 m_2_185 mv_J7_fill_53178 (c_J7_fill_53178 (kf_X3_uses h0) hcl) (by decide) rfl rfl (Nat.le_of_ble_eq_true rfl) hl.1 dX3_clear_30 ?_
  clear hW hcl; intro H locs hW
  refine lv_aload_n hx hb dX3_clear_33 rfl (lv_at hl 0 rfl) ?_
  refine gf_X3_needs X hW h0 m_1_104 dX3_clear_34 ?_
  refine lv_iconst (v := 0) hx hb dX3_clear_37 (by decide) ?_
  obtain ⟨σ_6, hcl, h⟩ := bind_el h
  refine call_S0 X hW m_6_110 m_2_185 mv_J7_fill_53178 (c_J7_fill_53178 (kf_X3_needs h0) hcl) (by decide) rfl rfl (Nat.le_of_ble_eq_true rfl) hl.1 dX3_clear_38 ?_
  clear hW hcl; intro H locs hW
  refine lv_aload_n hx hb dX3_clear_41 rfl (lv_at hl 0 rfl) ?_
  refine gf_X3_gives X hW h0 m_1_106 dX3_clear_42 ?_
  refine lv_iconst (v := 0) hx hb dX3_clear_45 (by decide) ?_
  obtain ⟨σ_7, hcl, h⟩ := bind_el h
  refine call_S0 X hW m_6_110 m_2_185 mv_J7_fill_53178 (c_J7_fill_53178 (kf_X3_gives h0) hcl) (by decide) rfl rfl (Nat.le_of_ble_eq_true rfl) hl.1 dX3_clear_46 ?_
  clear hW hcl; intro H locs hW
  exact rv_end hret h dX3_clear_49 hW
end
