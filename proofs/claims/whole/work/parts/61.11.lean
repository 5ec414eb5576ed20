section
variable {G : Gt} {p : Program} {l : Launch} {e : Env} {R : Room} {s : State} {m : MethodId} {args : Array Value} {below : List Frame} {meth : Method} {c : Code} {cells slots : Nat} {Q : State → Prop}
set_option maxRecDepth 20000 in
set_option maxHeartbeats 4000000 in
theorem bl_X11_readsSum_b41 {rc : Nat → St → Option (Int32 × St)} {hr : Nat} (hB : 11 ≤ hr) (hrc : ∀ {a0 : Nat} (_ : kd a0 = 10) {τ : St} {w : Int32} {τ' : St} (_ : rc a0 τ = some (w, τ')), Ct G l yX11_readsSum cX11_readsSum 2 (some .boolean) hr [.ref (gz G + a0)] τ (some (.int w)) τ') (X : Cx G p R s m args c cells slots cX11_readsSum 2 RX11 (hr + 3)) {r : Int32} {σ' : St} (hret : R_Z G p l e R s m args below meth c cells slots Q cX11_readsSum r σ') {k9 : Nat → St → (Option (Int32 × St))}
    (hk9 : ∀ (v0 : Nat) (h0 : kd v0 = 10) (σ : St) (_ : k9 v0 σ = some (r, σ')) (H : Heap) (locs : List Loc) (ls : Array Slot) (_ : GW G σ s H locs) (_ : lv_has ls 2 [(0, .ref (gz G + (v0)))]), W p l e R s m args below meth c H locs cells slots Q (F0 m 9 ls [])) :
    ∀ (v0 : Nat) (h0 : kd v0 = 10) (s0 : Int32) (σ : St) (_ : pf_X11_readsSum_b41 rc k9 v0 s0 σ = some (r, σ')) (H : Heap) (locs : List Loc) (ls : Array Slot) (_ : GW G σ s H locs) (_ : lv_has ls 2 [(0, .ref (gz G + (v0)))]), W p l e R s m args below meth c H locs cells slots Q (F0 m 41 ls [.int (s0)]) := by
  have hx := X.1.1
  have hb := X.1.2.1
  intro v0 h0 s0 σ h H locs ls hW hl
  unfold pf_X11_readsSum_b41 at h
  refine lv_istore_n (lv' := [(1, .int (s0)), (0, .ref (gz G + (v0)))]) hx hb dX11_readsSum_41 rfl hl (by decide) rfl ?_
  clear hl; intro ls hl
  refine lv_aload_n hx hb dX11_readsSum_42 rfl (lv_at hl 1 rfl) ?_
  refine lv_dup hx hb dX11_readsSum_43 rfl ?_
  refine gf_X11_at X hW h0 m_6_22 dX11_readsSum_44 ?_
  refine lv_iconst (v := 1) hx hb dX11_readsSum_47 (by decide) ?_
  refine lv_iadd hx hb dX11_readsSum_48 ?_
  refine sf_X11_at X hW h0 m_6_22 dX11_readsSum_49 ?_
  clear hW; intro H locs hW
  refine nm_s hW h ?_
  clear hW h; intro σ_1 hW h
  refine lv_aload_n hx hb dX11_readsSum_52 rfl (lv_at hl 1 rfl) ?_
  obtain ⟨r_2, σ_2, hcl, h⟩ := bnd2_el h
  refine call_V1 X hW (kC_X11 h0) m_6_232 m_6_234 m_0_63 mv_X11_readsTerm (c_X11_readsTerm hB hrc h0 hcl) (by omega) rfl rfl (Nat.le_of_ble_eq_true rfl) hl.1 dX11_readsSum_53 ?_
  clear hW hcl; intro H locs hW
  refine lv_if_ne (tgt := 61) hx hb dX11_readsSum_56 (by decide) (fun hc => ?_) (fun hc => ?_)
  · replace h := if_f hc h
    refine lv_aload_n hx hb dX11_readsSum_61 rfl (lv_at hl 1 rfl) ?_
    refine lv_iload_n hx hb dX11_readsSum_62 rfl (lv_at hl 0 rfl) ?_
    refine lv_iconst (v := 0) hx hb dX11_readsSum_63 (by decide) ?_
    obtain ⟨σ_3, hcl, h⟩ := bind_el h
    refine call_V0 X hW (kC_X11 h0) m_7_0 m_7_2 m_0_65 mv_X11_emits (c_X11_emits h0 hcl) (by omega) rfl rfl (Nat.le_of_ble_eq_true rfl) hl.1 dX11_readsSum_64 ?_
    clear hW hcl; intro H locs hW
    refine lv_goto (tgt := 9) hx hb dX11_readsSum_67 (by decide) ?_
    exact hk9 v0 h0 σ_3 h _ _ _ hW (lv_sub hl [1] rfl)
  · replace h := if_t hc h
    refine lv_iconst (v := 0) hx hb dX11_readsSum_59 (by decide) ?_
    exact rz_end hret h (by decide) dX11_readsSum_60 hW
set_option maxRecDepth 20000 in
set_option maxHeartbeats 4000000 in
theorem bl_X11_readsSum_b27 {rc : Nat → St → Option (Int32 × St)} {hr : Nat} (hB : 11 ≤ hr) (hrc : ∀ {a0 : Nat} (_ : kd a0 = 10) {τ : St} {w : Int32} {τ' : St} (_ : rc a0 τ = some (w, τ')), Ct G l yX11_readsSum cX11_readsSum 2 (some .boolean) hr [.ref (gz G + a0)] τ (some (.int w)) τ') (X : Cx G p R s m args c cells slots cX11_readsSum 2 RX11 (hr + 3)) {r : Int32} {σ' : St} (hret : R_Z G p l e R s m args below meth c cells slots Q cX11_readsSum r σ') {k9 : Nat → St → (Option (Int32 × St))}
    (hk9 : ∀ (v0 : Nat) (h0 : kd v0 = 10) (σ : St) (_ : k9 v0 σ = some (r, σ')) (H : Heap) (locs : List Loc) (ls : Array Slot) (_ : GW G σ s H locs) (_ : lv_has ls 2 [(0, .ref (gz G + (v0)))]), W p l e R s m args below meth c H locs cells slots Q (F0 m 9 ls [])) :
    ∀ (v0 : Nat) (h0 : kd v0 = 10) (σ : St) (_ : pf_X11_readsSum_b27 rc k9 v0 σ = some (r, σ')) (H : Heap) (locs : List Loc) (ls : Array Slot) (_ : GW G σ s H locs) (_ : lv_has ls 2 [(0, .ref (gz G + (v0)))]), W p l e R s m args below meth c H locs cells slots Q (F0 m 27 ls []) := by
  have hx := X.1.1
  have hb := X.1.2.1
  intro v0 h0 σ h H locs ls hW hl
  unfold pf_X11_readsSum_b27 at h
  refine lv_aload_n hx hb dX11_readsSum_27 rfl (lv_at hl 0 rfl) ?_
  obtain ⟨r_1, σ_1, hcl, h⟩ := bnd2_el h
  refine call_V1 X hW (kC_X11 h0) m_6_125 m_6_127 m_0_42 mv_X11_here (c_X11_here h0 hcl) (by omega) rfl rfl (Nat.le_of_ble_eq_true rfl) hl.1 dX11_readsSum_28 ?_
  clear hW hcl; intro H locs hW
  refine lv_bipush (v := 43) hx hb dX11_readsSum_31 (by decide) ?_
  refine lv_icmp_ne (tgt := 40) hx hb dX11_readsSum_33 (by decide) (fun hc => ?_) (fun hc => ?_)
  · replace h := if_f hc h
    refine lv_iconst (v := 3) hx hb dX11_readsSum_40 (by decide) ?_
    exact bl_X11_readsSum_b41 hB hrc X hret hk9 v0 h0 3 σ_1 h _ _ _ hW (lv_sub hl [0] rfl)
  · replace h := if_t hc h
    refine lv_iconst (v := 2) hx hb dX11_readsSum_36 (by decide) ?_
    refine lv_goto (tgt := 41) hx hb dX11_readsSum_37 (by decide) ?_
    exact bl_X11_readsSum_b41 hB hrc X hret hk9 v0 h0 2 σ_1 h _ _ _ hW (lv_sub hl [0] rfl)
set_option maxRecDepth 20000 in
set_option maxHeartbeats 4000000 in
theorem bl_X11_readsSum_L9 {rc : Nat → St → Option (Int32 × St)} {hr : Nat} (hB : 11 ≤ hr) (hrc : ∀ {a0 : Nat} (_ : kd a0 = 10) {τ : St} {w : Int32} {τ' : St} (_ : rc a0 τ = some (w, τ')), Ct G l yX11_readsSum cX11_readsSum 2 (some .boolean) hr [.ref (gz G + a0)] τ (some (.int w)) τ') (X : Cx G p R s m args c cells slots cX11_readsSum 2 RX11 (hr + 3)) {r : Int32} {σ' : St} (hret : R_Z G p l e R s m args below meth c cells slots Q cX11_readsSum r σ') :
    ∀ (n : Nat), ∀ (v0 : Nat) (h0 : kd v0 = 10) (σ : St) (_ : pf_X11_readsSum_L9 rc n v0 σ = some (r, σ')) (H : Heap) (locs : List Loc) (ls : Array Slot) (_ : GW G σ s H locs) (_ : lv_has ls 2 [(0, .ref (gz G + (v0)))]), W p l e R s m args below meth c H locs cells slots Q (F0 m 9 ls []) := by
  have hx := X.1.1
  have hb := X.1.2.1
  intro n
  induction n with
  | zero => intro v0 h0 σ h H locs ls hW hl; cases h
  | succ n ih =>
    intro v0 h0 σ h H locs ls hW hl
    rw [pf_X11_readsSum_L9.eq_2] at h
    refine lv_aload_n hx hb dX11_readsSum_9 rfl (lv_at hl 0 rfl) ?_
    obtain ⟨r_1, σ_1, hcl, h⟩ := bnd2_el h
    refine call_V1 X hW (kC_X11 h0) m_6_125 m_6_127 m_0_42 mv_X11_here (c_X11_here h0 hcl) (by omega) rfl rfl (Nat.le_of_ble_eq_true rfl) hl.1 dX11_readsSum_10 ?_
    clear hW hcl; intro H locs hW
    refine lv_bipush (v := 43) hx hb dX11_readsSum_13 (by decide) ?_
    refine lv_icmp_eq (tgt := 27) hx hb dX11_readsSum_15 (by decide) (fun hc => ?_) (fun hc => ?_)
    · replace h := if_t hc h
      exact bl_X11_readsSum_b27 hB hrc X hret ih v0 h0 σ_1 h _ _ _ hW (lv_sub hl [0] rfl)
    · replace h := if_f hc h
      refine lv_aload_n hx hb dX11_readsSum_18 rfl (lv_at hl 0 rfl) ?_
      obtain ⟨r_2, σ_2, hcl, h⟩ := bnd2_el h
      refine call_V1 X hW (kC_X11 h0) m_6_125 m_6_127 m_0_42 mv_X11_here (c_X11_here h0 hcl) (by omega) rfl rfl (Nat.le_of_ble_eq_true rfl) hl.1 dX11_readsSum_19 ?_
      clear hW hcl; intro H locs hW
      refine lv_bipush (v := 45) hx hb dX11_readsSum_22 (by decide) ?_
      refine lv_icmp_ne (tgt := 70) hx hb dX11_readsSum_24 (by decide) (fun hc => ?_) (fun hc => ?_)
      · replace h := if_f hc h
        refine lv_iconst (v := 1) hx hb dX11_readsSum_70 (by decide) ?_
        exact rz_end hret h (by decide) dX11_readsSum_71 hW
      · replace h := if_t hc h
        exact bl_X11_readsSum_b27 hB hrc X hret ih v0 h0 σ_2 h _ _ _ hW (lv_sub hl [0] rfl)
set_option maxRecDepth 20000 in
set_option maxHeartbeats 4000000 in
theorem c_X11_readsSum_B {G : Gt} {l : Launch} {rc : Nat → St → Option (Int32 × St)} {hr : Nat} (hB : 11 ≤ hr) (hrc : ∀ {a0 : Nat} (_ : kd a0 = 10) {τ : St} {w : Int32} {τ' : St} (_ : rc a0 τ = some (w, τ')), Ct G l yX11_readsSum cX11_readsSum 2 (some .boolean) hr [.ref (gz G + a0)] τ (some (.int w)) τ') {v0 : Nat} (h0 : kd v0 = 10) {σ : St} {r : Int32} {σ' : St} (hf : pf_X11_readsSum_B rc v0 σ = some (r, σ')) : Ct G l yX11_readsSum cX11_readsSum 2 (some .boolean) (hr + 3) [.ref (gz G + (v0))] σ (some (.int r)) σ' := by
  refine met_z (by decide +kernel) (Nat.le_of_ble_eq_true rfl) rfl ?_
  intro p e s m args below meth c Q ls X hW hret hl
  have hx := X.1.1
  have hb := X.1.2.1
  have hl : lv_has ls 2 [(0, .ref (gz G + (v0)))] := hl
  have h := hf
  clear hf
  unfold pf_X11_readsSum_B at h
  refine lv_aload_n hx hb dX11_readsSum_0 rfl (lv_at hl 0 rfl) ?_
  obtain ⟨r_1, σ_1, hcl, h⟩ := bnd2_el h
  refine call_V1 X hW (kC_X11 h0) m_6_232 m_6_234 m_0_63 mv_X11_readsTerm (c_X11_readsTerm hB hrc h0 hcl) (by omega) rfl rfl (Nat.le_of_ble_eq_true rfl) hl.1 dX11_readsSum_1 ?_
  clear hW hcl; intro H locs hW
  refine lv_if_ne (tgt := 9) hx hb dX11_readsSum_4 (by decide) (fun hc => ?_) (fun hc => ?_)
  · replace h := if_f hc h
    exact bl_X11_readsSum_L9 hB hrc X hret FU v0 h0 σ_1 h _ _ _ hW (lv_sub hl [0] rfl)
  · replace h := if_t hc h
    refine lv_iconst (v := 0) hx hb dX11_readsSum_7 (by decide) ?_
    exact rz_end hret h (by decide) dX11_readsSum_8 hW
theorem c_X11_readsSum {G : Gt} {l : Launch} : ∀ (d : Nat) {v0 : Nat} (h0 : kd v0 = 10) {σ : St} {r : Int32} {σ' : St} (_ : pf_X11_readsSum d v0 σ = some (r, σ')), Ct G l yX11_readsSum cX11_readsSum 2 (some .boolean) (hRec 11 3 d) [.ref (gz G + (v0))] σ (some (.int r)) σ' := by
  intro d
  induction d with
  | zero => intro v0 h0 σ r σ' hf; cases hf
  | succ d ih =>
    intro v0 h0 σ r σ' hf
    exact c_X11_readsSum_B (hr := hRec 11 3 d) (hRec_le _ _ _) ih h0 hf
set_option maxRecDepth 20000 in
set_option maxHeartbeats 4000000 in
theorem c_X11_goals {G : Gt} {l : Launch} {v0 : Nat} (h0 : kd v0 = 10) {v1 : Int32} {v2 : Int32} {σ : St} {σ' : St} (hf : pf_X11_goals v0 v1 v2 σ = some σ') : Ct G l yX11_goals cX11_goals 4 none 2 [.ref (gz G + (v0)), .int (v1), .int (v2)] σ none σ' := by
  refine met_v (by decide +kernel) (Nat.le_of_ble_eq_true rfl) rfl ?_
  intro p e s m args below meth c Q ls X hW hret hl
  have hx := X.1.1
  have hb := X.1.2.1
  have hl : lv_has ls 4 [(0, .ref (gz G + (v0))), (1, .int (v1)), (2, .int (v2))] := hl
  have h := hf
  clear hf
  unfold pf_X11_goals at h
  refine lv_sipush (v := 2769) hx hb dX11_goals_0 (by decide) ?_
  refine lv_iconst (v := 2) hx hb dX11_goals_3 (by decide) ?_
  refine lv_aload_n hx hb dX11_goals_4 rfl (lv_at hl 0 rfl) ?_
  refine gf_X11_read X hW h0 m_6_8 dX11_goals_5 ?_
  refine lv_iconst (v := 4) hx hb dX11_goals_8 (by decide) ?_
  obtain ⟨hi1, h⟩ := ckI_el h
  refine r_iald X hW (kf_X11_read h0) hi1 dX11_goals_9 ?_
  refine lv_imul hx hb dX11_goals_10 ?_
  refine lv_iadd hx hb dX11_goals_11 ?_
  refine nm_i h ?_
  clear h; intro v3_2 h
  refine lv_istore_n (lv' := [(3, .int (v3_2)), (0, .ref (gz G + (v0))), (1, .int (v1)), (2, .int (v2))]) hx hb dX11_goals_12 rfl hl (by decide) rfl ?_
  clear hl; intro ls hl
  refine lv_aload_n hx hb dX11_goals_13 rfl (lv_at hl 1 rfl) ?_
  refine gf_X11_read X hW h0 m_6_8 dX11_goals_14 ?_
  refine lv_iload_n hx hb dX11_goals_17 rfl (lv_at hl 0 rfl) ?_
  refine lv_iload_n hx hb dX11_goals_18 rfl (lv_at hl 2 rfl) ?_
  obtain ⟨hi3, h⟩ := ckI_el h
  refine r_iast X hW (kf_X11_read h0) hi3 dX11_goals_19 ?_
  clear hW; intro H locs hW
  refine nm_s hW h ?_
  clear hW h; intro σ_4 hW h
  refine lv_aload_n hx hb dX11_goals_20 rfl (lv_at hl 1 rfl) ?_
  refine gf_X11_read X hW h0 m_6_8 dX11_goals_21 ?_
  refine lv_iload_n hx hb dX11_goals_24 rfl (lv_at hl 0 rfl) ?_
  refine lv_iconst (v := 1) hx hb dX11_goals_25 (by decide) ?_
  refine lv_iadd hx hb dX11_goals_26 ?_
  refine lv_iload_n hx hb dX11_goals_27 rfl (lv_at hl 3 rfl) ?_
  obtain ⟨hi5, h⟩ := ckI_el h
  refine r_iast X hW (kf_X11_read h0) hi5 dX11_goals_28 ?_
  clear hW; intro H locs hW
  refine nm_s hW h ?_
  clear hW h; intro σ_6 hW h
  refine lv_aload_n hx hb dX11_goals_29 rfl (lv_at hl 1 rfl) ?_
  refine gf_X11_read X hW h0 m_6_8 dX11_goals_30 ?_
  refine lv_iconst (v := 4) hx hb dX11_goals_33 (by decide) ?_
  refine lv_dup2_11 hx hb dX11_goals_34 rfl rfl ?_
  obtain ⟨hi7, h⟩ := ckI_el h
  refine r_iald X hW (kf_X11_read h0) hi7 dX11_goals_35 ?_
  refine lv_iconst (v := 1) hx hb dX11_goals_36 (by decide) ?_
  refine lv_iadd hx hb dX11_goals_37 ?_
  obtain ⟨hi8, h⟩ := ckI_el h
  refine r_iast X hW (kf_X11_read h0) hi8 dX11_goals_38 ?_
  clear hW; intro H locs hW
  refine nm_s hW h ?_
  clear hW h; intro σ_9 hW h
  exact rv_end hret h dX11_goals_39 hW
set_option maxRecDepth 20000 in
set_option maxHeartbeats 4000000 in
theorem bl_X11_readsSeveral_b46 {rc : Nat → St → Option (Int32 × St)} {hr : Nat} (hB : 10 ≤ hr) (hrc : ∀ {a0 : Nat} (_ : kd a0 = 10) {τ : St} {w : Int32} {τ' : St} (_ : rc a0 τ = some (w, τ')), Ct G l yX11_readsGoal cX11_readsGoal 1 (some .boolean) hr [.ref (gz G + a0)] τ (some (.int w)) τ') (X : Cx G p R s m args c cells slots cX11_readsSeveral 3 RX11 (hr + 1)) {r : Int32} {σ' : St} (hret : R_Z G p l e R s m args below meth c cells slots Q cX11_readsSeveral r σ') :
    ∀ (v0 : Nat) (h0 : kd v0 = 10) (v1 : Int32) (v2 : Int32) (σ : St) (_ : pf_X11_readsSeveral_b46 rc v0 v1 v2 σ = some (r, σ')) (H : Heap) (locs : List Loc) (ls : Array Slot) (_ : GW G σ s H locs) (_ : lv_has ls 3 [(0, .ref (gz G + (v0))), (1, .int (v1)), (2, .int (v2))]), W p l e R s m args below meth c H locs cells slots Q (F0 m 46 ls []) := by
  have hx := X.1.1
  have hb := X.1.2.1
  intro v0 h0 v1 v2 σ h H locs ls hW hl
  unfold pf_X11_readsSeveral_b46 at h
  refine lv_aload_n hx hb dX11_readsSeveral_46 rfl (lv_at hl 0 rfl) ?_
  refine lv_iconst (v := 3) hx hb dX11_readsSeveral_47 (by decide) ?_
  refine lv_sipush (v := 1000) hx hb dX11_readsSeveral_48 (by decide) ?_
  refine lv_iload_n hx hb dX11_readsSeveral_51 rfl (lv_at hl 1 rfl) ?_
  refine lv_imul hx hb dX11_readsSeveral_52 ?_
  refine lv_iload_n hx hb dX11_readsSeveral_53 rfl (lv_at hl 2 rfl) ?_
  refine lv_iadd hx hb dX11_readsSeveral_54 ?_
  obtain ⟨σ_1, hcl, h⟩ := bind_el h
  refine call_V0 X hW (kC_X11 h0) m_6_216 m_6_218 m_0_60 mv_X11_goals (c_X11_goals h0 hcl) (by omega) rfl rfl (Nat.le_of_ble_eq_true rfl) hl.1 dX11_readsSeveral_55 ?_
  clear hW hcl; intro H locs hW
  refine lv_aload_n hx hb dX11_readsSeveral_58 rfl (lv_at hl 0 rfl) ?_
  obtain ⟨r_2, σ_2, hcl, h⟩ := bnd2_el h
  refine call_V1 X hW (kC_X11 h0) m_6_207 m_6_209 m_0_58 mv_X11_closes (c_X11_closes h0 hcl) (by omega) rfl rfl (Nat.le_of_ble_eq_true rfl) hl.1 dX11_readsSeveral_59 ?_
  clear hW hcl; intro H locs hW
  obtain ⟨hz, h⟩ := ckZ_el h
  exact rz_end hret h hz dX11_readsSeveral_62 hW
set_option maxRecDepth 20000 in
set_option maxHeartbeats 4000000 in
theorem bl_X11_readsSeveral_b25 {rc : Nat → St → Option (Int32 × St)} {hr : Nat} (hB : 10 ≤ hr) (hrc : ∀ {a0 : Nat} (_ : kd a0 = 10) {τ : St} {w : Int32} {τ' : St} (_ : rc a0 τ = some (w, τ')), Ct G l yX11_readsGoal cX11_readsGoal 1 (some .boolean) hr [.ref (gz G + a0)] τ (some (.int w)) τ') (X : Cx G p R s m args c cells slots cX11_readsSeveral 3 RX11 (hr + 1)) {r : Int32} {σ' : St} (hret : R_Z G p l e R s m args below meth c cells slots Q cX11_readsSeveral r σ') {k11 : Nat → Int32 → Int32 → St → (Option (Int32 × St))} {k46 : Nat → Int32 → Int32 → St → (Option (Int32 × St))}
    (hk11 : ∀ (v0 : Nat) (h0 : kd v0 = 10) (v1 : Int32) (v2 : Int32) (σ : St) (_ : k11 v0 v1 v2 σ = some (r, σ')) (H : Heap) (locs : List Loc) (ls : Array Slot) (_ : GW G σ s H locs) (_ : lv_has ls 3 [(0, .ref (gz G + (v0))), (1, .int (v1)), (2, .int (v2))]), W p l e R s m args below meth c H locs cells slots Q (F0 m 11 ls []))
    (hk46 : ∀ (v0 : Nat) (h0 : kd v0 = 10) (v1 : Int32) (v2 : Int32) (σ : St) (_ : k46 v0 v1 v2 σ = some (r, σ')) (H : Heap) (locs : List Loc) (ls : Array Slot) (_ : GW G σ s H locs) (_ : lv_has ls 3 [(0, .ref (gz G + (v0))), (1, .int (v1)), (2, .int (v2))]), W p l e R s m args below meth c H locs cells slots Q (F0 m 46 ls [])) :
    ∀ (v0 : Nat) (h0 : kd v0 = 10) (v1 : Int32) (v2 : Int32) (σ : St) (_ : pf_X11_readsSeveral_b25 rc k11 k46 v0 v1 v2 σ = some (r, σ')) (H : Heap) (locs : List Loc) (ls : Array Slot) (_ : GW G σ s H locs) (_ : lv_has ls 3 [(0, .ref (gz G + (v0))), (1, .int (v1)), (2, .int (v2))]), W p l e R s m args below meth c H locs cells slots Q (F0 m 25 ls []) := by
  have hx := X.1.1
  have hb := X.1.2.1
  intro v0 h0 v1 v2 σ h H locs ls hW hl
  unfold pf_X11_readsSeveral_b25 at h
  refine lv_aload_n hx hb dX11_readsSeveral_25 rfl (lv_at hl 0 rfl) ?_
  obtain ⟨r_1, σ_1, hcl, h⟩ := bnd2_el h
  refine call_V1 X hW (kC_X11 h0) m_6_191 m_6_193 m_0_54 mv_X11_readsGoal (hrc h0 hcl) (by omega) rfl rfl (Nat.le_of_ble_eq_true rfl) hl.1 dX11_readsSeveral_26 ?_
  clear hW hcl; intro H locs hW
  refine lv_if_ne (tgt := 34) hx hb dX11_readsSeveral_29 (by decide) (fun hc => ?_) (fun hc => ?_)
  · replace h := if_f hc h
    refine w_iinc (v := 1) (lv' := fun y => [(2, .int (y)), (0, .ref (gz G + (v0))), (1, .int (v1))]) hx hb dX11_readsSeveral_34 hl (k := 2) rfl (by decide) (by decide) (fun _ => rfl) h ?_
    clear h hl; intro v2_2 h ls hl
    refine lv_aload_n hx hb dX11_readsSeveral_37 rfl (lv_at hl 1 rfl) ?_
    obtain ⟨r_3, σ_3, hcl, h⟩ := bnd2_el h
    refine call_V1 X hW (kC_X11 h0) m_6_125 m_6_127 m_0_42 mv_X11_here (c_X11_here h0 hcl) (by omega) rfl rfl (Nat.le_of_ble_eq_true rfl) hl.1 dX11_readsSeveral_38 ?_
    clear hW hcl; intro H locs hW
    refine lv_bipush (v := 44) hx hb dX11_readsSeveral_41 (by decide) ?_
    refine lv_icmp_eq (tgt := 11) hx hb dX11_readsSeveral_43 (by decide) (fun hc => ?_) (fun hc => ?_)
    · replace h := if_t hc h
      exact hk11 v0 h0 v1 v2_2 σ_3 h _ _ _ hW (lv_sub hl [1, 2, 0] rfl)
    · replace h := if_f hc h
      exact hk46 v0 h0 v1 v2_2 σ_3 h _ _ _ hW (lv_sub hl [1, 2, 0] rfl)
  · replace h := if_t hc h
    refine lv_iconst (v := 0) hx hb dX11_readsSeveral_32 (by decide) ?_
    exact rz_end hret h (by decide) dX11_readsSeveral_33 hW
set_option maxRecDepth 20000 in
set_option maxHeartbeats 4000000 in
theorem bl_X11_readsSeveral_L11 {rc : Nat → St → Option (Int32 × St)} {hr : Nat} (hB : 10 ≤ hr) (hrc : ∀ {a0 : Nat} (_ : kd a0 = 10) {τ : St} {w : Int32} {τ' : St} (_ : rc a0 τ = some (w, τ')), Ct G l yX11_readsGoal cX11_readsGoal 1 (some .boolean) hr [.ref (gz G + a0)] τ (some (.int w)) τ') (X : Cx G p R s m args c cells slots cX11_readsSeveral 3 RX11 (hr + 1)) {r : Int32} {σ' : St} (hret : R_Z G p l e R s m args below meth c cells slots Q cX11_readsSeveral r σ') {k46 : Nat → Int32 → Int32 → St → (Option (Int32 × St))}
    (hk46 : ∀ (v0 : Nat) (h0 : kd v0 = 10) (v1 : Int32) (v2 : Int32) (σ : St) (_ : k46 v0 v1 v2 σ = some (r, σ')) (H : Heap) (locs : List Loc) (ls : Array Slot) (_ : GW G σ s H locs) (_ : lv_has ls 3 [(0, .ref (gz G + (v0))), (1, .int (v1)), (2, .int (v2))]), W p l e R s m args below meth c H locs cells slots Q (F0 m 46 ls [])) :
    ∀ (n : Nat), ∀ (v0 : Nat) (h0 : kd v0 = 10) (v1 : Int32) (v2 : Int32) (σ : St) (_ : pf_X11_readsSeveral_L11 rc k46 n v0 v1 v2 σ = some (r, σ')) (H : Heap) (locs : List Loc) (ls : Array Slot) (_ : GW G σ s H locs) (_ : lv_has ls 3 [(0, .ref (gz G + (v0))), (1, .int (v1)), (2, .int (v2))]), W p l e R s m args below meth c H locs cells slots Q (F0 m 11 ls []) := by
  have hx := X.1.1
  have hb := X.1.2.1
  intro n
  induction n with
  | zero => intro v0 h0 v1 v2 σ h H locs ls hW hl; cases h
  | succ n ih =>
    intro v0 h0 v1 v2 σ h H locs ls hW hl
    rw [pf_X11_readsSeveral_L11.eq_2] at h
    refine lv_iload_n hx hb dX11_readsSeveral_11 rfl (lv_at hl 2 rfl) ?_
    refine lv_if_le (tgt := 25) hx hb dX11_readsSeveral_12 (by decide) (fun hc => ?_) (fun hc => ?_)
    · replace h := if_t hc h
      exact bl_X11_readsSeveral_b25 hB hrc X hret ih hk46 v0 h0 v1 v2 σ h _ _ _ hW (lv_sub hl [0, 1, 2] rfl)
    · replace h := if_f hc h
      refine lv_aload_n hx hb dX11_readsSeveral_15 rfl (lv_at hl 0 rfl) ?_
      refine lv_dup hx hb dX11_readsSeveral_16 rfl ?_
      refine gf_X11_at X hW h0 m_6_22 dX11_readsSeveral_17 ?_
      refine lv_iconst (v := 1) hx hb dX11_readsSeveral_20 (by decide) ?_
      refine lv_iadd hx hb dX11_readsSeveral_21 ?_
      refine sf_X11_at X hW h0 m_6_22 dX11_readsSeveral_22 ?_
      clear hW; intro H locs hW
      refine nm_s hW h ?_
      clear hW h; intro σ_1 hW h
      exact bl_X11_readsSeveral_b25 hB hrc X hret ih hk46 v0 h0 v1 v2 σ_1 h _ _ _ hW (lv_sub hl [0, 1, 2] rfl)
set_option maxRecDepth 20000 in
set_option maxHeartbeats 4000000 in
theorem c_X11_readsSeveral {G : Gt} {l : Launch} {rc : Nat → St → Option (Int32 × St)} {hr : Nat} (hB : 10 ≤ hr) (hrc : ∀ {a0 : Nat} (_ : kd a0 = 10) {τ : St} {w : Int32} {τ' : St} (_ : rc a0 τ = some (w, τ')), Ct G l yX11_readsGoal cX11_readsGoal 1 (some .boolean) hr [.ref (gz G + a0)] τ (some (.int w)) τ') {v0 : Nat} (h0 : kd v0 = 10) {v1 : Int32} {σ : St} {r : Int32} {σ' : St} (hf : pf_X11_readsSeveral rc v0 v1 σ = some (r, σ')) : Ct G l yX11_readsSeveral cX11_readsSeveral 3 (some .boolean) (hr + 1) [.ref (gz G + (v0)), .int (v1)] σ (some (.int r)) σ' := by
  refine met_z (by decide +kernel) (Nat.le_of_ble_eq_true rfl) rfl ?_
  intro p e s m args below meth c Q ls X hW hret hl
  have hx := X.1.1
  have hb := X.1.2.1
  have hl : lv_has ls 3 [(0, .ref (gz G + (v0))), (1, .int (v1))] := hl
  have h := hf
  clear hf
  unfold pf_X11_readsSeveral at h
  refine lv_iconst (v := 0) hx hb dX11_readsSeveral_0 (by decide) ?_
  refine lv_istore_n (lv' := [(2, .int (0)), (0, .ref (gz G + (v0))), (1, .int (v1))]) hx hb dX11_readsSeveral_1 rfl hl (by decide) rfl ?_
  clear hl; intro ls hl
  refine lv_aload_n hx hb dX11_readsSeveral_2 rfl (lv_at hl 1 rfl) ?_
  obtain ⟨r_1, σ_1, hcl, h⟩ := bnd2_el h
  refine call_V1 X hW (kC_X11 h0) m_6_203 m_6_205 m_0_57 mv_X11_opens (c_X11_opens h0 hcl) (by omega) rfl rfl (Nat.le_of_ble_eq_true rfl) hl.1 dX11_readsSeveral_3 ?_
  clear hW hcl; intro H locs hW
  refine lv_if_ne (tgt := 11) hx hb dX11_readsSeveral_6 (by decide) (fun hc => ?_) (fun hc => ?_)
  · replace h := if_f hc h
    exact bl_X11_readsSeveral_L11 hB hrc X hret (bl_X11_readsSeveral_b46 hB hrc X hret) FU v0 h0 v1 0 σ_1 h _ _ _ hW (lv_sub hl [1, 2, 0] rfl)
  · replace h := if_t hc h
    refine lv_iconst (v := 0) hx hb dX11_readsSeveral_9 (by decide) ?_
    exact rz_end hret h (by decide) dX11_readsSeveral_10 hW
set_option maxRecDepth 20000 in
set_option maxHeartbeats 4000000 in
theorem c_X11_readsSingle {G : Gt} {l : Launch} {rc : Nat → St → Option (Int32 × St)} {hr : Nat} (hB : 10 ≤ hr) (hrc : ∀ {a0 : Nat} (_ : kd a0 = 10) {τ : St} {w : Int32} {τ' : St} (_ : rc a0 τ = some (w, τ')), Ct G l yX11_readsGoal cX11_readsGoal 1 (some .boolean) hr [.ref (gz G + a0)] τ (some (.int w)) τ') {v0 : Nat} (h0 : kd v0 = 10) {σ : St} {r : Int32} {σ' : St} (hf : pf_X11_readsSingle rc v0 σ = some (r, σ')) : Ct G l yX11_readsSingle cX11_readsSingle 3 (some .boolean) (hr + 2) [.ref (gz G + (v0))] σ (some (.int r)) σ' := by
  refine met_z (by decide +kernel) (Nat.le_of_ble_eq_true rfl) rfl ?_
  intro p e s m args below meth c Q ls X hW hret hl
  have hx := X.1.1
  have hb := X.1.2.1
  have hl : lv_has ls 3 [(0, .ref (gz G + (v0)))] := hl
  have h := hf
  clear hf
  unfold pf_X11_readsSingle at h
  refine lv_aload_n hx hb dX11_readsSingle_0 rfl (lv_at hl 0 rfl) ?_
  obtain ⟨r_1, σ_1, hcl, h⟩ := bnd2_el h
  refine call_V1 X hW (kC_X11 h0) m_6_125 m_6_127 m_0_42 mv_X11_here (c_X11_here h0 hcl) (by omega) rfl rfl (Nat.le_of_ble_eq_true rfl) hl.1 dX11_readsSingle_1 ?_
  clear hW hcl; intro H locs hW
  refine lv_bipush (v := 40) hx hb dX11_readsSingle_4 (by decide) ?_
  refine lv_icmp_ne (tgt := 36) hx hb dX11_readsSingle_6 (by decide) (fun hc => ?_) (fun hc => ?_)
  · replace h := if_f hc h
    refine lv_aload_n hx hb dX11_readsSingle_36 rfl (lv_at hl 0 rfl) ?_
    obtain ⟨r_5, σ_5, hcl, h⟩ := bnd2_el h
    refine call_V1 X hW (kC_X11 h0) m_6_151 m_6_153 m_0_47 mv_X11_digits (c_X11_digits h0 hcl) (by omega) rfl rfl (Nat.le_of_ble_eq_true rfl) hl.1 dX11_readsSingle_37 ?_
    clear hW hcl; intro H locs hW
    refine lv_if_ne (tgt := 45) hx hb dX11_readsSingle_40 (by decide) (fun hc => ?_) (fun hc => ?_)
    · replace h := if_f hc h
      refine lv_aload_n hx hb dX11_readsSingle_45 rfl (lv_at hl 0 rfl) ?_
      refine gf_X11_number X hW h0 m_6_25 dX11_readsSingle_46 ?_
      refine nm_i h ?_
      clear h; intro v1_6 h
      refine lv_istore_n (lv' := [(1, .int (v1_6)), (0, .ref (gz G + (v0)))]) hx hb dX11_readsSingle_49 rfl hl (by decide) rfl ?_
      clear hl; intro ls hl
      refine lv_aload_n hx hb dX11_readsSingle_50 rfl (lv_at hl 1 rfl) ?_
      refine gf_X11_from X hW h0 m_6_26 dX11_readsSingle_51 ?_
      refine nm_i h ?_
      clear h; intro v2_7 h
      refine lv_istore_n (lv' := [(2, .int (v2_7)), (1, .int (v1_6)), (0, .ref (gz G + (v0)))]) hx hb dX11_readsSingle_54 rfl hl (by decide) rfl ?_
      clear hl; intro ls hl
      refine lv_aload_n hx hb dX11_readsSingle_55 rfl (lv_at hl 2 rfl) ?_
      refine r_ldcS (k := 35) (tx := "") X hW (by decide) rfl rfl dX11_readsSingle_56 ?_
      obtain ⟨r_8, σ_8, hcl, h⟩ := bnd2_el h
      refine call_V1 X hW (kC_X11 h0) m_6_121 m_6_123 m_0_41 mv_X11_takes (c_X11_takes h0 (by decide) hcl) (by omega) rfl rfl (Nat.le_of_ble_eq_true rfl) hl.1 dX11_readsSingle_58 ?_
      clear hW hcl; intro H locs hW
      refine lv_if_eq (tgt := 90) hx hb dX11_readsSingle_61 (by decide) (fun hc => ?_) (fun hc => ?_)
      · replace h := if_t hc h
        refine lv_iload_n hx hb dX11_readsSingle_90 rfl (lv_at hl 1 rfl) ?_
        refine lv_iconst (v := 0) hx hb dX11_readsSingle_91 (by decide) ?_
        refine lv_aload_n hx hb dX11_readsSingle_92 rfl (lv_at hl 2 rfl) ?_
        refine gf_X11_stepsRead X hW h0 m_6_28 dX11_readsSingle_93 ?_
        refine lv_iconst (v := 1) hx hb dX11_readsSingle_96 (by decide) ?_
        refine lv_isub hx hb dX11_readsSingle_97 ?_
        obtain ⟨r_9, hcl, h⟩ := bind_el h
        refine call_S1 X hW m_6_109 m_6_110 mv_X11_isIn (c_X11_isIn hcl) (by omega) rfl rfl (Nat.le_of_ble_eq_true rfl) hl.1 dX11_readsSingle_98 ?_
        clear hW hcl; intro H locs hW
        refine lv_if_ne (tgt := 112) hx hb dX11_readsSingle_101 (by decide) (fun hc => ?_) (fun hc => ?_)
        · replace h := if_f hc h
          refine lv_aload_n hx hb dX11_readsSingle_112 rfl (lv_at hl 2 rfl) ?_
          refine lv_iconst (v := 0) hx hb dX11_readsSingle_113 (by decide) ?_
          refine lv_iload_n hx hb dX11_readsSingle_114 rfl (lv_at hl 1 rfl) ?_
          obtain ⟨σ_11, hcl, h⟩ := bind_el h
          refine call_V0 X hW (kC_X11 h0) m_6_216 m_6_218 m_0_60 mv_X11_goals (c_X11_goals h0 hcl) (by omega) rfl rfl (Nat.le_of_ble_eq_true rfl) hl.1 dX11_readsSingle_115 ?_
          clear hW hcl; intro H locs hW
          refine lv_iconst (v := 1) hx hb dX11_readsSingle_118 (by decide) ?_
          exact rz_end hret h (by decide) dX11_readsSingle_119 hW
        · replace h := if_t hc h
          refine lv_aload_n hx hb dX11_readsSingle_104 rfl (lv_at hl 2 rfl) ?_
          refine lv_bipush (v := (-3)) hx hb dX11_readsSingle_105 (by decide) ?_
          refine lv_iload_n hx hb dX11_readsSingle_107 rfl (lv_at hl 0 rfl) ?_
          obtain ⟨r_10, σ_10, hcl, h⟩ := bnd2_el h
          refine call_V1 X hW (kC_X11 h0) m_6_134 m_6_136 m_0_43 mv_X11_fails (c_X11_fails h0 hcl) (by omega) rfl rfl (Nat.le_of_ble_eq_true rfl) hl.1 dX11_readsSingle_108 ?_
          clear hW hcl; intro H locs hW
          obtain ⟨hz, h⟩ := ckZ_el h
          exact rz_end hret h hz dX11_readsSingle_111 hW
      · replace h := if_f hc h
        refine lv_iload_n hx hb dX11_readsSingle_64 rfl (lv_at hl 1 rfl) ?_
        refine lv_iconst (v := 1) hx hb dX11_readsSingle_65 (by decide) ?_
        refine lv_bipush (v := 6) hx hb dX11_readsSingle_66 (by decide) ?_
        obtain ⟨r_12, hcl, h⟩ := bind_el h
        refine call_S1 X hW m_6_109 m_6_110 mv_X11_isIn (c_X11_isIn hcl) (by omega) rfl rfl (Nat.le_of_ble_eq_true rfl) hl.1 dX11_readsSingle_68 ?_
        clear hW hcl; intro H locs hW
        refine lv_if_eq (tgt := 82) hx hb dX11_readsSingle_71 (by decide) (fun hc => ?_) (fun hc => ?_)
        · replace h := if_t hc h
          refine lv_aload_n hx hb dX11_readsSingle_82 rfl (lv_at hl 2 rfl) ?_
          refine lv_bipush (v := (-3)) hx hb dX11_readsSingle_83 (by decide) ?_
          refine lv_iload_n hx hb dX11_readsSingle_85 rfl (lv_at hl 0 rfl) ?_
          obtain ⟨r_13, σ_13, hcl, h⟩ := bnd2_el h
          refine call_V1 X hW (kC_X11 h0) m_6_134 m_6_136 m_0_43 mv_X11_fails (c_X11_fails h0 hcl) (by omega) rfl rfl (Nat.le_of_ble_eq_true rfl) hl.1 dX11_readsSingle_86 ?_
          clear hW hcl; intro H locs hW
          obtain ⟨hz, h⟩ := ckZ_el h
          exact rz_end hret h hz dX11_readsSingle_89 hW
        · replace h := if_f hc h
          refine lv_aload_n hx hb dX11_readsSingle_74 rfl (lv_at hl 2 rfl) ?_
          refine lv_iload_n hx hb dX11_readsSingle_75 rfl (lv_at hl 1 rfl) ?_
          obtain ⟨r_14, σ_14, hcl, h⟩ := bnd2_el h
          refine call_V1 X hW (kC_X11 h0) m_6_212 m_6_214 m_0_59 mv_X11_readsSeveral (c_X11_readsSeveral hB hrc h0 hcl) (by omega) rfl rfl (Nat.le_of_ble_eq_true rfl) hl.1 dX11_readsSingle_76 ?_
          clear hW hcl; intro H locs hW
          refine lv_goto (tgt := 89) hx hb dX11_readsSingle_79 (by decide) ?_
          obtain ⟨hz, h⟩ := ckZ_el h
          exact rz_end hret h hz dX11_readsSingle_89 hW
    · replace h := if_t hc h
      refine lv_iconst (v := 0) hx hb dX11_readsSingle_43 (by decide) ?_
      exact rz_end hret h (by decide) dX11_readsSingle_44 hW
  · replace h := if_t hc h
    refine lv_aload_n hx hb dX11_readsSingle_9 rfl (lv_at hl 0 rfl) ?_
    obtain ⟨r_2, σ_2, hcl, h⟩ := bnd2_el h
    refine call_V1 X hW (kC_X11 h0) m_6_203 m_6_205 m_0_57 mv_X11_opens (c_X11_opens h0 hcl) (by omega) rfl rfl (Nat.le_of_ble_eq_true rfl) hl.1 dX11_readsSingle_10 ?_
    clear hW hcl; intro H locs hW
    refine lv_if_eq (tgt := 34) hx hb dX11_readsSingle_13 (by decide) (fun hc => ?_) (fun hc => ?_)
    · replace h := if_t hc h
      refine lv_iconst (v := 0) hx hb dX11_readsSingle_34 (by decide) ?_
      exact rz_end hret h (by decide) dX11_readsSingle_35 hW
    · replace h := if_f hc h
      refine lv_aload_n hx hb dX11_readsSingle_16 rfl (lv_at hl 0 rfl) ?_
      obtain ⟨r_3, σ_3, hcl, h⟩ := bnd2_el h
      refine call_V1 X hW (kC_X11 h0) m_6_191 m_6_193 m_0_54 mv_X11_readsGoal (hrc h0 hcl) (by omega) rfl rfl (Nat.le_of_ble_eq_true rfl) hl.1 dX11_readsSingle_17 ?_
      clear hW hcl; intro H locs hW
      refine lv_if_eq (tgt := 34) hx hb dX11_readsSingle_20 (by decide) (fun hc => ?_) (fun hc => ?_)
      · replace h := if_t hc h
        refine lv_iconst (v := 0) hx hb dX11_readsSingle_34 (by decide) ?_
        exact rz_end hret h (by decide) dX11_readsSingle_35 hW
      · replace h := if_f hc h
        refine lv_aload_n hx hb dX11_readsSingle_23 rfl (lv_at hl 0 rfl) ?_
        obtain ⟨r_4, σ_4, hcl, h⟩ := bnd2_el h
        refine call_V1 X hW (kC_X11 h0) m_6_207 m_6_209 m_0_58 mv_X11_closes (c_X11_closes h0 hcl) (by omega) rfl rfl (Nat.le_of_ble_eq_true rfl) hl.1 dX11_readsSingle_24 ?_
        clear hW hcl; intro H locs hW
        refine lv_if_eq (tgt := 34) hx hb dX11_readsSingle_27 (by decide) (fun hc => ?_) (fun hc => ?_)
        · replace h := if_t hc h
          refine lv_iconst (v := 0) hx hb dX11_readsSingle_34 (by decide) ?_
          exact rz_end hret h (by decide) dX11_readsSingle_35 hW
        · replace h := if_f hc h
          refine lv_iconst (v := 1) hx hb dX11_readsSingle_30 (by decide) ?_
          refine lv_goto (tgt := 35) hx hb dX11_readsSingle_31 (by decide) ?_
          exact rz_end hret h (by decide) dX11_readsSingle_35 hW
set_option maxRecDepth 20000 in
set_option maxHeartbeats 4000000 in
theorem bl_X11_readsAll_L9 {rc : Nat → St → Option (Int32 × St)} {hr : Nat} (hB : 10 ≤ hr) (hrc : ∀ {a0 : Nat} (_ : kd a0 = 10) {τ : St} {w : Int32} {τ' : St} (_ : rc a0 τ = some (w, τ')), Ct G l yX11_readsGoal cX11_readsGoal 1 (some .boolean) hr [.ref (gz G + a0)] τ (some (.int w)) τ') (X : Cx G p R s m args c cells slots cX11_readsAll 1 RX11 (hr + 3)) {r : Int32} {σ' : St} (hret : R_Z G p l e R s m args below meth c cells slots Q cX11_readsAll r σ') :
    ∀ (n : Nat), ∀ (v0 : Nat) (h0 : kd v0 = 10) (σ : St) (_ : pf_X11_readsAll_L9 rc n v0 σ = some (r, σ')) (H : Heap) (locs : List Loc) (ls : Array Slot) (_ : GW G σ s H locs) (_ : lv_has ls 1 [(0, .ref (gz G + (v0)))]), W p l e R s m args below meth c H locs cells slots Q (F0 m 9 ls []) := by
  have hx := X.1.1
  have hb := X.1.2.1
  intro n
  induction n with
  | zero => intro v0 h0 σ h H locs ls hW hl; cases h
  | succ n ih =>
    intro v0 h0 σ h H locs ls hW hl
    rw [pf_X11_readsAll_L9.eq_2] at h
    refine lv_aload_n hx hb dX11_readsAll_9 rfl (lv_at hl 0 rfl) ?_
    refine r_ldcSW (k := 36) X hW (by decide) rfl rfl dX11_readsAll_10 ?_
    obtain ⟨r_1, σ_1, hcl, h⟩ := bnd2_el h
    refine call_V1 X hW (kC_X11 h0) m_6_121 m_6_123 m_0_41 mv_X11_takes (c_X11_takes h0 (by decide) hcl) (by omega) rfl rfl (Nat.le_of_ble_eq_true rfl) hl.1 dX11_readsAll_13 ?_
    clear hW hcl; intro H locs hW
    refine lv_if_eq (tgt := 37) hx hb dX11_readsAll_16 (by decide) (fun hc => ?_) (fun hc => ?_)
    · replace h := if_t hc h
      refine lv_iconst (v := 1) hx hb dX11_readsAll_37 (by decide) ?_
      exact rz_end hret h (by decide) dX11_readsAll_38 hW
    · replace h := if_f hc h
      refine lv_aload_n hx hb dX11_readsAll_19 rfl (lv_at hl 0 rfl) ?_
      obtain ⟨r_2, σ_2, hcl, h⟩ := bnd2_el h
      refine call_V1 X hW (kC_X11 h0) m_6_199 m_6_201 m_0_56 mv_X11_readsSingle (c_X11_readsSingle hB hrc h0 hcl) (by omega) rfl rfl (Nat.le_of_ble_eq_true rfl) hl.1 dX11_readsAll_20 ?_
      clear hW hcl; intro H locs hW
      refine lv_if_ne (tgt := 28) hx hb dX11_readsAll_23 (by decide) (fun hc => ?_) (fun hc => ?_)
      · replace h := if_f hc h
        refine lv_aload_n hx hb dX11_readsAll_28 rfl (lv_at hl 0 rfl) ?_
        refine lv_iconst (v := 1) hx hb dX11_readsAll_29 (by decide) ?_
        refine lv_iconst (v := 0) hx hb dX11_readsAll_30 (by decide) ?_
        obtain ⟨σ_3, hcl, h⟩ := bind_el h
        refine call_V0 X hW (kC_X11 h0) m_6_216 m_6_218 m_0_60 mv_X11_goals (c_X11_goals h0 hcl) (by omega) rfl rfl (Nat.le_of_ble_eq_true rfl) hl.1 dX11_readsAll_31 ?_
        clear hW hcl; intro H locs hW
        refine lv_goto (tgt := 9) hx hb dX11_readsAll_34 (by decide) ?_
        exact ih v0 h0 σ_3 h _ _ _ hW (lv_sub hl [0] rfl)
      · replace h := if_t hc h
        refine lv_iconst (v := 0) hx hb dX11_readsAll_26 (by decide) ?_
        exact rz_end hret h (by decide) dX11_readsAll_27 hW
set_option maxRecDepth 20000 in
set_option maxHeartbeats 4000000 in
theorem c_X11_readsAll {G : Gt} {l : Launch} {rc : Nat → St → Option (Int32 × St)} {hr : Nat} (hB : 10 ≤ hr) (hrc : ∀ {a0 : Nat} (_ : kd a0 = 10) {τ : St} {w : Int32} {τ' : St} (_ : rc a0 τ = some (w, τ')), Ct G l yX11_readsGoal cX11_readsGoal 1 (some .boolean) hr [.ref (gz G + a0)] τ (some (.int w)) τ') {v0 : Nat} (h0 : kd v0 = 10) {σ : St} {r : Int32} {σ' : St} (hf : pf_X11_readsAll rc v0 σ = some (r, σ')) : Ct G l yX11_readsAll cX11_readsAll 1 (some .boolean) (hr + 3) [.ref (gz G + (v0))] σ (some (.int r)) σ' := by
  refine met_z (by decide +kernel) (Nat.le_of_ble_eq_true rfl) rfl ?_
  intro p e s m args below meth c Q ls X hW hret hl
  have hx := X.1.1
  have hb := X.1.2.1
  have hl : lv_has ls 1 [(0, .ref (gz G + (v0)))] := hl
  have h := hf
  clear hf
  unfold pf_X11_readsAll at h
  refine lv_aload_n hx hb dX11_readsAll_0 rfl (lv_at hl 0 rfl) ?_
  obtain ⟨r_1, σ_1, hcl, h⟩ := bnd2_el h
  refine call_V1 X hW (kC_X11 h0) m_6_199 m_6_201 m_0_56 mv_X11_readsSingle (c_X11_readsSingle hB hrc h0 hcl) (by omega) rfl rfl (Nat.le_of_ble_eq_true rfl) hl.1 dX11_readsAll_1 ?_
  clear hW hcl; intro H locs hW
  refine lv_if_ne (tgt := 9) hx hb dX11_readsAll_4 (by decide) (fun hc => ?_) (fun hc => ?_)
  · replace h := if_f hc h
    exact bl_X11_readsAll_L9 hB hrc X hret FU v0 h0 σ_1 h _ _ _ hW (lv_sub hl [0] rfl)
  · replace h := if_t hc h
    refine lv_iconst (v := 0) hx hb dX11_readsAll_7 (by decide) ?_
    exact rz_end hret h (by decide) dX11_readsAll_8 hW
set_option maxRecDepth 20000 in
set_option maxHeartbeats 4000000 in
theorem bl_X11_readsGoal_L9 {rc : Nat → St → Option (Int32 × St)} {hr : Nat} (hB : 10 ≤ hr) (hrc : ∀ {a0 : Nat} (_ : kd a0 = 10) {τ : St} {w : Int32} {τ' : St} (_ : rc a0 τ = some (w, τ')), Ct G l yX11_readsGoal cX11_readsGoal 1 (some .boolean) hr [.ref (gz G + a0)] τ (some (.int w)) τ') (X : Cx G p R s m args c cells slots cX11_readsGoal 1 RX11 (hr + 4)) {r : Int32} {σ' : St} (hret : R_Z G p l e R s m args below meth c cells slots Q cX11_readsGoal r σ') :
    ∀ (n : Nat), ∀ (v0 : Nat) (h0 : kd v0 = 10) (σ : St) (_ : pf_X11_readsGoal_L9 rc n v0 σ = some (r, σ')) (H : Heap) (locs : List Loc) (ls : Array Slot) (_ : GW G σ s H locs) (_ : lv_has ls 1 [(0, .ref (gz G + (v0)))]), W p l e R s m args below meth c H locs cells slots Q (F0 m 9 ls []) := by
  have hx := X.1.1
  have hb := X.1.2.1
  intro n
  induction n with
  | zero => intro v0 h0 σ h H locs ls hW hl; cases h
  | succ n ih =>
    intro v0 h0 σ h H locs ls hW hl
    rw [pf_X11_readsGoal_L9.eq_2] at h
    refine lv_aload_n hx hb dX11_readsGoal_9 rfl (lv_at hl 0 rfl) ?_
    refine r_ldcSW (k := 37) X hW (by decide) rfl rfl dX11_readsGoal_10 ?_
    obtain ⟨r_1, σ_1, hcl, h⟩ := bnd2_el h
    refine call_V1 X hW (kC_X11 h0) m_6_121 m_6_123 m_0_41 mv_X11_takes (c_X11_takes h0 (by decide) hcl) (by omega) rfl rfl (Nat.le_of_ble_eq_true rfl) hl.1 dX11_readsGoal_13 ?_
    clear hW hcl; intro H locs hW
    refine lv_if_eq (tgt := 37) hx hb dX11_readsGoal_16 (by decide) (fun hc => ?_) (fun hc => ?_)
    · replace h := if_t hc h
      refine lv_iconst (v := 1) hx hb dX11_readsGoal_37 (by decide) ?_
      exact rz_end hret h (by decide) dX11_readsGoal_38 hW
    · replace h := if_f hc h
      refine lv_aload_n hx hb dX11_readsGoal_19 rfl (lv_at hl 0 rfl) ?_
      obtain ⟨r_2, σ_2, hcl, h⟩ := bnd2_el h
      refine call_V1 X hW (kC_X11 h0) m_6_195 m_6_197 m_0_55 mv_X11_readsAll (c_X11_readsAll hB hrc h0 hcl) (by omega) rfl rfl (Nat.le_of_ble_eq_true rfl) hl.1 dX11_readsGoal_20 ?_
      clear hW hcl; intro H locs hW
      refine lv_if_ne (tgt := 28) hx hb dX11_readsGoal_23 (by decide) (fun hc => ?_) (fun hc => ?_)
      · replace h := if_f hc h
        refine lv_aload_n hx hb dX11_readsGoal_28 rfl (lv_at hl 0 rfl) ?_
        refine lv_iconst (v := 2) hx hb dX11_readsGoal_29 (by decide) ?_
        refine lv_iconst (v := 0) hx hb dX11_readsGoal_30 (by decide) ?_
        obtain ⟨σ_3, hcl, h⟩ := bind_el h
        refine call_V0 X hW (kC_X11 h0) m_6_216 m_6_218 m_0_60 mv_X11_goals (c_X11_goals h0 hcl) (by omega) rfl rfl (Nat.le_of_ble_eq_true rfl) hl.1 dX11_readsGoal_31 ?_
        clear hW hcl; intro H locs hW
        refine lv_goto (tgt := 9) hx hb dX11_readsGoal_34 (by decide) ?_
        exact ih v0 h0 σ_3 h _ _ _ hW (lv_sub hl [0] rfl)
      · replace h := if_t hc h
        refine lv_iconst (v := 0) hx hb dX11_readsGoal_26 (by decide) ?_
        exact rz_end hret h (by decide) dX11_readsGoal_27 hW
set_option maxRecDepth 20000 in
set_option maxHeartbeats 4000000 in
theorem c_X11_readsGoal_B {G : Gt} {l : Launch} {rc : Nat → St → Option (Int32 × St)} {hr : Nat} (hB : 10 ≤ hr) (hrc : ∀ {a0 : Nat} (_ : kd a0 = 10) {τ : St} {w : Int32} {τ' : St} (_ : rc a0 τ = some (w, τ')), Ct G l yX11_readsGoal cX11_readsGoal 1 (some .boolean) hr [.ref (gz G + a0)] τ (some (.int w)) τ') {v0 : Nat} (h0 : kd v0 = 10) {σ : St} {r : Int32} {σ' : St} (hf : pf_X11_readsGoal_B rc v0 σ = some (r, σ')) : Ct G l yX11_readsGoal cX11_readsGoal 1 (some .boolean) (hr + 4) [.ref (gz G + (v0))] σ (some (.int r)) σ' := by
  refine met_z (by decide +kernel) (Nat.le_of_ble_eq_true rfl) rfl ?_
  intro p e s m args below meth c Q ls X hW hret hl
  have hx := X.1.1
  have hb := X.1.2.1
  have hl : lv_has ls 1 [(0, .ref (gz G + (v0)))] := hl
  have h := hf
  clear hf
  unfold pf_X11_readsGoal_B at h
  refine lv_aload_n hx hb dX11_readsGoal_0 rfl (lv_at hl 0 rfl) ?_
  obtain ⟨r_1, σ_1, hcl, h⟩ := bnd2_el h
  refine call_V1 X hW (kC_X11 h0) m_6_195 m_6_197 m_0_55 mv_X11_readsAll (c_X11_readsAll hB hrc h0 hcl) (by omega) rfl rfl (Nat.le_of_ble_eq_true rfl) hl.1 dX11_readsGoal_1 ?_
  clear hW hcl; intro H locs hW
  refine lv_if_ne (tgt := 9) hx hb dX11_readsGoal_4 (by decide) (fun hc => ?_) (fun hc => ?_)
  · replace h := if_f hc h
    exact bl_X11_readsGoal_L9 hB hrc X hret FU v0 h0 σ_1 h _ _ _ hW (lv_sub hl [0] rfl)
  · replace h := if_t hc h
    refine lv_iconst (v := 0) hx hb dX11_readsGoal_7 (by decide) ?_
    exact rz_end hret h (by decide) dX11_readsGoal_8 hW
theorem c_X11_readsGoal {G : Gt} {l : Launch} : ∀ (d : Nat) {v0 : Nat} (h0 : kd v0 = 10) {σ : St} {r : Int32} {σ' : St} (_ : pf_X11_readsGoal d v0 σ = some (r, σ')), Ct G l yX11_readsGoal cX11_readsGoal 1 (some .boolean) (hRec 10 4 d) [.ref (gz G + (v0))] σ (some (.int r)) σ' := by
  intro d
  induction d with
  | zero => intro v0 h0 σ r σ' hf; cases hf
  | succ d ih =>
    intro v0 h0 σ r σ' hf
    exact c_X11_readsGoal_B (hr := hRec 10 4 d) (hRec_le _ _ _) ih h0 hf
set_option maxRecDepth 20000 in
set_option maxHeartbeats 4000000 in
theorem bl_X11_readsStock_b29 (X : Cx G p R s m args c cells slots cX11_readsStock 2 RX11 5) {r : Int32} {σ' : St} (hret : R_Z G p l e R s m args below meth c cells slots Q cX11_readsStock r σ') :
    ∀ (v0 : Nat) (h0 : kd v0 = 10) (σ : St) (_ : pf_X11_readsStock_b29 v0 σ = some (r, σ')) (H : Heap) (locs : List Loc) (ls : Array Slot) (_ : GW G σ s H locs) (_ : lv_has ls 2 [(0, .ref (gz G + (v0)))]), W p l e R s m args below meth c H locs cells slots Q (F0 m 29 ls []) := by
  have hx := X.1.1
  have hb := X.1.2.1
  intro v0 h0 σ h H locs ls hW hl
  unfold pf_X11_readsStock_b29 at h
  refine lv_aload_n hx hb dX11_readsStock_29 rfl (lv_at hl 0 rfl) ?_
  refine lv_bipush (v := (-4)) hx hb dX11_readsStock_30 (by decide) ?_
  refine lv_aload_n hx hb dX11_readsStock_32 rfl (lv_at hl 0 rfl) ?_
  refine gf_X11_from X hW h0 m_6_26 dX11_readsStock_33 ?_
  obtain ⟨r_1, σ_1, hcl, h⟩ := bnd2_el h
  refine call_V1 X hW (kC_X11 h0) m_6_134 m_6_136 m_0_43 mv_X11_fails (c_X11_fails h0 hcl) (by decide) rfl rfl (Nat.le_of_ble_eq_true rfl) hl.1 dX11_readsStock_36 ?_
  clear hW hcl; intro H locs hW
  obtain ⟨hz, h⟩ := ckZ_el h
  exact rz_end hret h hz dX11_readsStock_39 hW
set_option maxRecDepth 20000 in
set_option maxHeartbeats 4000000 in
theorem bl_X11_readsStock_L0 (X : Cx G p R s m args c cells slots cX11_readsStock 2 RX11 5) {r : Int32} {σ' : St} (hret : R_Z G p l e R s m args below meth c cells slots Q cX11_readsStock r σ') {k29 : Nat → St → (Option (Int32 × St))}
    (hk29 : ∀ (v0 : Nat) (h0 : kd v0 = 10) (σ : St) (_ : k29 v0 σ = some (r, σ')) (H : Heap) (locs : List Loc) (ls : Array Slot) (_ : GW G σ s H locs) (_ : lv_has ls 2 [(0, .ref (gz G + (v0)))]), W p l e R s m args below meth c H locs cells slots Q (F0 m 29 ls [])) :
    ∀ (n : Nat), ∀ (v0 : Nat) (h0 : kd v0 = 10) (σ : St) (_ : pf_X11_readsStock_L0 k29 n v0 σ = some (r, σ')) (H : Heap) (locs : List Loc) (ls : Array Slot) (_ : GW G σ s H locs) (_ : lv_has ls 2 [(0, .ref (gz G + (v0)))]), W p l e R s m args below meth c H locs cells slots Q (F0 m 0 ls []) := by
  have hx := X.1.1
  have hb := X.1.2.1
  intro n
  induction n with
  | zero => intro v0 h0 σ h H locs ls hW hl; cases h
  | succ n ih =>
    intro v0 h0 σ h H locs ls hW hl
    rw [pf_X11_readsStock_L0.eq_2] at h
    refine lv_aload_n hx hb dX11_readsStock_0 rfl (lv_at hl 0 rfl) ?_
    refine lv_iconst (v := 0) hx hb dX11_readsStock_1 (by decide) ?_
    refine lv_bipush (v := 7) hx hb dX11_readsStock_2 (by decide) ?_
    obtain ⟨r_1, σ_1, hcl, h⟩ := bnd2_el h
    refine call_V1 X hW (kC_X11 h0) m_6_147 m_6_149 m_0_46 mv_X11_reads (c_X11_reads h0 hcl) (by decide) rfl rfl (Nat.le_of_ble_eq_true rfl) hl.1 dX11_readsStock_4 ?_
    clear hW hcl; intro H locs hW
    refine lv_if_ne (tgt := 12) hx hb dX11_readsStock_7 (by decide) (fun hc => ?_) (fun hc => ?_)
    · replace h := if_f hc h
      refine lv_aload_n hx hb dX11_readsStock_12 rfl (lv_at hl 0 rfl) ?_
      refine gf_X11_number X hW h0 m_6_25 dX11_readsStock_13 ?_
      refine nm_i h ?_
      clear h; intro v1_2 h
      refine lv_istore_n (lv' := [(1, .int (v1_2)), (0, .ref (gz G + (v0)))]) hx hb dX11_readsStock_16 rfl hl (by decide) rfl ?_
      clear hl; intro ls hl
      refine lv_aload_n hx hb dX11_readsStock_17 rfl (lv_at hl 1 rfl) ?_
      refine gf_X11_stocked X hW h0 m_6_31 dX11_readsStock_18 ?_
      refine lv_iload_n hx hb dX11_readsStock_21 rfl (lv_at hl 0 rfl) ?_
      refine w_ishr hx hb dX11_readsStock_22 ?_
      refine lv_iconst (v := 1) hx hb dX11_readsStock_23 (by decide) ?_
      refine lv_iand hx hb dX11_readsStock_24 ?_
      refine lv_iconst (v := 1) hx hb dX11_readsStock_25 (by decide) ?_
      refine lv_icmp_ne (tgt := 40) hx hb dX11_readsStock_26 (by decide) (fun hc => ?_) (fun hc => ?_)
      · replace h := if_f hc h
        refine lv_aload_n hx hb dX11_readsStock_40 rfl (lv_at hl 1 rfl) ?_
        refine lv_dup hx hb dX11_readsStock_41 rfl ?_
        refine gf_X11_stocked X hW h0 m_6_31 dX11_readsStock_42 ?_
        refine lv_iconst (v := 1) hx hb dX11_readsStock_45 (by decide) ?_
        refine lv_iload_n hx hb dX11_readsStock_46 rfl (lv_at hl 0 rfl) ?_
        refine w_ishl hx hb dX11_readsStock_47 ?_
        refine lv_ior hx hb dX11_readsStock_48 ?_
        refine sf_X11_stocked X hW h0 m_6_31 dX11_readsStock_49 ?_
        clear hW; intro H locs hW
        refine nm_s hW h ?_
        clear hW h; intro σ_3 hW h
        refine lv_aload_n hx hb dX11_readsStock_52 rfl (lv_at hl 1 rfl) ?_
        refine lv_iconst (v := 0) hx hb dX11_readsStock_53 (by decide) ?_
        refine lv_sipush (v := 999) hx hb dX11_readsStock_54 (by decide) ?_
        obtain ⟨r_4, σ_4, hcl, h⟩ := bnd2_el h
        refine call_V1 X hW (kC_X11 h0) m_6_147 m_6_149 m_0_46 mv_X11_reads (c_X11_reads h0 hcl) (by decide) rfl rfl (Nat.le_of_ble_eq_true rfl) hl.1 dX11_readsStock_57 ?_
        clear hW hcl; intro H locs hW
        refine lv_if_ne (tgt := 65) hx hb dX11_readsStock_60 (by decide) (fun hc => ?_) (fun hc => ?_)
        · replace h := if_f hc h
          refine lv_aload_n hx hb dX11_readsStock_65 rfl (lv_at hl 1 rfl) ?_
          refine gf_X11_read X hW h0 m_6_8 dX11_readsStock_66 ?_
          refine lv_iconst (v := 5) hx hb dX11_readsStock_69 (by decide) ?_
          refine lv_iload_n hx hb dX11_readsStock_70 rfl (lv_at hl 0 rfl) ?_
          refine lv_iadd hx hb dX11_readsStock_71 ?_
          refine lv_aload_n hx hb dX11_readsStock_72 rfl (lv_at hl 1 rfl) ?_
          refine gf_X11_number X hW h0 m_6_25 dX11_readsStock_73 ?_
          obtain ⟨hi5, h⟩ := ckI_el h
          refine r_iast X hW (kf_X11_read h0) hi5 dX11_readsStock_76 ?_
          clear hW; intro H locs hW
          refine nm_s hW h ?_
          clear hW h; intro σ_6 hW h
          refine lv_aload_n hx hb dX11_readsStock_77 rfl (lv_at hl 1 rfl) ?_
          obtain ⟨r_7, σ_7, hcl, h⟩ := bnd2_el h
          refine call_V1 X hW (kC_X11 h0) m_6_159 m_6_161 m_0_48 mv_X11_more (c_X11_more h0 hcl) (by decide) rfl rfl (Nat.le_of_ble_eq_true rfl) hl.1 dX11_readsStock_78 ?_
          clear hW hcl; intro H locs hW
          refine lv_if_ne (tgt := 0) hx hb dX11_readsStock_81 (by decide) (fun hc => ?_) (fun hc => ?_)
          · replace h := if_f hc h
            exact ih v0 h0 σ_7 h _ _ _ hW (lv_sub hl [1] rfl)
          · replace h := if_t hc h
            refine lv_iconst (v := 1) hx hb dX11_readsStock_84 (by decide) ?_
            exact rz_end hret h (by decide) dX11_readsStock_85 hW
        · replace h := if_t hc h
          refine lv_iconst (v := 0) hx hb dX11_readsStock_63 (by decide) ?_
          exact rz_end hret h (by decide) dX11_readsStock_64 hW
      · replace h := if_t hc h
        exact hk29 v0 h0 σ_1 h _ _ _ hW (lv_sub hl [1] rfl)
    · replace h := if_t hc h
      refine lv_iconst (v := 0) hx hb dX11_readsStock_10 (by decide) ?_
      exact rz_end hret h (by decide) dX11_readsStock_11 hW
set_option maxRecDepth 20000 in
set_option maxHeartbeats 4000000 in
theorem c_X11_readsStock {G : Gt} {l : Launch} {v0 : Nat} (h0 : kd v0 = 10) {σ : St} {r : Int32} {σ' : St} (hf : pf_X11_readsStock v0 σ = some (r, σ')) : Ct G l yX11_readsStock cX11_readsStock 2 (some .boolean) 5 [.ref (gz G + (v0))] σ (some (.int r)) σ' := by
  refine met_z (by decide +kernel) (Nat.le_of_ble_eq_true rfl) rfl ?_
  intro p e s m args below meth c Q ls X hW hret hl
  have hx := X.1.1
  have hb := X.1.2.1
  have hl : lv_has ls 2 [(0, .ref (gz G + (v0)))] := hl
  have h := hf
  clear hf
  unfold pf_X11_readsStock at h
  exact bl_X11_readsStock_L0 X hret (bl_X11_readsStock_b29 X hret) FU v0 h0 σ h _ _ _ hW (lv_sub hl [0] rfl)
set_option maxRecDepth 20000 in
set_option maxHeartbeats 4000000 in
theorem bl_X11_readsAmounts_b28 (X : Cx G p R s m args c cells slots cX11_readsAmounts 3 RX11 5) {r : Int32} {σ' : St} (hret : R_Z G p l e R s m args below meth c cells slots Q cX11_readsAmounts r σ') :
    ∀ (v0 : Nat) (h0 : kd v0 = 10) (σ : St) (_ : pf_X11_readsAmounts_b28 v0 σ = some (r, σ')) (H : Heap) (locs : List Loc) (ls : Array Slot) (_ : GW G σ s H locs) (_ : lv_has ls 3 [(0, .ref (gz G + (v0)))]), W p l e R s m args below meth c H locs cells slots Q (F0 m 28 ls []) := by
  have hx := X.1.1
  have hb := X.1.2.1
  intro v0 h0 σ h H locs ls hW hl
  unfold pf_X11_readsAmounts_b28 at h
  refine lv_aload_n hx hb dX11_readsAmounts_28 rfl (lv_at hl 0 rfl) ?_
  refine lv_bipush (v := (-4)) hx hb dX11_readsAmounts_29 (by decide) ?_
  refine lv_aload_n hx hb dX11_readsAmounts_31 rfl (lv_at hl 0 rfl) ?_
  refine gf_X11_from X hW h0 m_6_26 dX11_readsAmounts_32 ?_
  obtain ⟨r_1, σ_1, hcl, h⟩ := bnd2_el h
  refine call_V1 X hW (kC_X11 h0) m_6_134 m_6_136 m_0_43 mv_X11_fails (c_X11_fails h0 hcl) (by decide) rfl rfl (Nat.le_of_ble_eq_true rfl) hl.1 dX11_readsAmounts_35 ?_
  clear hW hcl; intro H locs hW
  obtain ⟨hz, h⟩ := ckZ_el h
  exact rz_end hret h hz dX11_readsAmounts_38 hW
set_option maxRecDepth 20000 in
set_option maxHeartbeats 4000000 in
theorem bl_X11_readsAmounts_L0 (X : Cx G p R s m args c cells slots cX11_readsAmounts 3 RX11 5) {r : Int32} {σ' : St} (hret : R_Z G p l e R s m args below meth c cells slots Q cX11_readsAmounts r σ') {k28 : Nat → St → (Option (Int32 × St))}
    (hk28 : ∀ (v0 : Nat) (h0 : kd v0 = 10) (σ : St) (_ : k28 v0 σ = some (r, σ')) (H : Heap) (locs : List Loc) (ls : Array Slot) (_ : GW G σ s H locs) (_ : lv_has ls 3 [(0, .ref (gz G + (v0)))]), W p l e R s m args below meth c H locs cells slots Q (F0 m 28 ls [])) :
    ∀ (n : Nat), ∀ (v0 : Nat) (h0 : kd v0 = 10) (v1 : Int32) (σ : St) (_ : pf_X11_readsAmounts_L0 k28 n v0 v1 σ = some (r, σ')) (H : Heap) (locs : List Loc) (ls : Array Slot) (_ : GW G σ s H locs) (_ : lv_has ls 3 [(0, .ref (gz G + (v0))), (1, .int (v1))]), W p l e R s m args below meth c H locs cells slots Q (F0 m 0 ls []) := by
  have hx := X.1.1
  have hb := X.1.2.1
  intro n
  induction n with
  | zero => intro v0 h0 v1 σ h H locs ls hW hl; cases h
  | succ n ih =>
    intro v0 h0 v1 σ h H locs ls hW hl
    rw [pf_X11_readsAmounts_L0.eq_2] at h
    refine lv_aload_n hx hb dX11_readsAmounts_0 rfl (lv_at hl 0 rfl) ?_
    refine lv_iconst (v := 0) hx hb dX11_readsAmounts_1 (by decide) ?_
    refine lv_bipush (v := 7) hx hb dX11_readsAmounts_2 (by decide) ?_
    obtain ⟨r_1, σ_1, hcl, h⟩ := bnd2_el h
    refine call_V1 X hW (kC_X11 h0) m_6_147 m_6_149 m_0_46 mv_X11_reads (c_X11_reads h0 hcl) (by decide) rfl rfl (Nat.le_of_ble_eq_true rfl) hl.1 dX11_readsAmounts_4 ?_
    clear hW hcl; intro H locs hW
    refine lv_if_ne (tgt := 12) hx hb dX11_readsAmounts_7 (by decide) (fun hc => ?_) (fun hc => ?_)
    · replace h := if_f hc h
      refine lv_aload_n hx hb dX11_readsAmounts_12 rfl (lv_at hl 0 rfl) ?_
      refine gf_X11_number X hW h0 m_6_25 dX11_readsAmounts_13 ?_
      refine nm_i h ?_
      clear h; intro v2_2 h
      refine lv_istore_n (lv' := [(2, .int (v2_2)), (0, .ref (gz G + (v0))), (1, .int (v1))]) hx hb dX11_readsAmounts_16 rfl hl (by decide) rfl ?_
      clear hl; intro ls hl
      refine lv_aload_n hx hb dX11_readsAmounts_17 rfl (lv_at hl 1 rfl) ?_
      refine gf_X11_read X hW h0 m_6_8 dX11_readsAmounts_18 ?_
      refine lv_iload_n hx hb dX11_readsAmounts_21 rfl (lv_at hl 2 rfl) ?_
      refine lv_iload_n hx hb dX11_readsAmounts_22 rfl (lv_at hl 0 rfl) ?_
      refine lv_iadd hx hb dX11_readsAmounts_23 ?_
      obtain ⟨hi3, h⟩ := ckI_el h
      refine r_iald X hW (kf_X11_read h0) hi3 dX11_readsAmounts_24 ?_
      refine lv_if_le (tgt := 39) hx hb dX11_readsAmounts_25 (by decide) (fun hc => ?_) (fun hc => ?_)
      · replace h := if_t hc h
        refine lv_aload_n hx hb dX11_readsAmounts_39 rfl (lv_at hl 1 rfl) ?_
        refine lv_iconst (v := 1) hx hb dX11_readsAmounts_40 (by decide) ?_
        refine lv_bipush (v := 99) hx hb dX11_readsAmounts_41 (by decide) ?_
        obtain ⟨r_4, σ_4, hcl, h⟩ := bnd2_el h
        refine call_V1 X hW (kC_X11 h0) m_6_147 m_6_149 m_0_46 mv_X11_reads (c_X11_reads h0 hcl) (by decide) rfl rfl (Nat.le_of_ble_eq_true rfl) hl.1 dX11_readsAmounts_43 ?_
        clear hW hcl; intro H locs hW
        refine lv_if_ne (tgt := 51) hx hb dX11_readsAmounts_46 (by decide) (fun hc => ?_) (fun hc => ?_)
        · replace h := if_f hc h
          refine lv_aload_n hx hb dX11_readsAmounts_51 rfl (lv_at hl 1 rfl) ?_
          refine gf_X11_read X hW h0 m_6_8 dX11_readsAmounts_52 ?_
          refine lv_iload_n hx hb dX11_readsAmounts_55 rfl (lv_at hl 2 rfl) ?_
          refine lv_iload_n hx hb dX11_readsAmounts_56 rfl (lv_at hl 0 rfl) ?_
          refine lv_iadd hx hb dX11_readsAmounts_57 ?_
          refine lv_aload_n hx hb dX11_readsAmounts_58 rfl (lv_at hl 1 rfl) ?_
          refine gf_X11_number X hW h0 m_6_25 dX11_readsAmounts_59 ?_
          obtain ⟨hi5, h⟩ := ckI_el h
          refine r_iast X hW (kf_X11_read h0) hi5 dX11_readsAmounts_62 ?_
          clear hW; intro H locs hW
          refine nm_s hW h ?_
          clear hW h; intro σ_6 hW h
          refine lv_aload_n hx hb dX11_readsAmounts_63 rfl (lv_at hl 1 rfl) ?_
          obtain ⟨r_7, σ_7, hcl, h⟩ := bnd2_el h
          refine call_V1 X hW (kC_X11 h0) m_6_159 m_6_161 m_0_48 mv_X11_more (c_X11_more h0 hcl) (by decide) rfl rfl (Nat.le_of_ble_eq_true rfl) hl.1 dX11_readsAmounts_64 ?_
          clear hW hcl; intro H locs hW
          refine lv_if_ne (tgt := 0) hx hb dX11_readsAmounts_67 (by decide) (fun hc => ?_) (fun hc => ?_)
          · replace h := if_f hc h
            exact ih v0 h0 v1 σ_7 h _ _ _ hW (lv_sub hl [1, 2] rfl)
          · replace h := if_t hc h
            refine lv_iconst (v := 1) hx hb dX11_readsAmounts_70 (by decide) ?_
            exact rz_end hret h (by decide) dX11_readsAmounts_71 hW
        · replace h := if_t hc h
          refine lv_iconst (v := 0) hx hb dX11_readsAmounts_49 (by decide) ?_
          exact rz_end hret h (by decide) dX11_readsAmounts_50 hW
      · replace h := if_f hc h
        exact hk28 v0 h0 σ_1 h _ _ _ hW (lv_sub hl [1] rfl)
    · replace h := if_t hc h
      refine lv_iconst (v := 0) hx hb dX11_readsAmounts_10 (by decide) ?_
      exact rz_end hret h (by decide) dX11_readsAmounts_11 hW
set_option maxRecDepth 20000 in
set_option maxHeartbeats 4000000 in
theorem c_X11_readsAmounts {G : Gt} {l : Launch} {v0 : Nat} (h0 : kd v0 = 10) {v1 : Int32} {σ : St} {r : Int32} {σ' : St} (hf : pf_X11_readsAmounts v0 v1 σ = some (r, σ')) : Ct G l yX11_readsAmounts cX11_readsAmounts 3 (some .boolean) 5 [.ref (gz G + (v0)), .int (v1)] σ (some (.int r)) σ' := by
  refine met_z (by decide +kernel) (Nat.le_of_ble_eq_true rfl) rfl ?_
  intro p e s m args below meth c Q ls X hW hret hl
  have hx := X.1.1
  have hb := X.1.2.1
  have hl : lv_has ls 3 [(0, .ref (gz G + (v0))), (1, .int (v1))] := hl
  have h := hf
  clear hf
  unfold pf_X11_readsAmounts at h
  exact bl_X11_readsAmounts_L0 X hret (bl_X11_readsAmounts_b28 X hret) FU v0 h0 v1 σ h _ _ _ hW (lv_sub hl [0, 1] rfl)
set_option maxRecDepth 20000 in
set_option maxHeartbeats 4000000 in
theorem bl_X11_readsAfter_b35 (X : Cx G p R s m args c cells slots cX11_readsAfter 2 RX11 5) {r : Int32} {σ' : St} (hret : R_Z G p l e R s m args below meth c cells slots Q cX11_readsAfter r σ') :
    ∀ (v0 : Nat) (h0 : kd v0 = 10) (σ : St) (_ : pf_X11_readsAfter_b35 v0 σ = some (r, σ')) (H : Heap) (locs : List Loc) (ls : Array Slot) (_ : GW G σ s H locs) (_ : lv_has ls 2 [(0, .ref (gz G + (v0)))]), W p l e R s m args below meth c H locs cells slots Q (F0 m 35 ls []) := by
  have hx := X.1.1
  have hb := X.1.2.1
  intro v0 h0 σ h H locs ls hW hl
  unfold pf_X11_readsAfter_b35 at h
  refine lv_aload_n hx hb dX11_readsAfter_35 rfl (lv_at hl 0 rfl) ?_
  refine lv_bipush (v := (-4)) hx hb dX11_readsAfter_36 (by decide) ?_
  refine lv_aload_n hx hb dX11_readsAfter_38 rfl (lv_at hl 0 rfl) ?_
  refine gf_X11_from X hW h0 m_6_26 dX11_readsAfter_39 ?_
  obtain ⟨r_1, σ_1, hcl, h⟩ := bnd2_el h
  refine call_V1 X hW (kC_X11 h0) m_6_134 m_6_136 m_0_43 mv_X11_fails (c_X11_fails h0 hcl) (by decide) rfl rfl (Nat.le_of_ble_eq_true rfl) hl.1 dX11_readsAfter_42 ?_
  clear hW hcl; intro H locs hW
  obtain ⟨hz, h⟩ := ckZ_el h
  exact rz_end hret h hz dX11_readsAfter_45 hW
set_option maxRecDepth 20000 in
set_option maxHeartbeats 4000000 in
theorem bl_X11_readsAfter_L0 (X : Cx G p R s m args c cells slots cX11_readsAfter 2 RX11 5) {r : Int32} {σ' : St} (hret : R_Z G p l e R s m args below meth c cells slots Q cX11_readsAfter r σ') {k35 : Nat → St → (Option (Int32 × St))}
    (hk35 : ∀ (v0 : Nat) (h0 : kd v0 = 10) (σ : St) (_ : k35 v0 σ = some (r, σ')) (H : Heap) (locs : List Loc) (ls : Array Slot) (_ : GW G σ s H locs) (_ : lv_has ls 2 [(0, .ref (gz G + (v0)))]), W p l e R s m args below meth c H locs cells slots Q (F0 m 35 ls [])) :
    ∀ (n : Nat), ∀ (v0 : Nat) (h0 : kd v0 = 10) (v1 : Int32) (σ : St) (_ : pf_X11_readsAfter_L0 k35 n v0 v1 σ = some (r, σ')) (H : Heap) (locs : List Loc) (ls : Array Slot) (_ : GW G σ s H locs) (_ : lv_has ls 2 [(0, .ref (gz G + (v0))), (1, .int (v1))]), W p l e R s m args below meth c H locs cells slots Q (F0 m 0 ls []) := by
  have hx := X.1.1
  have hb := X.1.2.1
  intro n
  induction n with
  | zero => intro v0 h0 v1 σ h H locs ls hW hl; cases h
  | succ n ih =>
    intro v0 h0 v1 σ h H locs ls hW hl
    rw [pf_X11_readsAfter_L0.eq_2] at h
    refine lv_aload_n hx hb dX11_readsAfter_0 rfl (lv_at hl 0 rfl) ?_
    refine lv_iconst (v := 0) hx hb dX11_readsAfter_1 (by decide) ?_
    refine lv_aload_n hx hb dX11_readsAfter_2 rfl (lv_at hl 0 rfl) ?_
    refine gf_X11_stepsRead X hW h0 m_6_28 dX11_readsAfter_3 ?_
    refine lv_iconst (v := 1) hx hb dX11_readsAfter_6 (by decide) ?_
    refine lv_isub hx hb dX11_readsAfter_7 ?_
    obtain ⟨r_1, σ_1, hcl, h⟩ := bnd2_el h
    refine call_V1 X hW (kC_X11 h0) m_6_147 m_6_149 m_0_46 mv_X11_reads (c_X11_reads h0 hcl) (by decide) rfl rfl (Nat.le_of_ble_eq_true rfl) hl.1 dX11_readsAfter_8 ?_
    clear hW hcl; intro H locs hW
    refine lv_if_ne (tgt := 16) hx hb dX11_readsAfter_11 (by decide) (fun hc => ?_) (fun hc => ?_)
    · replace h := if_f hc h
      refine lv_aload_n hx hb dX11_readsAfter_16 rfl (lv_at hl 0 rfl) ?_
      refine gf_X11_read X hW h0 m_6_8 dX11_readsAfter_17 ?_
      refine lv_iload_n hx hb dX11_readsAfter_20 rfl (lv_at hl 1 rfl) ?_
      refine lv_iconst (v := 4) hx hb dX11_readsAfter_21 (by decide) ?_
      refine lv_iadd hx hb dX11_readsAfter_22 ?_
      obtain ⟨hi2, h⟩ := ckI_el h
      refine r_iald X hW (kf_X11_read h0) hi2 dX11_readsAfter_23 ?_
      refine lv_aload_n hx hb dX11_readsAfter_24 rfl (lv_at hl 0 rfl) ?_
      refine gf_X11_number X hW h0 m_6_25 dX11_readsAfter_25 ?_
      refine w_ishr hx hb dX11_readsAfter_28 ?_
      refine lv_iconst (v := 1) hx hb dX11_readsAfter_29 (by decide) ?_
      refine lv_iand hx hb dX11_readsAfter_30 ?_
      refine lv_iconst (v := 1) hx hb dX11_readsAfter_31 (by decide) ?_
      refine lv_icmp_ne (tgt := 46) hx hb dX11_readsAfter_32 (by decide) (fun hc => ?_) (fun hc => ?_)
      · replace h := if_f hc h
        refine lv_aload_n hx hb dX11_readsAfter_46 rfl (lv_at hl 0 rfl) ?_
        refine gf_X11_read X hW h0 m_6_8 dX11_readsAfter_47 ?_
        refine lv_iload_n hx hb dX11_readsAfter_50 rfl (lv_at hl 1 rfl) ?_
        refine lv_iconst (v := 4) hx hb dX11_readsAfter_51 (by decide) ?_
        refine lv_iadd hx hb dX11_readsAfter_52 ?_
        refine lv_dup2_11 hx hb dX11_readsAfter_53 rfl rfl ?_
        obtain ⟨hi3, h⟩ := ckI_el h
        refine r_iald X hW (kf_X11_read h0) hi3 dX11_readsAfter_54 ?_
        refine lv_iconst (v := 1) hx hb dX11_readsAfter_55 (by decide) ?_
        refine lv_aload_n hx hb dX11_readsAfter_56 rfl (lv_at hl 0 rfl) ?_
        refine gf_X11_number X hW h0 m_6_25 dX11_readsAfter_57 ?_
        refine w_ishl hx hb dX11_readsAfter_60 ?_
        refine lv_ior hx hb dX11_readsAfter_61 ?_
        obtain ⟨hi4, h⟩ := ckI_el h
        refine r_iast X hW (kf_X11_read h0) hi4 dX11_readsAfter_62 ?_
        clear hW; intro H locs hW
        refine nm_s hW h ?_
        clear hW h; intro σ_5 hW h
        refine lv_aload_n hx hb dX11_readsAfter_63 rfl (lv_at hl 0 rfl) ?_
        obtain ⟨r_6, σ_6, hcl, h⟩ := bnd2_el h
        refine call_V1 X hW (kC_X11 h0) m_6_159 m_6_161 m_0_48 mv_X11_more (c_X11_more h0 hcl) (by decide) rfl rfl (Nat.le_of_ble_eq_true rfl) hl.1 dX11_readsAfter_64 ?_
        clear hW hcl; intro H locs hW
        refine lv_if_ne (tgt := 0) hx hb dX11_readsAfter_67 (by decide) (fun hc => ?_) (fun hc => ?_)
        · replace h := if_f hc h
          exact ih v0 h0 v1 σ_6 h _ _ _ hW (lv_sub hl [0, 1] rfl)
        · replace h := if_t hc h
          refine lv_iconst (v := 1) hx hb dX11_readsAfter_70 (by decide) ?_
          exact rz_end hret h (by decide) dX11_readsAfter_71 hW
      · replace h := if_t hc h
        exact hk35 v0 h0 σ_1 h _ _ _ hW (lv_sub hl [0] rfl)
    · replace h := if_t hc h
      refine lv_iconst (v := 0) hx hb dX11_readsAfter_14 (by decide) ?_
      exact rz_end hret h (by decide) dX11_readsAfter_15 hW
set_option maxRecDepth 20000 in
set_option maxHeartbeats 4000000 in
theorem c_X11_readsAfter {G : Gt} {l : Launch} {v0 : Nat} (h0 : kd v0 = 10) {v1 : Int32} {σ : St} {r : Int32} {σ' : St} (hf : pf_X11_readsAfter v0 v1 σ = some (r, σ')) : Ct G l yX11_readsAfter cX11_readsAfter 2 (some .boolean) 5 [.ref (gz G + (v0)), .int (v1)] σ (some (.int r)) σ' := by
  refine met_z (by decide +kernel) (Nat.le_of_ble_eq_true rfl) rfl ?_
  intro p e s m args below meth c Q ls X hW hret hl
  have hx := X.1.1
  have hb := X.1.2.1
  have hl : lv_has ls 2 [(0, .ref (gz G + (v0))), (1, .int (v1))] := hl
  have h := hf
  clear hf
  unfold pf_X11_readsAfter at h
  exact bl_X11_readsAfter_L0 X hret (bl_X11_readsAfter_b35 X hret) FU v0 h0 v1 σ h _ _ _ hW (lv_sub hl [0, 1] rfl)
set_option maxRecDepth 20000 in
set_option maxHeartbeats 4000000 in
theorem bl_X11_readsPart_b100 (X : Cx G p R s m args c cells slots cX11_readsPart 3 RX11 10) {r : Int32} {σ' : St} (hret : R_Z G p l e R s m args below meth c cells slots Q cX11_readsPart r σ') :
    ∀ (v0 : Nat) (h0 : kd v0 = 10) (v2 : Int32) (σ : St) (_ : pf_X11_readsPart_b100 v0 v2 σ = some (r, σ')) (H : Heap) (locs : List Loc) (ls : Array Slot) (_ : GW G σ s H locs) (_ : lv_has ls 3 [(0, .ref (gz G + (v0))), (2, .int (v2))]), W p l e R s m args below meth c H locs cells slots Q (F0 m 100 ls []) := by
  have hx := X.1.1
  have hb := X.1.2.1
  intro v0 h0 v2 σ h H locs ls hW hl
  unfold pf_X11_readsPart_b100 at h
  refine lv_aload_n hx hb dX11_readsPart_100 rfl (lv_at hl 0 rfl) ?_
  refine lv_bipush (v := (-2)) hx hb dX11_readsPart_101 (by decide) ?_
  refine lv_iload_n hx hb dX11_readsPart_103 rfl (lv_at hl 1 rfl) ?_
  obtain ⟨r_1, σ_1, hcl, h⟩ := bnd2_el h
  refine call_V1 X hW (kC_X11 h0) m_6_134 m_6_136 m_0_43 mv_X11_fails (c_X11_fails h0 hcl) (by decide) rfl rfl (Nat.le_of_ble_eq_true rfl) hl.1 dX11_readsPart_104 ?_
  clear hW hcl; intro H locs hW
  obtain ⟨hz, h⟩ := ckZ_el h
  exact rz_end hret h hz dX11_readsPart_107 hW
set_option maxRecDepth 20000 in
set_option maxHeartbeats 4000000 in
theorem c_X11_readsPart {G : Gt} {l : Launch} {v0 : Nat} (h0 : kd v0 = 10) {v1 : Int32} {σ : St} {r : Int32} {σ' : St} (hf : pf_X11_readsPart v0 v1 σ = some (r, σ')) : Ct G l yX11_readsPart cX11_readsPart 3 (some .boolean) 10 [.ref (gz G + (v0)), .int (v1)] σ (some (.int r)) σ' := by
  refine met_z (by decide +kernel) (Nat.le_of_ble_eq_true rfl) rfl ?_
  intro p e s m args below meth c Q ls X hW hret hl
  have hx := X.1.1
  have hb := X.1.2.1
  have hl : lv_has ls 3 [(0, .ref (gz G + (v0))), (1, .int (v1))] := hl
  have h := hf
  clear hf
  unfold pf_X11_readsPart at h
  refine lv_aload_n hx hb dX11_readsPart_0 rfl (lv_at hl 0 rfl) ?_
  refine r_ldcSW (k := 38) X hW (by decide) rfl rfl dX11_readsPart_1 ?_
  obtain ⟨r_1, σ_1, hcl, h⟩ := bnd2_el h
  refine call_V1 X hW (kC_X11 h0) m_6_121 m_6_123 m_0_41 mv_X11_takes (c_X11_takes h0 (by decide) hcl) (by decide) rfl rfl (Nat.le_of_ble_eq_true rfl) hl.1 dX11_readsPart_4 ?_
  clear hW hcl; intro H locs hW
  refine lv_if_eq (tgt := 19) hx hb dX11_readsPart_7 (by decide) (fun hc => ?_) (fun hc => ?_)
  · replace h := if_t hc h
    refine lv_aload_n hx hb dX11_readsPart_19 rfl (lv_at hl 0 rfl) ?_
    refine r_ldcSW (k := 39) X hW (by decide) rfl rfl dX11_readsPart_20 ?_
    obtain ⟨r_2, σ_2, hcl, h⟩ := bnd2_el h
    refine call_V1 X hW (kC_X11 h0) m_6_121 m_6_123 m_0_41 mv_X11_takes (c_X11_takes h0 (by decide) hcl) (by decide) rfl rfl (Nat.le_of_ble_eq_true rfl) hl.1 dX11_readsPart_23 ?_
    clear hW hcl; intro H locs hW
    refine lv_if_eq (tgt := 38) hx hb dX11_readsPart_26 (by decide) (fun hc => ?_) (fun hc => ?_)
    · replace h := if_t hc h
      refine lv_aload_n hx hb dX11_readsPart_38 rfl (lv_at hl 0 rfl) ?_
      refine r_ldcSW (k := 40) X hW (by decide) rfl rfl dX11_readsPart_39 ?_
      obtain ⟨r_3, σ_3, hcl, h⟩ := bnd2_el h
      refine call_V1 X hW (kC_X11 h0) m_6_121 m_6_123 m_0_41 mv_X11_takes (c_X11_takes h0 (by decide) hcl) (by decide) rfl rfl (Nat.le_of_ble_eq_true rfl) hl.1 dX11_readsPart_42 ?_
      clear hW hcl; intro H locs hW
      refine lv_if_eq (tgt := 57) hx hb dX11_readsPart_45 (by decide) (fun hc => ?_) (fun hc => ?_)
      · replace h := if_t hc h
        refine lv_aload_n hx hb dX11_readsPart_57 rfl (lv_at hl 0 rfl) ?_
        refine r_ldcSW (k := 41) X hW (by decide) rfl rfl dX11_readsPart_58 ?_
        obtain ⟨r_4, σ_4, hcl, h⟩ := bnd2_el h
        refine call_V1 X hW (kC_X11 h0) m_6_121 m_6_123 m_0_41 mv_X11_takes (c_X11_takes h0 (by decide) hcl) (by decide) rfl rfl (Nat.le_of_ble_eq_true rfl) hl.1 dX11_readsPart_61 ?_
        clear hW hcl; intro H locs hW
        refine lv_if_eq (tgt := 73) hx hb dX11_readsPart_64 (by decide) (fun hc => ?_) (fun hc => ?_)
        · replace h := if_t hc h
          refine lv_aload_n hx hb dX11_readsPart_73 rfl (lv_at hl 0 rfl) ?_
          refine gf_X11_at X hW h0 m_6_22 dX11_readsPart_74 ?_
          refine nm_i h ?_
          clear h; intro v2_5 h
          refine lv_istore_n (lv' := [(2, .int (v2_5)), (0, .ref (gz G + (v0))), (1, .int (v1))]) hx hb dX11_readsPart_77 rfl hl (by decide) rfl ?_
          clear hl; intro ls hl
          refine lv_aload_n hx hb dX11_readsPart_78 rfl (lv_at hl 1 rfl) ?_
          refine r_ldcSW (k := 42) X hW (by decide) rfl rfl dX11_readsPart_79 ?_
          obtain ⟨r_6, σ_6, hcl, h⟩ := bnd2_el h
          refine call_V1 X hW (kC_X11 h0) m_6_121 m_6_123 m_0_41 mv_X11_takes (c_X11_takes h0 (by decide) hcl) (by decide) rfl rfl (Nat.le_of_ble_eq_true rfl) hl.1 dX11_readsPart_82 ?_
          clear hW hcl; intro H locs hW
          refine lv_if_eq (tgt := 100) hx hb dX11_readsPart_85 (by decide) (fun hc => ?_) (fun hc => ?_)
          · replace h := if_t hc h
            exact bl_X11_readsPart_b100 X hret v0 h0 v2_5 σ_6 h _ _ _ hW (lv_sub hl [1, 0] rfl)
          · replace h := if_f hc h
            refine lv_aload_n hx hb dX11_readsPart_88 rfl (lv_at hl 1 rfl) ?_
            refine gf_X11_read X hW h0 m_6_8 dX11_readsPart_89 ?_
            refine lv_iload_n hx hb dX11_readsPart_92 rfl (lv_at hl 2 rfl) ?_
            refine lv_iconst (v := 5) hx hb dX11_readsPart_93 (by decide) ?_
            refine lv_iadd hx hb dX11_readsPart_94 ?_
            obtain ⟨hi7, h⟩ := ckI_el h
            refine r_iald X hW (kf_X11_read h0) hi7 dX11_readsPart_95 ?_
            refine lv_iconst (v := 1) hx hb dX11_readsPart_96 (by decide) ?_
            refine lv_icmp_ne (tgt := 108) hx hb dX11_readsPart_97 (by decide) (fun hc => ?_) (fun hc => ?_)
            · replace h := if_f hc h
              refine lv_aload_n hx hb dX11_readsPart_108 rfl (lv_at hl 1 rfl) ?_
              refine gf_X11_read X hW h0 m_6_8 dX11_readsPart_109 ?_
              refine lv_iload_n hx hb dX11_readsPart_112 rfl (lv_at hl 2 rfl) ?_
              refine lv_iconst (v := 5) hx hb dX11_readsPart_113 (by decide) ?_
              refine lv_iadd hx hb dX11_readsPart_114 ?_
              refine lv_iconst (v := 1) hx hb dX11_readsPart_115 (by decide) ?_
              obtain ⟨hi8, h⟩ := ckI_el h
              refine r_iast X hW (kf_X11_read h0) hi8 dX11_readsPart_116 ?_
              clear hW; intro H locs hW
              refine nm_s hW h ?_
              clear hW h; intro σ_9 hW h
              refine lv_iconst (v := 1) hx hb dX11_readsPart_117 (by decide) ?_
              exact rz_end hret h (by decide) dX11_readsPart_118 hW
            · replace h := if_t hc h
              exact bl_X11_readsPart_b100 X hret v0 h0 v2_5 σ_6 h _ _ _ hW (lv_sub hl [1, 0] rfl)
        · replace h := if_f hc h
          refine lv_aload_n hx hb dX11_readsPart_67 rfl (lv_at hl 0 rfl) ?_
          refine lv_iload_n hx hb dX11_readsPart_68 rfl (lv_at hl 1 rfl) ?_
          obtain ⟨r_10, σ_10, hcl, h⟩ := bnd2_el h
          refine call_V1 X hW (kC_X11 h0) m_6_185 m_6_187 m_0_53 mv_X11_readsAfter (c_X11_readsAfter h0 hcl) (by decide) rfl rfl (Nat.le_of_ble_eq_true rfl) hl.1 dX11_readsPart_69 ?_
          clear hW hcl; intro H locs hW
          obtain ⟨hz, h⟩ := ckZ_el h
          exact rz_end hret h hz dX11_readsPart_72 hW
      · replace h := if_f hc h
        refine lv_aload_n hx hb dX11_readsPart_48 rfl (lv_at hl 0 rfl) ?_
        refine lv_iload_n hx hb dX11_readsPart_49 rfl (lv_at hl 1 rfl) ?_
        refine lv_bipush (v := 22) hx hb dX11_readsPart_50 (by decide) ?_
        refine lv_iadd hx hb dX11_readsPart_52 ?_
        obtain ⟨r_11, σ_11, hcl, h⟩ := bnd2_el h
        refine call_V1 X hW (kC_X11 h0) m_6_178 m_6_180 m_0_52 mv_X11_readsAmounts (c_X11_readsAmounts h0 hcl) (by decide) rfl rfl (Nat.le_of_ble_eq_true rfl) hl.1 dX11_readsPart_53 ?_
        clear hW hcl; intro H locs hW
        obtain ⟨hz, h⟩ := ckZ_el h
        exact rz_end hret h hz dX11_readsPart_56 hW
    · replace h := if_f hc h
      refine lv_aload_n hx hb dX11_readsPart_29 rfl (lv_at hl 0 rfl) ?_
      refine lv_iload_n hx hb dX11_readsPart_30 rfl (lv_at hl 1 rfl) ?_
      refine lv_bipush (v := 14) hx hb dX11_readsPart_31 (by decide) ?_
      refine lv_iadd hx hb dX11_readsPart_33 ?_
      obtain ⟨r_12, σ_12, hcl, h⟩ := bnd2_el h
      refine call_V1 X hW (kC_X11 h0) m_6_178 m_6_180 m_0_52 mv_X11_readsAmounts (c_X11_readsAmounts h0 hcl) (by decide) rfl rfl (Nat.le_of_ble_eq_true rfl) hl.1 dX11_readsPart_34 ?_
      clear hW hcl; intro H locs hW
      obtain ⟨hz, h⟩ := ckZ_el h
      exact rz_end hret h hz dX11_readsPart_37 hW
  · replace h := if_f hc h
    refine lv_aload_n hx hb dX11_readsPart_10 rfl (lv_at hl 0 rfl) ?_
    refine lv_iload_n hx hb dX11_readsPart_11 rfl (lv_at hl 1 rfl) ?_
    refine lv_bipush (v := 6) hx hb dX11_readsPart_12 (by decide) ?_
    refine lv_iadd hx hb dX11_readsPart_14 ?_
    obtain ⟨r_13, σ_13, hcl, h⟩ := bnd2_el h
    refine call_V1 X hW (kC_X11 h0) m_6_178 m_6_180 m_0_52 mv_X11_readsAmounts (c_X11_readsAmounts h0 hcl) (by decide) rfl rfl (Nat.le_of_ble_eq_true rfl) hl.1 dX11_readsPart_15 ?_
    clear hW hcl; intro H locs hW
    obtain ⟨hz, h⟩ := ckZ_el h
    exact rz_end hret h hz dX11_readsPart_18 hW
set_option maxRecDepth 20000 in
set_option maxHeartbeats 4000000 in
theorem bl_X11_readsStep_b98 (X : Cx G p R s m args c cells slots cX11_readsStep 4 RX11 11) {r : Int32} {σ' : St} (hret : R_Z G p l e R s m args below meth c cells slots Q cX11_readsStep r σ') :
    ∀ (v0 : Nat) (h0 : kd v0 = 10) (σ : St) (_ : pf_X11_readsStep_b98 v0 σ = some (r, σ')) (H : Heap) (locs : List Loc) (ls : Array Slot) (_ : GW G σ s H locs) (_ : lv_has ls 4 [(0, .ref (gz G + (v0)))]), W p l e R s m args below meth c H locs cells slots Q (F0 m 98 ls []) := by
  have hx := X.1.1
  have hb := X.1.2.1
  intro v0 h0 σ h H locs ls hW hl
  unfold pf_X11_readsStep_b98 at h
  refine lv_aload_n hx hb dX11_readsStep_98 rfl (lv_at hl 0 rfl) ?_
  refine lv_dup hx hb dX11_readsStep_99 rfl ?_
  refine gf_X11_stepsRead X hW h0 m_6_28 dX11_readsStep_100 ?_
  refine lv_iconst (v := 1) hx hb dX11_readsStep_103 (by decide) ?_
  refine lv_iadd hx hb dX11_readsStep_104 ?_
  refine sf_X11_stepsRead X hW h0 m_6_28 dX11_readsStep_105 ?_
  clear hW; intro H locs hW
  refine nm_s hW h ?_
  clear hW h; intro σ_1 hW h
  refine lv_aload_n hx hb dX11_readsStep_108 rfl (lv_at hl 0 rfl) ?_
  refine lv_bipush (v := 59) hx hb dX11_readsStep_109 (by decide) ?_
  obtain ⟨r_2, σ_2, hcl, h⟩ := bnd2_el h
  refine call_V1 X hW (kC_X11 h0) m_6_138 m_6_140 m_0_44 mv_X11_sign (c_X11_sign h0 hcl) (by decide) rfl rfl (Nat.le_of_ble_eq_true rfl) hl.1 dX11_readsStep_111 ?_
  clear hW hcl; intro H locs hW
  obtain ⟨hz, h⟩ := ckZ_el h
  exact rz_end hret h hz dX11_readsStep_114 hW
set_option maxRecDepth 20000 in
set_option maxHeartbeats 4000000 in
theorem bl_X11_readsStep_L78 (X : Cx G p R s m args c cells slots cX11_readsStep 4 RX11 11) {r : Int32} {σ' : St} (hret : R_Z G p l e R s m args below meth c cells slots Q cX11_readsStep r σ') {k98 : Nat → St → (Option (Int32 × St))}
    (hk98 : ∀ (v0 : Nat) (h0 : kd v0 = 10) (σ : St) (_ : k98 v0 σ = some (r, σ')) (H : Heap) (locs : List Loc) (ls : Array Slot) (_ : GW G σ s H locs) (_ : lv_has ls 4 [(0, .ref (gz G + (v0)))]), W p l e R s m args below meth c H locs cells slots Q (F0 m 98 ls [])) :
    ∀ (n : Nat), ∀ (v0 : Nat) (h0 : kd v0 = 10) (v3 : Int32) (σ : St) (_ : pf_X11_readsStep_L78 k98 n v0 v3 σ = some (r, σ')) (H : Heap) (locs : List Loc) (ls : Array Slot) (_ : GW G σ s H locs) (_ : lv_has ls 4 [(0, .ref (gz G + (v0))), (3, .int (v3))]), W p l e R s m args below meth c H locs cells slots Q (F0 m 78 ls []) := by
  have hx := X.1.1
  have hb := X.1.2.1
  intro n
  induction n with
  | zero => intro v0 h0 v3 σ h H locs ls hW hl; cases h
  | succ n ih =>
    intro v0 h0 v3 σ h H locs ls hW hl
    rw [pf_X11_readsStep_L78.eq_2] at h
    refine lv_aload_n hx hb dX11_readsStep_78 rfl (lv_at hl 0 rfl) ?_
    obtain ⟨r_1, σ_1, hcl, h⟩ := bnd2_el h
    refine call_V1 X hW (kC_X11 h0) m_6_125 m_6_127 m_0_42 mv_X11_here (c_X11_here h0 hcl) (by decide) rfl rfl (Nat.le_of_ble_eq_true rfl) hl.1 dX11_readsStep_79 ?_
    clear hW hcl; intro H locs hW
    obtain ⟨r_2, hcl, h⟩ := bind_el h
    refine call_S1 X hW m_6_129 m_6_130 mv_X11_isLetter (c_X11_isLetter hcl) (by decide) rfl rfl (Nat.le_of_ble_eq_true rfl) hl.1 dX11_readsStep_82 ?_
    clear hW hcl; intro H locs hW
    refine lv_if_eq (tgt := 98) hx hb dX11_readsStep_85 (by decide) (fun hc => ?_) (fun hc => ?_)
    · replace h := if_t hc h
      exact hk98 v0 h0 σ_1 h _ _ _ hW (lv_sub hl [0] rfl)
    · replace h := if_f hc h
      refine lv_aload_n hx hb dX11_readsStep_88 rfl (lv_at hl 0 rfl) ?_
      refine lv_iload_n hx hb dX11_readsStep_89 rfl (lv_at hl 1 rfl) ?_
      obtain ⟨r_3, σ_3, hcl, h⟩ := bnd2_el h
      refine call_V1 X hW (kC_X11 h0) m_6_173 m_6_175 m_0_51 mv_X11_readsPart (c_X11_readsPart h0 hcl) (by decide) rfl rfl (Nat.le_of_ble_eq_true rfl) hl.1 dX11_readsStep_90 ?_
      clear hW hcl; intro H locs hW
      refine lv_if_ne (tgt := 78) hx hb dX11_readsStep_93 (by decide) (fun hc => ?_) (fun hc => ?_)
      · replace h := if_f hc h
        exact ih v0 h0 v3 σ_3 h _ _ _ hW (lv_sub hl [0, 1] rfl)
      · replace h := if_t hc h
        refine lv_iconst (v := 0) hx hb dX11_readsStep_96 (by decide) ?_
        exact rz_end hret h (by decide) dX11_readsStep_97 hW
set_option maxRecDepth 20000 in
set_option maxHeartbeats 4000000 in
theorem c_X11_readsStep {G : Gt} {l : Launch} {v0 : Nat} (h0 : kd v0 = 10) {v1 : Int32} {v2 : Int32} {σ : St} {r : Int32} {σ' : St} (hf : pf_X11_readsStep v0 v1 v2 σ = some (r, σ')) : Ct G l yX11_readsStep cX11_readsStep 4 (some .boolean) 11 [.ref (gz G + (v0)), .int (v1), .int (v2)] σ (some (.int r)) σ' := by
  refine met_z (by decide +kernel) (Nat.le_of_ble_eq_true rfl) rfl ?_
  intro p e s m args below meth c Q ls X hW hret hl
  have hx := X.1.1
  have hb := X.1.2.1
  have hl : lv_has ls 4 [(0, .ref (gz G + (v0))), (1, .int (v1)), (2, .int (v2))] := hl
  have h := hf
  clear hf
  unfold pf_X11_readsStep at h
  refine lv_aload_n hx hb dX11_readsStep_0 rfl (lv_at hl 0 rfl) ?_
  refine gf_X11_stepsRead X hW h0 m_6_28 dX11_readsStep_1 ?_
  refine lv_bipush (v := 6) hx hb dX11_readsStep_4 (by decide) ?_
  refine lv_icmp_ne (tgt := 17) hx hb dX11_readsStep_6 (by decide) (fun hc => ?_) (fun hc => ?_)
  · replace h := if_f hc h
    refine lv_iload_n hx hb dX11_readsStep_17 rfl (lv_at hl 1 rfl) ?_
    refine lv_bipush (v := 6) hx hb dX11_readsStep_18 (by decide) ?_
    refine lv_iadd hx hb dX11_readsStep_20 ?_
    refine lv_bipush (v := 30) hx hb dX11_readsStep_21 (by decide) ?_
    refine lv_aload_n hx hb dX11_readsStep_23 rfl (lv_at hl 0 rfl) ?_
    refine gf_X11_stepsRead X hW h0 m_6_28 dX11_readsStep_24 ?_
    refine lv_imul hx hb dX11_readsStep_27 ?_
    refine lv_iadd hx hb dX11_readsStep_28 ?_
    refine nm_i h ?_
    clear h; intro v3_2 h
    refine lv_istore_n (lv' := [(3, .int (v3_2)), (0, .ref (gz G + (v0))), (1, .int (v1)), (2, .int (v2))]) hx hb dX11_readsStep_29 rfl hl (by decide) rfl ?_
    clear hl; intro ls hl
    refine lv_aload_n hx hb dX11_readsStep_30 rfl (lv_at hl 1 rfl) ?_
    refine lv_iconst (v := 0) hx hb dX11_readsStep_31 (by decide) ?_
    refine lv_bipush (v := 100) hx hb dX11_readsStep_32 (by decide) ?_
    obtain ⟨r_3, σ_3, hcl, h⟩ := bnd2_el h
    refine call_V1 X hW (kC_X11 h0) m_6_147 m_6_149 m_0_46 mv_X11_reads (c_X11_reads h0 hcl) (by decide) rfl rfl (Nat.le_of_ble_eq_true rfl) hl.1 dX11_readsStep_34 ?_
    clear hW hcl; intro H locs hW
    refine lv_if_ne (tgt := 42) hx hb dX11_readsStep_37 (by decide) (fun hc => ?_) (fun hc => ?_)
    · replace h := if_f hc h
      refine lv_aload_n hx hb dX11_readsStep_42 rfl (lv_at hl 1 rfl) ?_
      refine gf_X11_read X hW h0 m_6_8 dX11_readsStep_43 ?_
      refine lv_iload_n hx hb dX11_readsStep_46 rfl (lv_at hl 0 rfl) ?_
      refine lv_iconst (v := 0) hx hb dX11_readsStep_47 (by decide) ?_
      refine lv_iadd hx hb dX11_readsStep_48 ?_
      refine lv_aload_n hx hb dX11_readsStep_49 rfl (lv_at hl 1 rfl) ?_
      refine gf_X11_number X hW h0 m_6_25 dX11_readsStep_50 ?_
      obtain ⟨hi4, h⟩ := ckI_el h
      refine r_iast X hW (kf_X11_read h0) hi4 dX11_readsStep_53 ?_
      clear hW; intro H locs hW
      refine nm_s hW h ?_
      clear hW h; intro σ_5 hW h
      refine lv_aload_n hx hb dX11_readsStep_54 rfl (lv_at hl 1 rfl) ?_
      refine lv_iconst (v := 1) hx hb dX11_readsStep_55 (by decide) ?_
      refine lv_bipush (v := 9) hx hb dX11_readsStep_56 (by decide) ?_
      obtain ⟨r_6, σ_6, hcl, h⟩ := bnd2_el h
      refine call_V1 X hW (kC_X11 h0) m_6_147 m_6_149 m_0_46 mv_X11_reads (c_X11_reads h0 hcl) (by decide) rfl rfl (Nat.le_of_ble_eq_true rfl) hl.1 dX11_readsStep_58 ?_
      clear hW hcl; intro H locs hW
      refine lv_if_ne (tgt := 66) hx hb dX11_readsStep_61 (by decide) (fun hc => ?_) (fun hc => ?_)
      · replace h := if_f hc h
        refine lv_aload_n hx hb dX11_readsStep_66 rfl (lv_at hl 1 rfl) ?_
        refine gf_X11_read X hW h0 m_6_8 dX11_readsStep_67 ?_
        refine lv_iload_n hx hb dX11_readsStep_70 rfl (lv_at hl 0 rfl) ?_
        refine lv_iconst (v := 1) hx hb dX11_readsStep_71 (by decide) ?_
        refine lv_iadd hx hb dX11_readsStep_72 ?_
        refine lv_aload_n hx hb dX11_readsStep_73 rfl (lv_at hl 1 rfl) ?_
        refine gf_X11_number X hW h0 m_6_25 dX11_readsStep_74 ?_
        obtain ⟨hi7, h⟩ := ckI_el h
        refine r_iast X hW (kf_X11_read h0) hi7 dX11_readsStep_77 ?_
        clear hW; intro H locs hW
        refine nm_s hW h ?_
        clear hW h; intro σ_8 hW h
        exact bl_X11_readsStep_L78 X hret (bl_X11_readsStep_b98 X hret) FU v0 h0 v3_2 σ_8 h _ _ _ hW (lv_sub hl [1, 0] rfl)
      · replace h := if_t hc h
        refine lv_iconst (v := 0) hx hb dX11_readsStep_64 (by decide) ?_
        exact rz_end hret h (by decide) dX11_readsStep_65 hW
    · replace h := if_t hc h
      refine lv_iconst (v := 0) hx hb dX11_readsStep_40 (by decide) ?_
      exact rz_end hret h (by decide) dX11_readsStep_41 hW
  · replace h := if_t hc h
    refine lv_aload_n hx hb dX11_readsStep_9 rfl (lv_at hl 0 rfl) ?_
    refine lv_bipush (v := (-5)) hx hb dX11_readsStep_10 (by decide) ?_
    refine lv_iload_n hx hb dX11_readsStep_12 rfl (lv_at hl 2 rfl) ?_
    obtain ⟨r_1, σ_1, hcl, h⟩ := bnd2_el h
    refine call_V1 X hW (kC_X11 h0) m_6_134 m_6_136 m_0_43 mv_X11_fails (c_X11_fails h0 hcl) (by decide) rfl rfl (Nat.le_of_ble_eq_true rfl) hl.1 dX11_readsStep_13 ?_
    clear hW hcl; intro H locs hW
    obtain ⟨hz, h⟩ := ckZ_el h
    exact rz_end hret h hz dX11_readsStep_16 hW
end
