section
variable {G : Gt} {p : Program} {l : Launch} {e : Env} {R : Room} {s : State} {m : MethodId} {args : Array Value} {below : List Frame} {meth : Method} {c : Code} {cells slots : Nat} {Q : State → Prop}
set_option maxRecDepth 20000 in
set_option maxHeartbeats 4000000 in
theorem bl_X11_attempt_b33 (X : Cx G p R s m args c cells slots cX11_attempt 3 RX11 9) {r : Int32} {σ' : St} (hret : R_I G p l e R s m args below meth c cells slots Q cX11_attempt r σ') :
    ∀ (v0 : Nat) (h0 : kd v0 = 10) (v1 : Int32) (v2 : Int32) (s0 : Nat) (hs0 : kd s0 = 10) (s1 : Int32) (σ : St) (_ : pf_X11_attempt_b33 v0 v1 v2 s0 s1 σ = some (r, σ')) (H : Heap) (locs : List Loc) (ls : Array Slot) (_ : GW G σ s H locs) (_ : lv_has ls 3 [(0, .ref (gz G + (v0))), (1, .int (v1)), (2, .int (v2))]), W p l e R s m args below meth c H locs cells slots Q (F0 m 33 ls [.int (s1), .ref (gz G + (s0))]) := by
  have hx := X.1.1
  have hb := X.1.2.1
  intro v0 h0 v1 v2 s0 hs0 s1 σ h H locs ls hW hl
  unfold pf_X11_attempt_b33 at h
  refine lv_iconst (v := 2) hx hb dX11_attempt_33 (by decide) ?_
  obtain ⟨r_1, σ_1, hcl, h⟩ := bnd2_el h
  refine call_V1 X hW (kC_X11 hs0) m_6_112 m_6_114 m_0_39 mv_X11_right (c_X11_right hs0 hcl) (by decide) rfl rfl (Nat.le_of_ble_eq_true rfl) hl.1 dX11_attempt_34 ?_
  clear hW hcl; intro H locs hW
  refine lv_if_ne (tgt := 42) hx hb dX11_attempt_37 (by decide) (fun hc => ?_) (fun hc => ?_)
  · replace h := if_f hc h
    refine lv_aload_n hx hb dX11_attempt_42 rfl (lv_at hl 0 rfl) ?_
    obtain ⟨σ_2, hcl, h⟩ := bind_el h
    refine call_V0 X hW (kC_X11 h0) m_7_13 m_7_15 m_0_67 mv_X11_change (c_X11_change h0 hcl) (by decide) rfl rfl (Nat.le_of_ble_eq_true rfl) hl.1 dX11_attempt_43 ?_
    clear hW hcl; intro H locs hW
    refine lv_aload_n hx hb dX11_attempt_46 rfl (lv_at hl 0 rfl) ?_
    refine lv_iload_n hx hb dX11_attempt_47 rfl (lv_at hl 1 rfl) ?_
    refine lv_iload_n hx hb dX11_attempt_48 rfl (lv_at hl 2 rfl) ?_
    obtain ⟨r_3, σ_3, hcl, h⟩ := bnd2_el h
    refine call_V1 X hW (kC_X11 h0) m_7_232 m_7_234 m_0_99 mv_X11_tries (c_X11_tries h0 hcl) (by decide) rfl rfl (Nat.le_of_ble_eq_true rfl) hl.1 dX11_attempt_49 ?_
    clear hW hcl; intro H locs hW
    exact ri_end hret h dX11_attempt_52 hW
  · replace h := if_t hc h
    refine lv_iconst (v := 0) hx hb dX11_attempt_40 (by decide) ?_
    exact ri_end hret h dX11_attempt_41 hW
set_option maxRecDepth 20000 in
set_option maxHeartbeats 4000000 in
theorem c_X11_attempt {G : Gt} {l : Launch} {v0 : Nat} (h0 : kd v0 = 10) {v1 : Int32} {v2 : Int32} {σ : St} {r : Int32} {σ' : St} (hf : pf_X11_attempt v0 v1 v2 σ = some (r, σ')) : Ct G l yX11_attempt cX11_attempt 3 (some .int) 9 [.ref (gz G + (v0)), .int (v1), .int (v2)] σ (some (.int r)) σ' := by
  refine met_i (by decide +kernel) (Nat.le_of_ble_eq_true rfl) rfl ?_
  intro p e s m args below meth c Q ls X hW hret hl
  have hx := X.1.1
  have hb := X.1.2.1
  have hl : lv_has ls 3 [(0, .ref (gz G + (v0))), (1, .int (v1)), (2, .int (v2))] := hl
  have h := hf
  clear hf
  unfold pf_X11_attempt at h
  refine lv_aload_n hx hb dX11_attempt_0 rfl (lv_at hl 0 rfl) ?_
  refine lv_iconst (v := 0) hx hb dX11_attempt_1 (by decide) ?_
  refine sf_X11_thrown X hW h0 m_6_6 dX11_attempt_2 ?_
  clear hW; intro H locs hW
  refine nm_s hW h ?_
  clear hW h; intro σ_1 hW h
  refine lv_aload_n hx hb dX11_attempt_5 rfl (lv_at hl 0 rfl) ?_
  refine lv_iload_n hx hb dX11_attempt_6 rfl (lv_at hl 1 rfl) ?_
  refine lv_iload_n hx hb dX11_attempt_7 rfl (lv_at hl 2 rfl) ?_
  obtain ⟨r_2, σ_2, hcl, h⟩ := bnd2_el h
  refine call_V1 X hW (kC_X11 h0) m_7_132 m_7_134 m_0_91 mv_X11_isStep (c_X11_isStep h0 hcl) (by decide) rfl rfl (Nat.le_of_ble_eq_true rfl) hl.1 dX11_attempt_8 ?_
  clear hW hcl; intro H locs hW
  refine lv_if_eq (tgt := 40) hx hb dX11_attempt_11 (by decide) (fun hc => ?_) (fun hc => ?_)
  · replace h := if_t hc h
    refine lv_iconst (v := 0) hx hb dX11_attempt_40 (by decide) ?_
    exact ri_end hret h dX11_attempt_41 hW
  · replace h := if_f hc h
    refine lv_aload_n hx hb dX11_attempt_14 rfl (lv_at hl 0 rfl) ?_
    refine lv_aload_n hx hb dX11_attempt_15 rfl (lv_at hl 0 rfl) ?_
    refine lv_iload_n hx hb dX11_attempt_16 rfl (lv_at hl 1 rfl) ?_
    obtain ⟨r_3, σ_3, hcl, h⟩ := bnd2_el h
    refine call_V1 X hW (kC_X11 h0) m_7_124 m_7_126 m_0_90 mv_X11_triedSet (c_X11_triedSet h0 hcl) (by decide) rfl rfl (Nat.le_of_ble_eq_true rfl) hl.1 dX11_attempt_17 ?_
    clear hW hcl; intro H locs hW
    refine lv_iload_n hx hb dX11_attempt_20 rfl (lv_at hl 2 rfl) ?_
    refine w_ishr hx hb dX11_attempt_21 ?_
    refine lv_iconst (v := 1) hx hb dX11_attempt_22 (by decide) ?_
    refine lv_iand hx hb dX11_attempt_23 ?_
    refine lv_iconst (v := 1) hx hb dX11_attempt_24 (by decide) ?_
    refine lv_icmp_ne (tgt := 32) hx hb dX11_attempt_25 (by decide) (fun hc => ?_) (fun hc => ?_)
    · replace h := if_f hc h
      refine lv_iconst (v := 0) hx hb dX11_attempt_32 (by decide) ?_
      exact bl_X11_attempt_b33 X hret v0 h0 v1 v2 v0 h0 0 σ_3 h _ _ _ hW (lv_sub hl [0, 1, 2] rfl)
    · replace h := if_t hc h
      refine lv_iconst (v := 1) hx hb dX11_attempt_28 (by decide) ?_
      refine lv_goto (tgt := 33) hx hb dX11_attempt_29 (by decide) ?_
      exact bl_X11_attempt_b33 X hret v0 h0 v1 v2 v0 h0 1 σ_3 h _ _ _ hW (lv_sub hl [0, 1, 2] rfl)
set_option maxRecDepth 20000 in
set_option maxHeartbeats 4000000 in
theorem bl_X11_play_L21 (X : Cx G p R s m args c cells slots cX11_play 4 RX11 11) {r : Int32} {σ' : St} (hret : R_I G p l e R s m args below meth c cells slots Q cX11_play r σ') :
    ∀ (n : Nat), ∀ (v0 : Nat) (h0 : kd v0 = 10) (v1 : Int32) (v2 : Int32) (σ : St) (_ : pf_X11_play_L21 n v0 v1 v2 σ = some (r, σ')) (H : Heap) (locs : List Loc) (ls : Array Slot) (_ : GW G σ s H locs) (_ : lv_has ls 4 [(0, .ref (gz G + (v0))), (1, .int (v1)), (2, .int (v2))]), W p l e R s m args below meth c H locs cells slots Q (F0 m 21 ls []) := by
  have hx := X.1.1
  have hb := X.1.2.1
  intro n
  induction n with
  | zero => intro v0 h0 v1 v2 σ h H locs ls hW hl; cases h
  | succ n ih =>
    intro v0 h0 v1 v2 σ h H locs ls hW hl
    rw [pf_X11_play_L21.eq_2] at h
    refine lv_aload_n hx hb dX11_play_21 rfl (lv_at hl 0 rfl) ?_
    refine lv_iload_n hx hb dX11_play_22 rfl (lv_at hl 1 rfl) ?_
    obtain ⟨r_1, σ_1, hcl, h⟩ := bnd2_el h
    refine call_V1 X hW (kC_X11 h0) m_7_164 m_7_166 m_0_93 mv_X11_hasPlan (c_X11_hasPlan h0 hcl) (by decide) rfl rfl (Nat.le_of_ble_eq_true rfl) hl.1 dX11_play_23 ?_
    clear hW hcl; intro H locs hW
    refine lv_if_eq (tgt := 47) hx hb dX11_play_26 (by decide) (fun hc => ?_) (fun hc => ?_)
    · replace h := if_t hc h
      refine lv_iload_n hx hb dX11_play_47 rfl (lv_at hl 2 rfl) ?_
      exact ri_end hret h dX11_play_48 hW
    · replace h := if_f hc h
      refine lv_aload_n hx hb dX11_play_29 rfl (lv_at hl 0 rfl) ?_
      refine lv_iload_n hx hb dX11_play_30 rfl (lv_at hl 1 rfl) ?_
      refine lv_aload_n hx hb dX11_play_31 rfl (lv_at hl 0 rfl) ?_
      refine gf_X11_plan X hW h0 m_6_16 dX11_play_32 ?_
      refine lv_iconst (v := 0) hx hb dX11_play_35 (by decide) ?_
      obtain ⟨hi2, h⟩ := ckI_el h
      refine r_iald X hW (kf_X11_plan h0) hi2 dX11_play_36 ?_
      obtain ⟨r_3, σ_3, hcl, h⟩ := bnd2_el h
      refine call_V1 X hW (kC_X11 h0) m_7_232 m_7_234 m_0_99 mv_X11_tries (c_X11_tries h0 hcl) (by decide) rfl rfl (Nat.le_of_ble_eq_true rfl) hl.1 dX11_play_37 ?_
      clear hW hcl; intro H locs hW
      refine lv_istore_n (lv' := [(3, .int (r_3)), (0, .ref (gz G + (v0))), (1, .int (v1)), (2, .int (v2))]) hx hb dX11_play_40 rfl hl (by decide) rfl ?_
      clear hl; intro ls hl
      refine w_iinc (v := 1) (lv' := fun y => [(2, .int (y)), (3, .int (r_3)), (0, .ref (gz G + (v0))), (1, .int (v1))]) hx hb dX11_play_41 hl (k := 3) rfl (by decide) (by decide) (fun _ => rfl) h ?_
      clear h hl; intro v2_4 h ls hl
      refine lv_goto (tgt := 21) hx hb dX11_play_44 (by decide) ?_
      exact ih v0 h0 v1 v2_4 σ_3 h _ _ _ hW (lv_sub hl [2, 3, 0] rfl)
set_option maxRecDepth 20000 in
set_option maxHeartbeats 4000000 in
theorem c_X11_play {G : Gt} {l : Launch} {v0 : Nat} (h0 : kd v0 = 10) {v1 : Int32} {σ : St} {r : Int32} {σ' : St} (hf : pf_X11_play v0 v1 σ = some (r, σ')) : Ct G l yX11_play cX11_play 4 (some .int) 11 [.ref (gz G + (v0)), .int (v1)] σ (some (.int r)) σ' := by
  refine met_i (by decide +kernel) (Nat.le_of_ble_eq_true rfl) rfl ?_
  intro p e s m args below meth c Q ls X hW hret hl
  have hx := X.1.1
  have hb := X.1.2.1
  have hl : lv_has ls 4 [(0, .ref (gz G + (v0))), (1, .int (v1))] := hl
  have h := hf
  clear hf
  unfold pf_X11_play at h
  refine lv_aload_n hx hb dX11_play_0 rfl (lv_at hl 0 rfl) ?_
  refine lv_iconst (v := 0) hx hb dX11_play_1 (by decide) ?_
  refine sf_X11_thrown X hW h0 m_6_6 dX11_play_2 ?_
  clear hW; intro H locs hW
  refine nm_s hW h ?_
  clear hW h; intro σ_1 hW h
  refine lv_aload_n hx hb dX11_play_5 rfl (lv_at hl 0 rfl) ?_
  refine lv_iload_n hx hb dX11_play_6 rfl (lv_at hl 1 rfl) ?_
  obtain ⟨r_2, σ_2, hcl, h⟩ := bnd2_el h
  refine call_V1 X hW (kC_X11 h0) m_7_112 m_7_114 m_0_87 mv_X11_isQuest (c_X11_isQuest h0 hcl) (by decide) rfl rfl (Nat.le_of_ble_eq_true rfl) hl.1 dX11_play_7 ?_
  clear hW hcl; intro H locs hW
  refine lv_if_ne (tgt := 15) hx hb dX11_play_10 (by decide) (fun hc => ?_) (fun hc => ?_)
  · replace h := if_f hc h
    refine lv_aload_n hx hb dX11_play_15 rfl (lv_at hl 0 rfl) ?_
    obtain ⟨σ_3, hcl, h⟩ := bind_el h
    refine call_V0 X hW (kC_X11 h0) m_7_13 m_7_15 m_0_67 mv_X11_change (c_X11_change h0 hcl) (by decide) rfl rfl (Nat.le_of_ble_eq_true rfl) hl.1 dX11_play_16 ?_
    clear hW hcl; intro H locs hW
    refine lv_iconst (v := 0) hx hb dX11_play_19 (by decide) ?_
    refine lv_istore_n (lv' := [(2, .int (0)), (0, .ref (gz G + (v0))), (1, .int (v1))]) hx hb dX11_play_20 rfl hl (by decide) rfl ?_
    clear hl; intro ls hl
    exact bl_X11_play_L21 X hret FU v0 h0 v1 0 σ_3 h _ _ _ hW (lv_sub hl [1, 2, 0] rfl)
  · replace h := if_t hc h
    refine lv_iconst (v := 0) hx hb dX11_play_13 (by decide) ?_
    exact ri_end hret h dX11_play_14 hW
set_option maxRecDepth 20000 in
set_option maxHeartbeats 4000000 in
theorem bl_X11_add_b49 (X : Cx G p R s m args c cells slots cX11_add 3 RX11 4) {r : Int32} {σ' : St} (hret : R_I G p l e R s m args below meth c cells slots Q cX11_add r σ') :
    ∀ (v0 : Nat) (h0 : kd v0 = 10) (v1 : Int32) (v2 : Int32) (s0 : Nat) (hs0 : kd s0 = 10) (s1 : Int32) (σ : St) (_ : pf_X11_add_b49 v0 v1 v2 s0 s1 σ = some (r, σ')) (H : Heap) (locs : List Loc) (ls : Array Slot) (_ : GW G σ s H locs) (_ : lv_has ls 3 [(0, .ref (gz G + (v0))), (1, .int (v1)), (2, .int (v2))]), W p l e R s m args below meth c H locs cells slots Q (F0 m 49 ls [.int (s1), .ref (gz G + (s0))]) := by
  have hx := X.1.1
  have hb := X.1.2.1
  intro v0 h0 v1 v2 s0 hs0 s1 σ h H locs ls hW hl
  unfold pf_X11_add_b49 at h
  refine lv_iconst (v := 3) hx hb dX11_add_49 (by decide) ?_
  obtain ⟨r_1, σ_1, hcl, h⟩ := bnd2_el h
  refine call_V1 X hW (kC_X11 hs0) m_6_112 m_6_114 m_0_39 mv_X11_right (c_X11_right hs0 hcl) (by decide) rfl rfl (Nat.le_of_ble_eq_true rfl) hl.1 dX11_add_50 ?_
  clear hW hcl; intro H locs hW
  refine lv_if_ne (tgt := 58) hx hb dX11_add_53 (by decide) (fun hc => ?_) (fun hc => ?_)
  · replace h := if_f hc h
    refine lv_aload_n hx hb dX11_add_58 rfl (lv_at hl 0 rfl) ?_
    obtain ⟨σ_2, hcl, h⟩ := bind_el h
    refine call_V0 X hW (kC_X11 h0) m_7_13 m_7_15 m_0_67 mv_X11_change (c_X11_change h0 hcl) (by decide) rfl rfl (Nat.le_of_ble_eq_true rfl) hl.1 dX11_add_59 ?_
    clear hW hcl; intro H locs hW
    refine lv_aload_n hx hb dX11_add_62 rfl (lv_at hl 0 rfl) ?_
    refine lv_iconst (v := 5) hx hb dX11_add_63 (by decide) ?_
    refine lv_iload_n hx hb dX11_add_64 rfl (lv_at hl 1 rfl) ?_
    refine lv_iadd hx hb dX11_add_65 ?_
    refine lv_aload_n hx hb dX11_add_66 rfl (lv_at hl 0 rfl) ?_
    refine lv_iconst (v := 5) hx hb dX11_add_67 (by decide) ?_
    refine lv_iload_n hx hb dX11_add_68 rfl (lv_at hl 1 rfl) ?_
    refine lv_iadd hx hb dX11_add_69 ?_
    obtain ⟨r_3, hcl, h⟩ := bind_el h
    refine call_V1 X hW (kC_X11 h0) m_7_17 m_7_19 m_0_68 mv_X11_get (c_X11_get h0 hcl) (by decide) rfl rfl (Nat.le_of_ble_eq_true rfl) hl.1 dX11_add_70 ?_
    clear hW hcl; intro H locs hW
    refine lv_iload_n hx hb dX11_add_73 rfl (lv_at hl 2 rfl) ?_
    refine lv_iadd hx hb dX11_add_74 ?_
    obtain ⟨σ_4, hcl, h⟩ := bind_el h
    refine call_V0 X hW (kC_X11 h0) m_7_21 m_7_23 m_0_69 mv_X11_put (c_X11_put h0 hcl) (by decide) rfl rfl (Nat.le_of_ble_eq_true rfl) hl.1 dX11_add_75 ?_
    clear hW hcl; intro H locs hW
    refine lv_aload_n hx hb dX11_add_78 rfl (lv_at hl 0 rfl) ?_
    refine lv_iconst (v := 5) hx hb dX11_add_79 (by decide) ?_
    refine lv_iload_n hx hb dX11_add_80 rfl (lv_at hl 1 rfl) ?_
    refine lv_iadd hx hb dX11_add_81 ?_
    obtain ⟨r_5, hcl, h⟩ := bind_el h
    refine call_V1 X hW (kC_X11 h0) m_7_17 m_7_19 m_0_68 mv_X11_get (c_X11_get h0 hcl) (by decide) rfl rfl (Nat.le_of_ble_eq_true rfl) hl.1 dX11_add_82 ?_
    clear hW hcl; intro H locs hW
    exact ri_end hret h dX11_add_85 hW
  · replace h := if_t hc h
    refine lv_iconst (v := 0) hx hb dX11_add_56 (by decide) ?_
    exact ri_end hret h dX11_add_57 hW
set_option maxRecDepth 20000 in
set_option maxHeartbeats 4000000 in
theorem c_X11_add {G : Gt} {l : Launch} {v0 : Nat} (h0 : kd v0 = 10) {v1 : Int32} {v2 : Int32} {σ : St} {r : Int32} {σ' : St} (hf : pf_X11_add v0 v1 v2 σ = some (r, σ')) : Ct G l yX11_add cX11_add 3 (some .int) 4 [.ref (gz G + (v0)), .int (v1), .int (v2)] σ (some (.int r)) σ' := by
  refine met_i (by decide +kernel) (Nat.le_of_ble_eq_true rfl) rfl ?_
  intro p e s m args below meth c Q ls X hW hret hl
  have hx := X.1.1
  have hb := X.1.2.1
  have hl : lv_has ls 3 [(0, .ref (gz G + (v0))), (1, .int (v1)), (2, .int (v2))] := hl
  have h := hf
  clear hf
  unfold pf_X11_add at h
  refine lv_aload_n hx hb dX11_add_0 rfl (lv_at hl 0 rfl) ?_
  refine lv_iconst (v := 0) hx hb dX11_add_1 (by decide) ?_
  refine sf_X11_thrown X hW h0 m_6_6 dX11_add_2 ?_
  clear hW; intro H locs hW
  refine nm_s hW h ?_
  clear hW h; intro σ_1 hW h
  refine lv_aload_n hx hb dX11_add_5 rfl (lv_at hl 0 rfl) ?_
  refine lv_iload_n hx hb dX11_add_6 rfl (lv_at hl 1 rfl) ?_
  obtain ⟨r_2, σ_2, hcl, h⟩ := bnd2_el h
  refine call_V1 X hW (kC_X11 h0) m_7_104 m_7_106 m_0_86 mv_X11_isItem (c_X11_isItem h0 hcl) (by decide) rfl rfl (Nat.le_of_ble_eq_true rfl) hl.1 dX11_add_7 ?_
  clear hW hcl; intro H locs hW
  refine lv_if_eq (tgt := 56) hx hb dX11_add_10 (by decide) (fun hc => ?_) (fun hc => ?_)
  · replace h := if_t hc h
    refine lv_iconst (v := 0) hx hb dX11_add_56 (by decide) ?_
    exact ri_end hret h dX11_add_57 hW
  · replace h := if_f hc h
    refine lv_aload_n hx hb dX11_add_13 rfl (lv_at hl 0 rfl) ?_
    refine lv_iload_n hx hb dX11_add_14 rfl (lv_at hl 2 rfl) ?_
    refine lv_iconst (v := 1) hx hb dX11_add_15 (by decide) ?_
    refine lv_sipush (v := 999) hx hb dX11_add_16 (by decide) ?_
    obtain ⟨r_3, hcl, h⟩ := bind_el h
    refine call_S1 X hW m_6_109 m_6_110 mv_X11_isIn (c_X11_isIn hcl) (by decide) rfl rfl (Nat.le_of_ble_eq_true rfl) hl.1 dX11_add_19 ?_
    clear hW hcl; intro H locs hW
    refine lv_iconst (v := 2) hx hb dX11_add_22 (by decide) ?_
    obtain ⟨r_4, σ_4, hcl, h⟩ := bnd2_el h
    refine call_V1 X hW (kC_X11 h0) m_6_112 m_6_114 m_0_39 mv_X11_right (c_X11_right h0 hcl) (by decide) rfl rfl (Nat.le_of_ble_eq_true rfl) hl.1 dX11_add_23 ?_
    clear hW hcl; intro H locs hW
    refine lv_if_eq (tgt := 56) hx hb dX11_add_26 (by decide) (fun hc => ?_) (fun hc => ?_)
    · replace h := if_t hc h
      refine lv_iconst (v := 0) hx hb dX11_add_56 (by decide) ?_
      exact ri_end hret h dX11_add_57 hW
    · replace h := if_f hc h
      refine lv_aload_n hx hb dX11_add_29 rfl (lv_at hl 0 rfl) ?_
      refine lv_aload_n hx hb dX11_add_30 rfl (lv_at hl 0 rfl) ?_
      refine lv_iconst (v := 5) hx hb dX11_add_31 (by decide) ?_
      refine lv_iload_n hx hb dX11_add_32 rfl (lv_at hl 1 rfl) ?_
      refine lv_iadd hx hb dX11_add_33 ?_
      obtain ⟨r_5, hcl, h⟩ := bind_el h
      refine call_V1 X hW (kC_X11 h0) m_7_17 m_7_19 m_0_68 mv_X11_get (c_X11_get h0 hcl) (by decide) rfl rfl (Nat.le_of_ble_eq_true rfl) hl.1 dX11_add_34 ?_
      clear hW hcl; intro H locs hW
      refine lv_iload_n hx hb dX11_add_37 rfl (lv_at hl 2 rfl) ?_
      refine lv_iadd hx hb dX11_add_38 ?_
      refine lv_ldc (v := 1000000) hx hb X.1.2.2.2.1 (X.1.2.2.2.2 _ m_7_74) dX11_add_39 ?_
      refine lv_icmp_gt (tgt := 48) hx hb dX11_add_41 (by decide) (fun hc => ?_) (fun hc => ?_)
      · replace h := if_t hc h
        refine lv_iconst (v := 0) hx hb dX11_add_48 (by decide) ?_
        exact bl_X11_add_b49 X hret v0 h0 v1 v2 v0 h0 0 σ_4 h _ _ _ hW (lv_sub hl [0, 1, 2] rfl)
      · replace h := if_f hc h
        refine lv_iconst (v := 1) hx hb dX11_add_44 (by decide) ?_
        refine lv_goto (tgt := 49) hx hb dX11_add_45 (by decide) ?_
        exact bl_X11_add_b49 X hret v0 h0 v1 v2 v0 h0 1 σ_4 h _ _ _ hW (lv_sub hl [0, 1, 2] rfl)
set_option maxRecDepth 20000 in
set_option maxHeartbeats 4000000 in
theorem bl_X11_spend_b46 (X : Cx G p R s m args c cells slots cX11_spend 3 RX11 4) {r : Int32} {σ' : St} (hret : R_I G p l e R s m args below meth c cells slots Q cX11_spend r σ') :
    ∀ (v0 : Nat) (h0 : kd v0 = 10) (v1 : Int32) (v2 : Int32) (s0 : Nat) (hs0 : kd s0 = 10) (s1 : Int32) (σ : St) (_ : pf_X11_spend_b46 v0 v1 v2 s0 s1 σ = some (r, σ')) (H : Heap) (locs : List Loc) (ls : Array Slot) (_ : GW G σ s H locs) (_ : lv_has ls 3 [(0, .ref (gz G + (v0))), (1, .int (v1)), (2, .int (v2))]), W p l e R s m args below meth c H locs cells slots Q (F0 m 46 ls [.int (s1), .ref (gz G + (s0))]) := by
  have hx := X.1.1
  have hb := X.1.2.1
  intro v0 h0 v1 v2 s0 hs0 s1 σ h H locs ls hW hl
  unfold pf_X11_spend_b46 at h
  refine lv_iconst (v := 3) hx hb dX11_spend_46 (by decide) ?_
  obtain ⟨r_1, σ_1, hcl, h⟩ := bnd2_el h
  refine call_V1 X hW (kC_X11 hs0) m_6_112 m_6_114 m_0_39 mv_X11_right (c_X11_right hs0 hcl) (by decide) rfl rfl (Nat.le_of_ble_eq_true rfl) hl.1 dX11_spend_47 ?_
  clear hW hcl; intro H locs hW
  refine lv_if_ne (tgt := 55) hx hb dX11_spend_50 (by decide) (fun hc => ?_) (fun hc => ?_)
  · replace h := if_f hc h
    refine lv_aload_n hx hb dX11_spend_55 rfl (lv_at hl 0 rfl) ?_
    obtain ⟨σ_2, hcl, h⟩ := bind_el h
    refine call_V0 X hW (kC_X11 h0) m_7_13 m_7_15 m_0_67 mv_X11_change (c_X11_change h0 hcl) (by decide) rfl rfl (Nat.le_of_ble_eq_true rfl) hl.1 dX11_spend_56 ?_
    clear hW hcl; intro H locs hW
    refine lv_aload_n hx hb dX11_spend_59 rfl (lv_at hl 0 rfl) ?_
    refine lv_iconst (v := 5) hx hb dX11_spend_60 (by decide) ?_
    refine lv_iload_n hx hb dX11_spend_61 rfl (lv_at hl 1 rfl) ?_
    refine lv_iadd hx hb dX11_spend_62 ?_
    refine lv_aload_n hx hb dX11_spend_63 rfl (lv_at hl 0 rfl) ?_
    refine lv_iconst (v := 5) hx hb dX11_spend_64 (by decide) ?_
    refine lv_iload_n hx hb dX11_spend_65 rfl (lv_at hl 1 rfl) ?_
    refine lv_iadd hx hb dX11_spend_66 ?_
    obtain ⟨r_3, hcl, h⟩ := bind_el h
    refine call_V1 X hW (kC_X11 h0) m_7_17 m_7_19 m_0_68 mv_X11_get (c_X11_get h0 hcl) (by decide) rfl rfl (Nat.le_of_ble_eq_true rfl) hl.1 dX11_spend_67 ?_
    clear hW hcl; intro H locs hW
    refine lv_iload_n hx hb dX11_spend_70 rfl (lv_at hl 2 rfl) ?_
    refine lv_isub hx hb dX11_spend_71 ?_
    obtain ⟨σ_4, hcl, h⟩ := bind_el h
    refine call_V0 X hW (kC_X11 h0) m_7_21 m_7_23 m_0_69 mv_X11_put (c_X11_put h0 hcl) (by decide) rfl rfl (Nat.le_of_ble_eq_true rfl) hl.1 dX11_spend_72 ?_
    clear hW hcl; intro H locs hW
    refine lv_aload_n hx hb dX11_spend_75 rfl (lv_at hl 0 rfl) ?_
    refine lv_iconst (v := 5) hx hb dX11_spend_76 (by decide) ?_
    refine lv_iload_n hx hb dX11_spend_77 rfl (lv_at hl 1 rfl) ?_
    refine lv_iadd hx hb dX11_spend_78 ?_
    obtain ⟨r_5, hcl, h⟩ := bind_el h
    refine call_V1 X hW (kC_X11 h0) m_7_17 m_7_19 m_0_68 mv_X11_get (c_X11_get h0 hcl) (by decide) rfl rfl (Nat.le_of_ble_eq_true rfl) hl.1 dX11_spend_79 ?_
    clear hW hcl; intro H locs hW
    exact ri_end hret h dX11_spend_82 hW
  · replace h := if_t hc h
    refine lv_iconst (v := 0) hx hb dX11_spend_53 (by decide) ?_
    exact ri_end hret h dX11_spend_54 hW
set_option maxRecDepth 20000 in
set_option maxHeartbeats 4000000 in
theorem c_X11_spend {G : Gt} {l : Launch} {v0 : Nat} (h0 : kd v0 = 10) {v1 : Int32} {v2 : Int32} {σ : St} {r : Int32} {σ' : St} (hf : pf_X11_spend v0 v1 v2 σ = some (r, σ')) : Ct G l yX11_spend cX11_spend 3 (some .int) 4 [.ref (gz G + (v0)), .int (v1), .int (v2)] σ (some (.int r)) σ' := by
  refine met_i (by decide +kernel) (Nat.le_of_ble_eq_true rfl) rfl ?_
  intro p e s m args below meth c Q ls X hW hret hl
  have hx := X.1.1
  have hb := X.1.2.1
  have hl : lv_has ls 3 [(0, .ref (gz G + (v0))), (1, .int (v1)), (2, .int (v2))] := hl
  have h := hf
  clear hf
  unfold pf_X11_spend at h
  refine lv_aload_n hx hb dX11_spend_0 rfl (lv_at hl 0 rfl) ?_
  refine lv_iconst (v := 0) hx hb dX11_spend_1 (by decide) ?_
  refine sf_X11_thrown X hW h0 m_6_6 dX11_spend_2 ?_
  clear hW; intro H locs hW
  refine nm_s hW h ?_
  clear hW h; intro σ_1 hW h
  refine lv_aload_n hx hb dX11_spend_5 rfl (lv_at hl 0 rfl) ?_
  refine lv_iload_n hx hb dX11_spend_6 rfl (lv_at hl 1 rfl) ?_
  obtain ⟨r_2, σ_2, hcl, h⟩ := bnd2_el h
  refine call_V1 X hW (kC_X11 h0) m_7_104 m_7_106 m_0_86 mv_X11_isItem (c_X11_isItem h0 hcl) (by decide) rfl rfl (Nat.le_of_ble_eq_true rfl) hl.1 dX11_spend_7 ?_
  clear hW hcl; intro H locs hW
  refine lv_if_eq (tgt := 53) hx hb dX11_spend_10 (by decide) (fun hc => ?_) (fun hc => ?_)
  · replace h := if_t hc h
    refine lv_iconst (v := 0) hx hb dX11_spend_53 (by decide) ?_
    exact ri_end hret h dX11_spend_54 hW
  · replace h := if_f hc h
    refine lv_aload_n hx hb dX11_spend_13 rfl (lv_at hl 0 rfl) ?_
    refine lv_iload_n hx hb dX11_spend_14 rfl (lv_at hl 2 rfl) ?_
    refine lv_iconst (v := 1) hx hb dX11_spend_15 (by decide) ?_
    refine lv_sipush (v := 999) hx hb dX11_spend_16 (by decide) ?_
    obtain ⟨r_3, hcl, h⟩ := bind_el h
    refine call_S1 X hW m_6_109 m_6_110 mv_X11_isIn (c_X11_isIn hcl) (by decide) rfl rfl (Nat.le_of_ble_eq_true rfl) hl.1 dX11_spend_19 ?_
    clear hW hcl; intro H locs hW
    refine lv_iconst (v := 2) hx hb dX11_spend_22 (by decide) ?_
    obtain ⟨r_4, σ_4, hcl, h⟩ := bnd2_el h
    refine call_V1 X hW (kC_X11 h0) m_6_112 m_6_114 m_0_39 mv_X11_right (c_X11_right h0 hcl) (by decide) rfl rfl (Nat.le_of_ble_eq_true rfl) hl.1 dX11_spend_23 ?_
    clear hW hcl; intro H locs hW
    refine lv_if_eq (tgt := 53) hx hb dX11_spend_26 (by decide) (fun hc => ?_) (fun hc => ?_)
    · replace h := if_t hc h
      refine lv_iconst (v := 0) hx hb dX11_spend_53 (by decide) ?_
      exact ri_end hret h dX11_spend_54 hW
    · replace h := if_f hc h
      refine lv_aload_n hx hb dX11_spend_29 rfl (lv_at hl 0 rfl) ?_
      refine lv_aload_n hx hb dX11_spend_30 rfl (lv_at hl 0 rfl) ?_
      refine lv_iconst (v := 5) hx hb dX11_spend_31 (by decide) ?_
      refine lv_iload_n hx hb dX11_spend_32 rfl (lv_at hl 1 rfl) ?_
      refine lv_iadd hx hb dX11_spend_33 ?_
      obtain ⟨r_5, hcl, h⟩ := bind_el h
      refine call_V1 X hW (kC_X11 h0) m_7_17 m_7_19 m_0_68 mv_X11_get (c_X11_get h0 hcl) (by decide) rfl rfl (Nat.le_of_ble_eq_true rfl) hl.1 dX11_spend_34 ?_
      clear hW hcl; intro H locs hW
      refine lv_iload_n hx hb dX11_spend_37 rfl (lv_at hl 2 rfl) ?_
      refine lv_icmp_lt (tgt := 45) hx hb dX11_spend_38 (by decide) (fun hc => ?_) (fun hc => ?_)
      · replace h := if_t hc h
        refine lv_iconst (v := 0) hx hb dX11_spend_45 (by decide) ?_
        exact bl_X11_spend_b46 X hret v0 h0 v1 v2 v0 h0 0 σ_4 h _ _ _ hW (lv_sub hl [0, 1, 2] rfl)
      · replace h := if_f hc h
        refine lv_iconst (v := 1) hx hb dX11_spend_41 (by decide) ?_
        refine lv_goto (tgt := 46) hx hb dX11_spend_42 (by decide) ?_
        exact bl_X11_spend_b46 X hret v0 h0 v1 v2 v0 h0 1 σ_4 h _ _ _ hW (lv_sub hl [0, 1, 2] rfl)
set_option maxRecDepth 20000 in
set_option maxHeartbeats 4000000 in
theorem c_X11_mend {G : Gt} {l : Launch} {v0 : Nat} (h0 : kd v0 = 10) {v1 : Int32} {v2 : Int32} {σ : St} {r : Int32} {σ' : St} (hf : pf_X11_mend v0 v1 v2 σ = some (r, σ')) : Ct G l yX11_mend cX11_mend 4 (some .int) 6 [.ref (gz G + (v0)), .int (v1), .int (v2)] σ (some (.int r)) σ' := by
  refine met_i (by decide +kernel) (Nat.le_of_ble_eq_true rfl) rfl ?_
  intro p e s m args below meth c Q ls X hW hret hl
  have hx := X.1.1
  have hb := X.1.2.1
  have hl : lv_has ls 4 [(0, .ref (gz G + (v0))), (1, .int (v1)), (2, .int (v2))] := hl
  have h := hf
  clear hf
  unfold pf_X11_mend at h
  refine lv_aload_n hx hb dX11_mend_0 rfl (lv_at hl 0 rfl) ?_
  refine lv_iconst (v := 0) hx hb dX11_mend_1 (by decide) ?_
  refine sf_X11_thrown X hW h0 m_6_6 dX11_mend_2 ?_
  clear hW; intro H locs hW
  refine nm_s hW h ?_
  clear hW h; intro σ_1 hW h
  refine lv_aload_n hx hb dX11_mend_5 rfl (lv_at hl 0 rfl) ?_
  refine lv_iload_n hx hb dX11_mend_6 rfl (lv_at hl 1 rfl) ?_
  refine lv_iload_n hx hb dX11_mend_7 rfl (lv_at hl 2 rfl) ?_
  obtain ⟨r_2, σ_2, hcl, h⟩ := bnd2_el h
  refine call_V1 X hW (kC_X11 h0) m_7_132 m_7_134 m_0_91 mv_X11_isStep (c_X11_isStep h0 hcl) (by decide) rfl rfl (Nat.le_of_ble_eq_true rfl) hl.1 dX11_mend_8 ?_
  clear hW hcl; intro H locs hW
  refine lv_if_ne (tgt := 16) hx hb dX11_mend_11 (by decide) (fun hc => ?_) (fun hc => ?_)
  · replace h := if_f hc h
    refine lv_aload_n hx hb dX11_mend_16 rfl (lv_at hl 0 rfl) ?_
    obtain ⟨σ_3, hcl, h⟩ := bind_el h
    refine call_V0 X hW (kC_X11 h0) m_7_13 m_7_15 m_0_67 mv_X11_change (c_X11_change h0 hcl) (by decide) rfl rfl (Nat.le_of_ble_eq_true rfl) hl.1 dX11_mend_17 ?_
    clear hW hcl; intro H locs hW
    refine lv_aload_n hx hb dX11_mend_20 rfl (lv_at hl 0 rfl) ?_
    refine lv_iload_n hx hb dX11_mend_21 rfl (lv_at hl 1 rfl) ?_
    refine lv_iload_n hx hb dX11_mend_22 rfl (lv_at hl 2 rfl) ?_
    refine lv_iconst (v := 2) hx hb dX11_mend_23 (by decide) ?_
    obtain ⟨r_4, hcl, h⟩ := bind_el h
    refine call_V1 X hW (kC_X11 h0) m_7_50 m_7_52 m_0_75 mv_X11_ofStep (c_X11_ofStep h0 hcl) (by decide) rfl rfl (Nat.le_of_ble_eq_true rfl) hl.1 dX11_mend_24 ?_
    clear hW hcl; intro H locs hW
    refine lv_istore_n (lv' := [(3, .int (r_4)), (0, .ref (gz G + (v0))), (1, .int (v1)), (2, .int (v2))]) hx hb dX11_mend_27 rfl hl (by decide) rfl ?_
    clear hl; intro ls hl
    refine lv_aload_n hx hb dX11_mend_28 rfl (lv_at hl 1 rfl) ?_
    refine lv_iload_n hx hb dX11_mend_29 rfl (lv_at hl 2 rfl) ?_
    refine lv_iload_n hx hb dX11_mend_30 rfl (lv_at hl 3 rfl) ?_
    refine lv_iconst (v := 2) hx hb dX11_mend_31 (by decide) ?_
    refine lv_iconst (v := 0) hx hb dX11_mend_32 (by decide) ?_
    obtain ⟨σ_5, hcl, h⟩ := bind_el h
    refine call_V0 X hW (kC_X11 h0) m_8_5 m_8_7 m_0_102 mv_X11_putStep (c_X11_putStep h0 hcl) (by decide) rfl rfl (Nat.le_of_ble_eq_true rfl) hl.1 dX11_mend_33 ?_
    clear hW hcl; intro H locs hW
    refine lv_iload_n hx hb dX11_mend_36 rfl (lv_at hl 0 rfl) ?_
    exact ri_end hret h dX11_mend_37 hW
  · replace h := if_t hc h
    refine lv_iconst (v := 0) hx hb dX11_mend_14 (by decide) ?_
    exact ri_end hret h dX11_mend_15 hW
set_option maxRecDepth 20000 in
set_option maxHeartbeats 4000000 in
theorem c_X11_giveUp {G : Gt} {l : Launch} {v0 : Nat} (h0 : kd v0 = 10) {v1 : Int32} {σ : St} {r : Int32} {σ' : St} (hf : pf_X11_giveUp v0 v1 σ = some (r, σ')) : Ct G l yX11_giveUp cX11_giveUp 2 (some .int) 6 [.ref (gz G + (v0)), .int (v1)] σ (some (.int r)) σ' := by
  refine met_i (by decide +kernel) (Nat.le_of_ble_eq_true rfl) rfl ?_
  intro p e s m args below meth c Q ls X hW hret hl
  have hx := X.1.1
  have hb := X.1.2.1
  have hl : lv_has ls 2 [(0, .ref (gz G + (v0))), (1, .int (v1))] := hl
  have h := hf
  clear hf
  unfold pf_X11_giveUp at h
  refine lv_aload_n hx hb dX11_giveUp_0 rfl (lv_at hl 0 rfl) ?_
  refine lv_iconst (v := 0) hx hb dX11_giveUp_1 (by decide) ?_
  refine sf_X11_thrown X hW h0 m_6_6 dX11_giveUp_2 ?_
  clear hW; intro H locs hW
  refine nm_s hW h ?_
  clear hW h; intro σ_1 hW h
  refine lv_aload_n hx hb dX11_giveUp_5 rfl (lv_at hl 0 rfl) ?_
  refine lv_iload_n hx hb dX11_giveUp_6 rfl (lv_at hl 1 rfl) ?_
  obtain ⟨r_2, σ_2, hcl, h⟩ := bnd2_el h
  refine call_V1 X hW (kC_X11 h0) m_7_112 m_7_114 m_0_87 mv_X11_isQuest (c_X11_isQuest h0 hcl) (by decide) rfl rfl (Nat.le_of_ble_eq_true rfl) hl.1 dX11_giveUp_7 ?_
  clear hW hcl; intro H locs hW
  refine lv_if_eq (tgt := 26) hx hb dX11_giveUp_10 (by decide) (fun hc => ?_) (fun hc => ?_)
  · replace h := if_t hc h
    refine lv_iconst (v := 0) hx hb dX11_giveUp_26 (by decide) ?_
    exact ri_end hret h dX11_giveUp_27 hW
  · replace h := if_f hc h
    refine lv_aload_n hx hb dX11_giveUp_13 rfl (lv_at hl 0 rfl) ?_
    refine lv_aload_n hx hb dX11_giveUp_14 rfl (lv_at hl 0 rfl) ?_
    refine lv_iload_n hx hb dX11_giveUp_15 rfl (lv_at hl 1 rfl) ?_
    obtain ⟨r_3, hcl, h⟩ := bind_el h
    refine call_V1 X hW (kC_X11 h0) m_7_96 m_7_98 m_0_85 mv_X11_isQuestOpen (c_X11_isQuestOpen h0 hcl) (by decide) rfl rfl (Nat.le_of_ble_eq_true rfl) hl.1 dX11_giveUp_16 ?_
    clear hW hcl; intro H locs hW
    refine lv_iconst (v := 2) hx hb dX11_giveUp_19 (by decide) ?_
    obtain ⟨r_4, σ_4, hcl, h⟩ := bnd2_el h
    refine call_V1 X hW (kC_X11 h0) m_6_112 m_6_114 m_0_39 mv_X11_right (c_X11_right h0 hcl) (by decide) rfl rfl (Nat.le_of_ble_eq_true rfl) hl.1 dX11_giveUp_20 ?_
    clear hW hcl; intro H locs hW
    refine lv_if_ne (tgt := 28) hx hb dX11_giveUp_23 (by decide) (fun hc => ?_) (fun hc => ?_)
    · replace h := if_f hc h
      refine lv_aload_n hx hb dX11_giveUp_28 rfl (lv_at hl 0 rfl) ?_
      obtain ⟨σ_5, hcl, h⟩ := bind_el h
      refine call_V0 X hW (kC_X11 h0) m_7_13 m_7_15 m_0_67 mv_X11_change (c_X11_change h0 hcl) (by decide) rfl rfl (Nat.le_of_ble_eq_true rfl) hl.1 dX11_giveUp_29 ?_
      clear hW hcl; intro H locs hW
      refine lv_aload_n hx hb dX11_giveUp_32 rfl (lv_at hl 0 rfl) ?_
      refine lv_iload_n hx hb dX11_giveUp_33 rfl (lv_at hl 1 rfl) ?_
      refine lv_iconst (v := 1) hx hb dX11_giveUp_34 (by decide) ?_
      refine lv_iconst (v := 2) hx hb dX11_giveUp_35 (by decide) ?_
      obtain ⟨σ_6, hcl, h⟩ := bind_el h
      refine call_V0 X hW (kC_X11 h0) m_8_9 m_8_11 m_0_103 mv_X11_putQuest (c_X11_putQuest h0 hcl) (by decide) rfl rfl (Nat.le_of_ble_eq_true rfl) hl.1 dX11_giveUp_36 ?_
      clear hW hcl; intro H locs hW
      refine lv_aload_n hx hb dX11_giveUp_39 rfl (lv_at hl 0 rfl) ?_
      refine lv_iload_n hx hb dX11_giveUp_40 rfl (lv_at hl 1 rfl) ?_
      obtain ⟨r_7, hcl, h⟩ := bind_el h
      refine call_V1 X hW (kC_X11 h0) m_7_46 m_7_48 m_0_74 mv_X11_doneSet (c_X11_doneSet h0 hcl) (by decide) rfl rfl (Nat.le_of_ble_eq_true rfl) hl.1 dX11_giveUp_41 ?_
      clear hW hcl; intro H locs hW
      exact ri_end hret h dX11_giveUp_44 hW
    · replace h := if_t hc h
      refine lv_iconst (v := 0) hx hb dX11_giveUp_26 (by decide) ?_
      exact ri_end hret h dX11_giveUp_27 hW
set_option maxRecDepth 20000 in
set_option maxHeartbeats 4000000 in
theorem bl_X11_reopen_L35 (X : Cx G p R s m args c cells slots cX11_reopen 4 RX11 5) {r : Int32} {σ' : St} (hret : R_I G p l e R s m args below meth c cells slots Q cX11_reopen r σ') :
    ∀ (n : Nat), ∀ (v0 : Nat) (h0 : kd v0 = 10) (v1 : Int32) (v2 : Int32) (v3 : Int32) (σ : St) (_ : pf_X11_reopen_L35 n v0 v1 v2 v3 σ = some (r, σ')) (H : Heap) (locs : List Loc) (ls : Array Slot) (_ : GW G σ s H locs) (_ : lv_has ls 4 [(0, .ref (gz G + (v0))), (1, .int (v1)), (2, .int (v2)), (3, .int (v3))]), W p l e R s m args below meth c H locs cells slots Q (F0 m 35 ls []) := by
  have hx := X.1.1
  have hb := X.1.2.1
  intro n
  induction n with
  | zero => intro v0 h0 v1 v2 v3 σ h H locs ls hW hl; cases h
  | succ n ih =>
    intro v0 h0 v1 v2 v3 σ h H locs ls hW hl
    rw [pf_X11_reopen_L35.eq_2] at h
    refine lv_iload_n hx hb dX11_reopen_35 rfl (lv_at hl 3 rfl) ?_
    refine lv_aload_n hx hb dX11_reopen_36 rfl (lv_at hl 0 rfl) ?_
    refine lv_iload_n hx hb dX11_reopen_37 rfl (lv_at hl 1 rfl) ?_
    obtain ⟨r_1, hcl, h⟩ := bind_el h
    refine call_V1 X hW (kC_X11 h0) m_7_38 m_7_40 m_0_72 mv_X11_stepsOf (c_X11_stepsOf h0 hcl) (by decide) rfl rfl (Nat.le_of_ble_eq_true rfl) hl.1 dX11_reopen_38 ?_
    clear hW hcl; intro H locs hW
    refine lv_icmp_ge (tgt := 66) hx hb dX11_reopen_41 (by decide) (fun hc => ?_) (fun hc => ?_)
    · replace h := if_t hc h
      refine lv_iload_n hx hb dX11_reopen_66 rfl (lv_at hl 2 rfl) ?_
      exact ri_end hret h dX11_reopen_67 hW
    · replace h := if_f hc h
      refine lv_aload_n hx hb dX11_reopen_44 rfl (lv_at hl 0 rfl) ?_
      refine lv_iload_n hx hb dX11_reopen_45 rfl (lv_at hl 1 rfl) ?_
      refine lv_iload_n hx hb dX11_reopen_46 rfl (lv_at hl 3 rfl) ?_
      refine lv_iconst (v := 3) hx hb dX11_reopen_47 (by decide) ?_
      refine lv_iconst (v := 0) hx hb dX11_reopen_48 (by decide) ?_
      obtain ⟨σ_2, hcl, h⟩ := bind_el h
      refine call_V0 X hW (kC_X11 h0) m_8_5 m_8_7 m_0_102 mv_X11_putStep (c_X11_putStep h0 hcl) (by decide) rfl rfl (Nat.le_of_ble_eq_true rfl) hl.1 dX11_reopen_49 ?_
      clear hW hcl; intro H locs hW
      refine lv_aload_n hx hb dX11_reopen_52 rfl (lv_at hl 0 rfl) ?_
      refine lv_iload_n hx hb dX11_reopen_53 rfl (lv_at hl 1 rfl) ?_
      refine lv_iload_n hx hb dX11_reopen_54 rfl (lv_at hl 3 rfl) ?_
      refine lv_iconst (v := 2) hx hb dX11_reopen_55 (by decide) ?_
      refine lv_iconst (v := 0) hx hb dX11_reopen_56 (by decide) ?_
      obtain ⟨σ_3, hcl, h⟩ := bind_el h
      refine call_V0 X hW (kC_X11 h0) m_8_5 m_8_7 m_0_102 mv_X11_putStep (c_X11_putStep h0 hcl) (by decide) rfl rfl (Nat.le_of_ble_eq_true rfl) hl.1 dX11_reopen_57 ?_
      clear hW hcl; intro H locs hW
      refine w_iinc (v := 1) (lv' := fun y => [(3, .int (y)), (0, .ref (gz G + (v0))), (1, .int (v1)), (2, .int (v2))]) hx hb dX11_reopen_60 hl (k := 3) rfl (by decide) (by decide) (fun _ => rfl) h ?_
      clear h hl; intro v3_4 h ls hl
      refine lv_goto (tgt := 35) hx hb dX11_reopen_63 (by decide) ?_
      exact ih v0 h0 v1 v2 v3_4 σ_3 h _ _ _ hW (lv_sub hl [1, 2, 3, 0] rfl)
set_option maxRecDepth 20000 in
set_option maxHeartbeats 4000000 in
theorem c_X11_reopen {G : Gt} {l : Launch} {v0 : Nat} (h0 : kd v0 = 10) {v1 : Int32} {σ : St} {r : Int32} {σ' : St} (hf : pf_X11_reopen v0 v1 σ = some (r, σ')) : Ct G l yX11_reopen cX11_reopen 4 (some .int) 5 [.ref (gz G + (v0)), .int (v1)] σ (some (.int r)) σ' := by
  refine met_i (by decide +kernel) (Nat.le_of_ble_eq_true rfl) rfl ?_
  intro p e s m args below meth c Q ls X hW hret hl
  have hx := X.1.1
  have hb := X.1.2.1
  have hl : lv_has ls 4 [(0, .ref (gz G + (v0))), (1, .int (v1))] := hl
  have h := hf
  clear hf
  unfold pf_X11_reopen at h
  refine lv_aload_n hx hb dX11_reopen_0 rfl (lv_at hl 0 rfl) ?_
  refine lv_iconst (v := 0) hx hb dX11_reopen_1 (by decide) ?_
  refine sf_X11_thrown X hW h0 m_6_6 dX11_reopen_2 ?_
  clear hW; intro H locs hW
  refine nm_s hW h ?_
  clear hW h; intro σ_1 hW h
  refine lv_aload_n hx hb dX11_reopen_5 rfl (lv_at hl 0 rfl) ?_
  refine lv_iload_n hx hb dX11_reopen_6 rfl (lv_at hl 1 rfl) ?_
  obtain ⟨r_2, σ_2, hcl, h⟩ := bnd2_el h
  refine call_V1 X hW (kC_X11 h0) m_7_112 m_7_114 m_0_87 mv_X11_isQuest (c_X11_isQuest h0 hcl) (by decide) rfl rfl (Nat.le_of_ble_eq_true rfl) hl.1 dX11_reopen_7 ?_
  clear hW hcl; intro H locs hW
  refine lv_if_ne (tgt := 15) hx hb dX11_reopen_10 (by decide) (fun hc => ?_) (fun hc => ?_)
  · replace h := if_f hc h
    refine lv_aload_n hx hb dX11_reopen_15 rfl (lv_at hl 0 rfl) ?_
    obtain ⟨σ_3, hcl, h⟩ := bind_el h
    refine call_V0 X hW (kC_X11 h0) m_7_13 m_7_15 m_0_67 mv_X11_change (c_X11_change h0 hcl) (by decide) rfl rfl (Nat.le_of_ble_eq_true rfl) hl.1 dX11_reopen_16 ?_
    clear hW hcl; intro H locs hW
    refine lv_aload_n hx hb dX11_reopen_19 rfl (lv_at hl 0 rfl) ?_
    refine lv_iload_n hx hb dX11_reopen_20 rfl (lv_at hl 1 rfl) ?_
    refine lv_iconst (v := 1) hx hb dX11_reopen_21 (by decide) ?_
    obtain ⟨r_4, hcl, h⟩ := bind_el h
    refine call_V1 X hW (kC_X11 h0) m_7_42 m_7_44 m_0_73 mv_X11_ofQuest (c_X11_ofQuest h0 hcl) (by decide) rfl rfl (Nat.le_of_ble_eq_true rfl) hl.1 dX11_reopen_22 ?_
    clear hW hcl; intro H locs hW
    refine lv_istore_n (lv' := [(2, .int (r_4)), (0, .ref (gz G + (v0))), (1, .int (v1))]) hx hb dX11_reopen_25 rfl hl (by decide) rfl ?_
    clear hl; intro ls hl
    refine lv_aload_n hx hb dX11_reopen_26 rfl (lv_at hl 1 rfl) ?_
    refine lv_iload_n hx hb dX11_reopen_27 rfl (lv_at hl 2 rfl) ?_
    refine lv_iconst (v := 1) hx hb dX11_reopen_28 (by decide) ?_
    refine lv_iconst (v := 0) hx hb dX11_reopen_29 (by decide) ?_
    obtain ⟨σ_5, hcl, h⟩ := bind_el h
    refine call_V0 X hW (kC_X11 h0) m_8_9 m_8_11 m_0_103 mv_X11_putQuest (c_X11_putQuest h0 hcl) (by decide) rfl rfl (Nat.le_of_ble_eq_true rfl) hl.1 dX11_reopen_30 ?_
    clear hW hcl; intro H locs hW
    refine lv_iconst (v := 0) hx hb dX11_reopen_33 (by decide) ?_
    refine lv_istore_n (lv' := [(3, .int (0)), (2, .int (r_4)), (0, .ref (gz G + (v0))), (1, .int (v1))]) hx hb dX11_reopen_34 rfl hl (by decide) rfl ?_
    clear hl; intro ls hl
    exact bl_X11_reopen_L35 X hret FU v0 h0 v1 r_4 0 σ_5 h _ _ _ hW (lv_sub hl [2, 3, 1, 0] rfl)
  · replace h := if_t hc h
    refine lv_iconst (v := 0) hx hb dX11_reopen_13 (by decide) ?_
    exact ri_end hret h dX11_reopen_14 hW
set_option maxRecDepth 20000 in
set_option maxHeartbeats 4000000 in
theorem c_X11_undo {G : Gt} {l : Launch} {v0 : Nat} (h0 : kd v0 = 10) {σ : St} {r : Int32} {σ' : St} (hf : pf_X11_undo v0 σ = some (r, σ')) : Ct G l yX11_undo cX11_undo 1 (some .int) 2 [.ref (gz G + (v0))] σ (some (.int r)) σ' := by
  refine met_i (by decide +kernel) (Nat.le_of_ble_eq_true rfl) rfl ?_
  intro p e s m args below meth c Q ls X hW hret hl
  have hx := X.1.1
  have hb := X.1.2.1
  have hl : lv_has ls 1 [(0, .ref (gz G + (v0)))] := hl
  have h := hf
  clear hf
  unfold pf_X11_undo at h
  refine lv_aload_n hx hb dX11_undo_0 rfl (lv_at hl 0 rfl) ?_
  refine lv_iconst (v := 0) hx hb dX11_undo_1 (by decide) ?_
  refine sf_X11_thrown X hW h0 m_6_6 dX11_undo_2 ?_
  clear hW; intro H locs hW
  refine nm_s hW h ?_
  clear hW h; intro σ_1 hW h
  refine lv_aload_n hx hb dX11_undo_5 rfl (lv_at hl 0 rfl) ?_
  refine gf_X11_undoable X hW h0 m_6_10 dX11_undo_6 ?_
  refine lv_if_ne (tgt := 14) hx hb dX11_undo_9 (by decide) (fun hc => ?_) (fun hc => ?_)
  · replace h := if_f hc h
    refine lv_aload_n hx hb dX11_undo_14 rfl (lv_at hl 0 rfl) ?_
    refine lv_dup hx hb dX11_undo_15 rfl ?_
    refine gf_X11_undoable X hW h0 m_6_10 dX11_undo_16 ?_
    refine lv_iconst (v := 1) hx hb dX11_undo_19 (by decide) ?_
    refine lv_isub hx hb dX11_undo_20 ?_
    refine sf_X11_undoable X hW h0 m_6_10 dX11_undo_21 ?_
    clear hW; intro H locs hW
    refine nm_s hW h ?_
    clear hW h; intro σ_2 hW h
    refine lv_aload_n hx hb dX11_undo_24 rfl (lv_at hl 0 rfl) ?_
    refine lv_aload_n hx hb dX11_undo_25 rfl (lv_at hl 0 rfl) ?_
    refine gf_X11_now X hW h0 m_6_9 dX11_undo_26 ?_
    refine lv_bipush (v := 9) hx hb dX11_undo_29 (by decide) ?_
    refine lv_iadd hx hb dX11_undo_31 ?_
    refine lv_iconst (v := 1) hx hb dX11_undo_32 (by decide) ?_
    refine lv_isub hx hb dX11_undo_33 ?_
    refine lv_bipush (v := 9) hx hb dX11_undo_34 (by decide) ?_
    refine w_irem hx hb dX11_undo_36 (by decide) ?_
    refine sf_X11_now X hW h0 m_6_9 dX11_undo_37 ?_
    clear hW; intro H locs hW
    refine nm_s hW h ?_
    clear hW h; intro σ_3 hW h
    refine lv_aload_n hx hb dX11_undo_40 rfl (lv_at hl 0 rfl) ?_
    refine gf_X11_undoable X hW h0 m_6_10 dX11_undo_41 ?_
    exact ri_end hret h dX11_undo_44 hW
  · replace h := if_t hc h
    refine lv_iconst (v := (-1)) hx hb dX11_undo_12 (by decide) ?_
    exact ri_end hret h dX11_undo_13 hW
set_option maxRecDepth 20000 in
set_option maxHeartbeats 4000000 in
theorem c_X11_joins {G : Gt} {l : Launch} {v0 : Int64} {v2 : Int64} {σ : St} {r : Int64} (hf : pf_X11_joins v0 v2 σ = some r) : Ct G l yX11_joins cX11_joins 4 (some .long) 2 [.long (v0), .long (v2)] σ (some (.long r)) σ := by
  refine met_l (by decide +kernel) (Nat.le_of_ble_eq_true rfl) rfl ?_
  intro p e s m args below meth c Q ls X hW hret hl
  have hx := X.1.1
  have hb := X.1.2.1
  have hl : lv_has ls 4 [(0, .long (v0)), (2, .long (v2))] := hl
  have h := hf
  clear hf
  unfold pf_X11_joins at h
  refine lv_ldc2 (v := 31) hx hb X.1.2.2.2.1 (X.1.2.2.2.2 _ m_8_52) dX11_joins_0 ?_
  refine lv_lload_n hx hb dX11_joins_3 rfl (lv_at hl 0 rfl) ?_
  refine lv_lmul hx hb dX11_joins_4 ?_
  refine lv_lload_n hx hb dX11_joins_5 rfl (lv_at hl 1 rfl) ?_
  refine lv_ladd hx hb dX11_joins_6 ?_
  exact rl_end0 hret h dX11_joins_7 hW
set_option maxRecDepth 20000 in
set_option maxHeartbeats 4000000 in
theorem bl_X11_checksum_b154 (X : Cx G p R s m args c cells slots cX11_checksum 6 RX11 12) {r : Int64} {σ' : St} (hret : R_L G p l e R s m args below meth c cells slots Q cX11_checksum r σ') {k113 : Nat → Int64 → Int32 → Int32 → St → (Option (Int64 × St))}
    (hk113 : ∀ (v0 : Nat) (h0 : kd v0 = 10) (v1 : Int64) (v3 : Int32) (v4 : Int32) (σ : St) (_ : k113 v0 v1 v3 v4 σ = some (r, σ')) (H : Heap) (locs : List Loc) (ls : Array Slot) (_ : GW G σ s H locs) (_ : lv_has ls 6 [(0, .ref (gz G + (v0))), (1, .long (v1)), (3, .int (v3)), (4, .int (v4))]), W p l e R s m args below meth c H locs cells slots Q (F0 m 113 ls [])) :
    ∀ (v0 : Nat) (h0 : kd v0 = 10) (v1 : Int64) (v3 : Int32) (v4 : Int32) (σ : St) (_ : pf_X11_checksum_b154 k113 v0 v1 v3 v4 σ = some (r, σ')) (H : Heap) (locs : List Loc) (ls : Array Slot) (_ : GW G σ s H locs) (_ : lv_has ls 6 [(0, .ref (gz G + (v0))), (1, .long (v1)), (3, .int (v3)), (4, .int (v4))]), W p l e R s m args below meth c H locs cells slots Q (F0 m 154 ls []) := by
  have hx := X.1.1
  have hb := X.1.2.1
  intro v0 h0 v1 v3 v4 σ h H locs ls hW hl
  unfold pf_X11_checksum_b154 at h
  refine w_iinc (v := 1) (lv' := fun y => [(4, .int (y)), (0, .ref (gz G + (v0))), (1, .long (v1)), (3, .int (v3))]) hx hb dX11_checksum_154 hl (k := 3) rfl (by decide) (by decide) (fun _ => rfl) h ?_
  clear h hl; intro v4_1 h ls hl
  refine lv_goto (tgt := 113) hx hb dX11_checksum_157 (by decide) ?_
  exact hk113 v0 h0 v1 v3 v4_1 σ h _ _ _ hW (lv_sub hl [1, 2, 3, 0] rfl)
set_option maxRecDepth 20000 in
set_option maxHeartbeats 4000000 in
theorem bl_X11_checksum_L126 (X : Cx G p R s m args c cells slots cX11_checksum 6 RX11 12) {r : Int64} {σ' : St} (hret : R_L G p l e R s m args below meth c cells slots Q cX11_checksum r σ') {k154 : Nat → Int64 → Int32 → Int32 → St → (Option (Int64 × St))}
    (hk154 : ∀ (v0 : Nat) (h0 : kd v0 = 10) (v1 : Int64) (v3 : Int32) (v4 : Int32) (σ : St) (_ : k154 v0 v1 v3 v4 σ = some (r, σ')) (H : Heap) (locs : List Loc) (ls : Array Slot) (_ : GW G σ s H locs) (_ : lv_has ls 6 [(0, .ref (gz G + (v0))), (1, .long (v1)), (3, .int (v3)), (4, .int (v4))]), W p l e R s m args below meth c H locs cells slots Q (F0 m 154 ls [])) :
    ∀ (n : Nat), ∀ (v0 : Nat) (h0 : kd v0 = 10) (v1 : Int64) (v3 : Int32) (v4 : Int32) (v5 : Int32) (σ : St) (_ : pf_X11_checksum_L126 k154 n v0 v1 v3 v4 v5 σ = some (r, σ')) (H : Heap) (locs : List Loc) (ls : Array Slot) (_ : GW G σ s H locs) (_ : lv_has ls 6 [(0, .ref (gz G + (v0))), (1, .long (v1)), (3, .int (v3)), (4, .int (v4)), (5, .int (v5))]), W p l e R s m args below meth c H locs cells slots Q (F0 m 126 ls []) := by
  have hx := X.1.1
  have hb := X.1.2.1
  intro n
  induction n with
  | zero => intro v0 h0 v1 v3 v4 v5 σ h H locs ls hW hl; cases h
  | succ n ih =>
    intro v0 h0 v1 v3 v4 v5 σ h H locs ls hW hl
    rw [pf_X11_checksum_L126.eq_2] at h
    refine lv_iload hx hb dX11_checksum_126 (lv_at hl 4 rfl) ?_
    refine lv_bipush (v := 6) hx hb dX11_checksum_128 (by decide) ?_
    refine lv_icmp_ge (tgt := 154) hx hb dX11_checksum_130 (by decide) (fun hc => ?_) (fun hc => ?_)
    · replace h := if_t hc h
      exact hk154 v0 h0 v1 v3 v4 σ h _ _ _ hW (lv_sub hl [0, 1, 2, 3] rfl)
    · replace h := if_f hc h
      refine lv_lload_n hx hb dX11_checksum_133 rfl (lv_at hl 1 rfl) ?_
      refine lv_aload_n hx hb dX11_checksum_134 rfl (lv_at hl 0 rfl) ?_
      refine lv_iload_n hx hb dX11_checksum_135 rfl (lv_at hl 2 rfl) ?_
      refine lv_iload hx hb dX11_checksum_136 (lv_at hl 3 rfl) ?_
      refine lv_iload hx hb dX11_checksum_138 (lv_at hl 4 rfl) ?_
      obtain ⟨r_1, hcl, h⟩ := bind_el h
      refine call_V1 X hW (kC_X11 h0) m_7_136 m_7_138 m_0_92 mv_X11_toldOfStep (c_X11_toldOfStep h0 hcl) (by decide) rfl rfl (Nat.le_of_ble_eq_true rfl) hl.1 dX11_checksum_140 ?_
      clear hW hcl; intro H locs hW
      refine lv_i2l hx hb dX11_checksum_143 rfl ?_
      obtain ⟨r_2, hcl, h⟩ := bind_el h
      refine call_S1 X hW m_8_49 m_8_50 mv_X11_joins (c_X11_joins hcl) (by decide) rfl rfl (Nat.le_of_ble_eq_true rfl) hl.1 dX11_checksum_144 ?_
      clear hW hcl; intro H locs hW
      refine lv_lstore_n (lv' := [(1, .long (r_2)), (0, .ref (gz G + (v0))), (3, .int (v3)), (4, .int (v4)), (5, .int (v5))]) hx hb dX11_checksum_147 rfl hl (by decide) rfl ?_
      clear hl; intro ls hl
      refine w_iinc (v := 1) (lv' := fun y => [(5, .int (y)), (1, .long (r_2)), (0, .ref (gz G + (v0))), (3, .int (v3)), (4, .int (v4))]) hx hb dX11_checksum_148 hl (k := 4) rfl (by decide) (by decide) (fun _ => rfl) h ?_
      clear h hl; intro v5_3 h ls hl
      refine lv_goto (tgt := 126) hx hb dX11_checksum_151 (by decide) ?_
      exact ih v0 h0 r_2 v3 v4 v5_3 σ h _ _ _ hW (lv_sub hl [2, 1, 3, 4, 0] rfl)
set_option maxRecDepth 20000 in
set_option maxHeartbeats 4000000 in
theorem bl_X11_checksum_b160 (X : Cx G p R s m args c cells slots cX11_checksum 6 RX11 12) {r : Int64} {σ' : St} (hret : R_L G p l e R s m args below meth c cells slots Q cX11_checksum r σ') {k61 : Nat → Int64 → Int32 → St → (Option (Int64 × St))}
    (hk61 : ∀ (v0 : Nat) (h0 : kd v0 = 10) (v1 : Int64) (v3 : Int32) (σ : St) (_ : k61 v0 v1 v3 σ = some (r, σ')) (H : Heap) (locs : List Loc) (ls : Array Slot) (_ : GW G σ s H locs) (_ : lv_has ls 6 [(0, .ref (gz G + (v0))), (1, .long (v1)), (3, .int (v3))]), W p l e R s m args below meth c H locs cells slots Q (F0 m 61 ls [])) :
    ∀ (v0 : Nat) (h0 : kd v0 = 10) (v1 : Int64) (v3 : Int32) (σ : St) (_ : pf_X11_checksum_b160 k61 v0 v1 v3 σ = some (r, σ')) (H : Heap) (locs : List Loc) (ls : Array Slot) (_ : GW G σ s H locs) (_ : lv_has ls 6 [(0, .ref (gz G + (v0))), (1, .long (v1)), (3, .int (v3))]), W p l e R s m args below meth c H locs cells slots Q (F0 m 160 ls []) := by
  have hx := X.1.1
  have hb := X.1.2.1
  intro v0 h0 v1 v3 σ h H locs ls hW hl
  unfold pf_X11_checksum_b160 at h
  refine w_iinc (v := 1) (lv' := fun y => [(3, .int (y)), (0, .ref (gz G + (v0))), (1, .long (v1))]) hx hb dX11_checksum_160 hl (k := 2) rfl (by decide) (by decide) (fun _ => rfl) h ?_
  clear h hl; intro v3_1 h ls hl
  refine lv_goto (tgt := 61) hx hb dX11_checksum_163 (by decide) ?_
  exact hk61 v0 h0 v1 v3_1 σ h _ _ _ hW (lv_sub hl [1, 2, 0] rfl)
set_option maxRecDepth 20000 in
set_option maxHeartbeats 4000000 in
theorem bl_X11_checksum_L113 (X : Cx G p R s m args c cells slots cX11_checksum 6 RX11 12) {r : Int64} {σ' : St} (hret : R_L G p l e R s m args below meth c cells slots Q cX11_checksum r σ') {k160 : Nat → Int64 → Int32 → St → (Option (Int64 × St))}
    (hk160 : ∀ (v0 : Nat) (h0 : kd v0 = 10) (v1 : Int64) (v3 : Int32) (σ : St) (_ : k160 v0 v1 v3 σ = some (r, σ')) (H : Heap) (locs : List Loc) (ls : Array Slot) (_ : GW G σ s H locs) (_ : lv_has ls 6 [(0, .ref (gz G + (v0))), (1, .long (v1)), (3, .int (v3))]), W p l e R s m args below meth c H locs cells slots Q (F0 m 160 ls [])) :
    ∀ (n : Nat), ∀ (v0 : Nat) (h0 : kd v0 = 10) (v1 : Int64) (v3 : Int32) (v4 : Int32) (σ : St) (_ : pf_X11_checksum_L113 k160 n v0 v1 v3 v4 σ = some (r, σ')) (H : Heap) (locs : List Loc) (ls : Array Slot) (_ : GW G σ s H locs) (_ : lv_has ls 6 [(0, .ref (gz G + (v0))), (1, .long (v1)), (3, .int (v3)), (4, .int (v4))]), W p l e R s m args below meth c H locs cells slots Q (F0 m 113 ls []) := by
  have hx := X.1.1
  have hb := X.1.2.1
  intro n
  induction n with
  | zero => intro v0 h0 v1 v3 v4 σ h H locs ls hW hl; cases h
  | succ n ih =>
    intro v0 h0 v1 v3 v4 σ h H locs ls hW hl
    rw [pf_X11_checksum_L113.eq_2] at h
    refine lv_iload hx hb dX11_checksum_113 (lv_at hl 3 rfl) ?_
    refine lv_aload_n hx hb dX11_checksum_115 rfl (lv_at hl 0 rfl) ?_
    refine lv_iload_n hx hb dX11_checksum_116 rfl (lv_at hl 2 rfl) ?_
    obtain ⟨r_1, hcl, h⟩ := bind_el h
    refine call_V1 X hW (kC_X11 h0) m_7_38 m_7_40 m_0_72 mv_X11_stepsOf (c_X11_stepsOf h0 hcl) (by decide) rfl rfl (Nat.le_of_ble_eq_true rfl) hl.1 dX11_checksum_117 ?_
    clear hW hcl; intro H locs hW
    refine lv_icmp_ge (tgt := 160) hx hb dX11_checksum_120 (by decide) (fun hc => ?_) (fun hc => ?_)
    · replace h := if_t hc h
      exact hk160 v0 h0 v1 v3 σ h _ _ _ hW (lv_sub hl [0, 1, 2] rfl)
    · replace h := if_f hc h
      refine lv_iconst (v := 0) hx hb dX11_checksum_123 (by decide) ?_
      refine lv_istore (lv' := [(5, .int (0)), (0, .ref (gz G + (v0))), (1, .long (v1)), (3, .int (v3)), (4, .int (v4))]) hx hb dX11_checksum_124 hl (by decide) rfl ?_
      clear hl; intro ls hl
      exact bl_X11_checksum_L126 X hret (bl_X11_checksum_b154 X hret ih) FU v0 h0 v1 v3 v4 0 σ h _ _ _ hW (lv_sub hl [1, 2, 3, 4, 0] rfl)
set_option maxRecDepth 20000 in
set_option maxHeartbeats 4000000 in
theorem bl_X11_checksum_b99 (X : Cx G p R s m args c cells slots cX11_checksum 6 RX11 12) {r : Int64} {σ' : St} (hret : R_L G p l e R s m args below meth c cells slots Q cX11_checksum r σ') {k61 : Nat → Int64 → Int32 → St → (Option (Int64 × St))}
    (hk61 : ∀ (v0 : Nat) (h0 : kd v0 = 10) (v1 : Int64) (v3 : Int32) (σ : St) (_ : k61 v0 v1 v3 σ = some (r, σ')) (H : Heap) (locs : List Loc) (ls : Array Slot) (_ : GW G σ s H locs) (_ : lv_has ls 6 [(0, .ref (gz G + (v0))), (1, .long (v1)), (3, .int (v3))]), W p l e R s m args below meth c H locs cells slots Q (F0 m 61 ls [])) :
    ∀ (v0 : Nat) (h0 : kd v0 = 10) (v1 : Int64) (v3 : Int32) (σ : St) (_ : pf_X11_checksum_b99 k61 v0 v1 v3 σ = some (r, σ')) (H : Heap) (locs : List Loc) (ls : Array Slot) (_ : GW G σ s H locs) (_ : lv_has ls 6 [(0, .ref (gz G + (v0))), (1, .long (v1)), (3, .int (v3))]), W p l e R s m args below meth c H locs cells slots Q (F0 m 99 ls []) := by
  have hx := X.1.1
  have hb := X.1.2.1
  intro v0 h0 v1 v3 σ h H locs ls hW hl
  unfold pf_X11_checksum_b99 at h
  refine lv_lload_n hx hb dX11_checksum_99 rfl (lv_at hl 1 rfl) ?_
  refine lv_aload_n hx hb dX11_checksum_100 rfl (lv_at hl 0 rfl) ?_
  refine lv_iload_n hx hb dX11_checksum_101 rfl (lv_at hl 2 rfl) ?_
  obtain ⟨r_1, σ_1, hcl, h⟩ := bnd2_el h
  refine call_V1 X hW (kC_X11 h0) m_7_196 m_7_198 m_0_96 mv_X11_worthOf (c_X11_worthOf h0 hcl) (by decide) rfl rfl (Nat.le_of_ble_eq_true rfl) hl.1 dX11_checksum_102 ?_
  clear hW hcl; intro H locs hW
  refine lv_i2l hx hb dX11_checksum_105 rfl ?_
  obtain ⟨r_2, hcl, h⟩ := bind_el h
  refine call_S1 X hW m_8_49 m_8_50 mv_X11_joins (c_X11_joins hcl) (by decide) rfl rfl (Nat.le_of_ble_eq_true rfl) hl.1 dX11_checksum_106 ?_
  clear hW hcl; intro H locs hW
  refine lv_lstore_n (lv' := [(1, .long (r_2)), (0, .ref (gz G + (v0))), (3, .int (v3))]) hx hb dX11_checksum_109 rfl hl (by decide) rfl ?_
  clear hl; intro ls hl
  refine lv_iconst (v := 0) hx hb dX11_checksum_110 (by decide) ?_
  refine lv_istore (lv' := [(4, .int (0)), (1, .long (r_2)), (0, .ref (gz G + (v0))), (3, .int (v3))]) hx hb dX11_checksum_111 hl (by decide) rfl ?_
  clear hl; intro ls hl
  exact bl_X11_checksum_L113 X hret (bl_X11_checksum_b160 X hret hk61) FU v0 h0 r_2 v3 0 σ_1 h _ _ _ hW (lv_sub hl [2, 1, 3, 0] rfl)
set_option maxRecDepth 20000 in
set_option maxHeartbeats 4000000 in
theorem bl_X11_checksum_L73 (X : Cx G p R s m args c cells slots cX11_checksum 6 RX11 12) {r : Int64} {σ' : St} (hret : R_L G p l e R s m args below meth c cells slots Q cX11_checksum r σ') {k99 : Nat → Int64 → Int32 → St → (Option (Int64 × St))}
    (hk99 : ∀ (v0 : Nat) (h0 : kd v0 = 10) (v1 : Int64) (v3 : Int32) (σ : St) (_ : k99 v0 v1 v3 σ = some (r, σ')) (H : Heap) (locs : List Loc) (ls : Array Slot) (_ : GW G σ s H locs) (_ : lv_has ls 6 [(0, .ref (gz G + (v0))), (1, .long (v1)), (3, .int (v3))]), W p l e R s m args below meth c H locs cells slots Q (F0 m 99 ls [])) :
    ∀ (n : Nat), ∀ (v0 : Nat) (h0 : kd v0 = 10) (v1 : Int64) (v3 : Int32) (v4 : Int32) (σ : St) (_ : pf_X11_checksum_L73 k99 n v0 v1 v3 v4 σ = some (r, σ')) (H : Heap) (locs : List Loc) (ls : Array Slot) (_ : GW G σ s H locs) (_ : lv_has ls 6 [(0, .ref (gz G + (v0))), (1, .long (v1)), (3, .int (v3)), (4, .int (v4))]), W p l e R s m args below meth c H locs cells slots Q (F0 m 73 ls []) := by
  have hx := X.1.1
  have hb := X.1.2.1
  intro n
  induction n with
  | zero => intro v0 h0 v1 v3 v4 σ h H locs ls hW hl; cases h
  | succ n ih =>
    intro v0 h0 v1 v3 v4 σ h H locs ls hW hl
    rw [pf_X11_checksum_L73.eq_2] at h
    refine lv_iload hx hb dX11_checksum_73 (lv_at hl 3 rfl) ?_
    refine lv_bipush (v := 8) hx hb dX11_checksum_75 (by decide) ?_
    refine lv_icmp_ge (tgt := 99) hx hb dX11_checksum_77 (by decide) (fun hc => ?_) (fun hc => ?_)
    · replace h := if_t hc h
      exact hk99 v0 h0 v1 v3 σ h _ _ _ hW (lv_sub hl [0, 1, 2] rfl)
    · replace h := if_f hc h
      refine lv_lload_n hx hb dX11_checksum_80 rfl (lv_at hl 1 rfl) ?_
      refine lv_aload_n hx hb dX11_checksum_81 rfl (lv_at hl 0 rfl) ?_
      refine lv_iload_n hx hb dX11_checksum_82 rfl (lv_at hl 2 rfl) ?_
      refine lv_iload hx hb dX11_checksum_83 (lv_at hl 3 rfl) ?_
      obtain ⟨r_1, σ_1, hcl, h⟩ := bnd2_el h
      refine call_V1 X hW (kC_X11 h0) m_7_116 m_7_118 m_0_88 mv_X11_toldOf (c_X11_toldOf h0 hcl) (by decide) rfl rfl (Nat.le_of_ble_eq_true rfl) hl.1 dX11_checksum_85 ?_
      clear hW hcl; intro H locs hW
      refine lv_i2l hx hb dX11_checksum_88 rfl ?_
      obtain ⟨r_2, hcl, h⟩ := bind_el h
      refine call_S1 X hW m_8_49 m_8_50 mv_X11_joins (c_X11_joins hcl) (by decide) rfl rfl (Nat.le_of_ble_eq_true rfl) hl.1 dX11_checksum_89 ?_
      clear hW hcl; intro H locs hW
      refine lv_lstore_n (lv' := [(1, .long (r_2)), (0, .ref (gz G + (v0))), (3, .int (v3)), (4, .int (v4))]) hx hb dX11_checksum_92 rfl hl (by decide) rfl ?_
      clear hl; intro ls hl
      refine w_iinc (v := 1) (lv' := fun y => [(4, .int (y)), (1, .long (r_2)), (0, .ref (gz G + (v0))), (3, .int (v3))]) hx hb dX11_checksum_93 hl (k := 3) rfl (by decide) (by decide) (fun _ => rfl) h ?_
      clear h hl; intro v4_3 h ls hl
      refine lv_goto (tgt := 73) hx hb dX11_checksum_96 (by decide) ?_
      exact ih v0 h0 r_2 v3 v4_3 σ_1 h _ _ _ hW (lv_sub hl [2, 1, 3, 0] rfl)
set_option maxRecDepth 20000 in
set_option maxHeartbeats 4000000 in
theorem bl_X11_checksum_L61 (X : Cx G p R s m args c cells slots cX11_checksum 6 RX11 12) {r : Int64} {σ' : St} (hret : R_L G p l e R s m args below meth c cells slots Q cX11_checksum r σ') :
    ∀ (n : Nat), ∀ (v0 : Nat) (h0 : kd v0 = 10) (v1 : Int64) (v3 : Int32) (σ : St) (_ : pf_X11_checksum_L61 n v0 v1 v3 σ = some (r, σ')) (H : Heap) (locs : List Loc) (ls : Array Slot) (_ : GW G σ s H locs) (_ : lv_has ls 6 [(0, .ref (gz G + (v0))), (1, .long (v1)), (3, .int (v3))]), W p l e R s m args below meth c H locs cells slots Q (F0 m 61 ls []) := by
  have hx := X.1.1
  have hb := X.1.2.1
  intro n
  induction n with
  | zero => intro v0 h0 v1 v3 σ h H locs ls hW hl; cases h
  | succ n ih =>
    intro v0 h0 v1 v3 σ h H locs ls hW hl
    rw [pf_X11_checksum_L61.eq_2] at h
    refine lv_iload_n hx hb dX11_checksum_61 rfl (lv_at hl 2 rfl) ?_
    refine lv_aload_n hx hb dX11_checksum_62 rfl (lv_at hl 0 rfl) ?_
    refine lv_iconst (v := 0) hx hb dX11_checksum_63 (by decide) ?_
    obtain ⟨r_1, hcl, h⟩ := bind_el h
    refine call_V1 X hW (kC_X11 h0) m_7_17 m_7_19 m_0_68 mv_X11_get (c_X11_get h0 hcl) (by decide) rfl rfl (Nat.le_of_ble_eq_true rfl) hl.1 dX11_checksum_64 ?_
    clear hW hcl; intro H locs hW
    refine lv_icmp_ge (tgt := 166) hx hb dX11_checksum_67 (by decide) (fun hc => ?_) (fun hc => ?_)
    · replace h := if_t hc h
      refine lv_lload_n hx hb dX11_checksum_166 rfl (lv_at hl 1 rfl) ?_
      exact rl_end hret h dX11_checksum_167 hW
    · replace h := if_f hc h
      refine lv_iconst (v := 0) hx hb dX11_checksum_70 (by decide) ?_
      refine lv_istore (lv' := [(4, .int (0)), (0, .ref (gz G + (v0))), (1, .long (v1)), (3, .int (v3))]) hx hb dX11_checksum_71 hl (by decide) rfl ?_
      clear hl; intro ls hl
      exact bl_X11_checksum_L73 X hret (bl_X11_checksum_b99 X hret ih) FU v0 h0 v1 v3 0 σ h _ _ _ hW (lv_sub hl [1, 2, 3, 0] rfl)
set_option maxRecDepth 20000 in
set_option maxHeartbeats 4000000 in
theorem bl_X11_checksum_b59 (X : Cx G p R s m args c cells slots cX11_checksum 6 RX11 12) {r : Int64} {σ' : St} (hret : R_L G p l e R s m args below meth c cells slots Q cX11_checksum r σ') :
    ∀ (v0 : Nat) (h0 : kd v0 = 10) (v1 : Int64) (σ : St) (_ : pf_X11_checksum_b59 v0 v1 σ = some (r, σ')) (H : Heap) (locs : List Loc) (ls : Array Slot) (_ : GW G σ s H locs) (_ : lv_has ls 6 [(0, .ref (gz G + (v0))), (1, .long (v1))]), W p l e R s m args below meth c H locs cells slots Q (F0 m 59 ls []) := by
  have hx := X.1.1
  have hb := X.1.2.1
  intro v0 h0 v1 σ h H locs ls hW hl
  unfold pf_X11_checksum_b59 at h
  refine lv_iconst (v := 0) hx hb dX11_checksum_59 (by decide) ?_
  refine lv_istore_n (lv' := [(3, .int (0)), (0, .ref (gz G + (v0))), (1, .long (v1))]) hx hb dX11_checksum_60 rfl hl (by decide) rfl ?_
  clear hl; intro ls hl
  exact bl_X11_checksum_L61 X hret FU v0 h0 v1 0 σ h _ _ _ hW (lv_sub hl [1, 2, 0] rfl)
set_option maxRecDepth 20000 in
set_option maxHeartbeats 4000000 in
theorem bl_X11_checksum_L34 (X : Cx G p R s m args c cells slots cX11_checksum 6 RX11 12) {r : Int64} {σ' : St} (hret : R_L G p l e R s m args below meth c cells slots Q cX11_checksum r σ') {k59 : Nat → Int64 → St → (Option (Int64 × St))}
    (hk59 : ∀ (v0 : Nat) (h0 : kd v0 = 10) (v1 : Int64) (σ : St) (_ : k59 v0 v1 σ = some (r, σ')) (H : Heap) (locs : List Loc) (ls : Array Slot) (_ : GW G σ s H locs) (_ : lv_has ls 6 [(0, .ref (gz G + (v0))), (1, .long (v1))]), W p l e R s m args below meth c H locs cells slots Q (F0 m 59 ls [])) :
    ∀ (n : Nat), ∀ (v0 : Nat) (h0 : kd v0 = 10) (v1 : Int64) (v3 : Int32) (σ : St) (_ : pf_X11_checksum_L34 k59 n v0 v1 v3 σ = some (r, σ')) (H : Heap) (locs : List Loc) (ls : Array Slot) (_ : GW G σ s H locs) (_ : lv_has ls 6 [(0, .ref (gz G + (v0))), (1, .long (v1)), (3, .int (v3))]), W p l e R s m args below meth c H locs cells slots Q (F0 m 34 ls []) := by
  have hx := X.1.1
  have hb := X.1.2.1
  intro n
  induction n with
  | zero => intro v0 h0 v1 v3 σ h H locs ls hW hl; cases h
  | succ n ih =>
    intro v0 h0 v1 v3 σ h H locs ls hW hl
    rw [pf_X11_checksum_L34.eq_2] at h
    refine lv_iload_n hx hb dX11_checksum_34 rfl (lv_at hl 2 rfl) ?_
    refine lv_bipush (v := 8) hx hb dX11_checksum_35 (by decide) ?_
    refine lv_icmp_ge (tgt := 59) hx hb dX11_checksum_37 (by decide) (fun hc => ?_) (fun hc => ?_)
    · replace h := if_t hc h
      exact hk59 v0 h0 v1 σ h _ _ _ hW (lv_sub hl [0, 1] rfl)
    · replace h := if_f hc h
      refine lv_lload_n hx hb dX11_checksum_40 rfl (lv_at hl 1 rfl) ?_
      refine lv_aload_n hx hb dX11_checksum_41 rfl (lv_at hl 0 rfl) ?_
      refine lv_iconst (v := 5) hx hb dX11_checksum_42 (by decide) ?_
      refine lv_iload_n hx hb dX11_checksum_43 rfl (lv_at hl 2 rfl) ?_
      refine lv_iadd hx hb dX11_checksum_44 ?_
      obtain ⟨r_1, hcl, h⟩ := bind_el h
      refine call_V1 X hW (kC_X11 h0) m_7_17 m_7_19 m_0_68 mv_X11_get (c_X11_get h0 hcl) (by decide) rfl rfl (Nat.le_of_ble_eq_true rfl) hl.1 dX11_checksum_45 ?_
      clear hW hcl; intro H locs hW
      refine lv_i2l hx hb dX11_checksum_48 rfl ?_
      obtain ⟨r_2, hcl, h⟩ := bind_el h
      refine call_S1 X hW m_8_49 m_8_50 mv_X11_joins (c_X11_joins hcl) (by decide) rfl rfl (Nat.le_of_ble_eq_true rfl) hl.1 dX11_checksum_49 ?_
      clear hW hcl; intro H locs hW
      refine lv_lstore_n (lv' := [(1, .long (r_2)), (0, .ref (gz G + (v0))), (3, .int (v3))]) hx hb dX11_checksum_52 rfl hl (by decide) rfl ?_
      clear hl; intro ls hl
      refine w_iinc (v := 1) (lv' := fun y => [(3, .int (y)), (1, .long (r_2)), (0, .ref (gz G + (v0)))]) hx hb dX11_checksum_53 hl (k := 2) rfl (by decide) (by decide) (fun _ => rfl) h ?_
      clear h hl; intro v3_3 h ls hl
      refine lv_goto (tgt := 34) hx hb dX11_checksum_56 (by decide) ?_
      exact ih v0 h0 r_2 v3_3 σ h _ _ _ hW (lv_sub hl [2, 1, 0] rfl)
set_option maxRecDepth 20000 in
set_option maxHeartbeats 4000000 in
theorem bl_X11_checksum_b32 (X : Cx G p R s m args c cells slots cX11_checksum 6 RX11 12) {r : Int64} {σ' : St} (hret : R_L G p l e R s m args below meth c cells slots Q cX11_checksum r σ') :
    ∀ (v0 : Nat) (h0 : kd v0 = 10) (v1 : Int64) (σ : St) (_ : pf_X11_checksum_b32 v0 v1 σ = some (r, σ')) (H : Heap) (locs : List Loc) (ls : Array Slot) (_ : GW G σ s H locs) (_ : lv_has ls 6 [(0, .ref (gz G + (v0))), (1, .long (v1))]), W p l e R s m args below meth c H locs cells slots Q (F0 m 32 ls []) := by
  have hx := X.1.1
  have hb := X.1.2.1
  intro v0 h0 v1 σ h H locs ls hW hl
  unfold pf_X11_checksum_b32 at h
  refine lv_iconst (v := 0) hx hb dX11_checksum_32 (by decide) ?_
  refine lv_istore_n (lv' := [(3, .int (0)), (0, .ref (gz G + (v0))), (1, .long (v1))]) hx hb dX11_checksum_33 rfl hl (by decide) rfl ?_
  clear hl; intro ls hl
  exact bl_X11_checksum_L34 X hret (bl_X11_checksum_b59 X hret) FU v0 h0 v1 0 σ h _ _ _ hW (lv_sub hl [1, 2, 0] rfl)
set_option maxRecDepth 20000 in
set_option maxHeartbeats 4000000 in
theorem bl_X11_checksum_L9 (X : Cx G p R s m args c cells slots cX11_checksum 6 RX11 12) {r : Int64} {σ' : St} (hret : R_L G p l e R s m args below meth c cells slots Q cX11_checksum r σ') {k32 : Nat → Int64 → St → (Option (Int64 × St))}
    (hk32 : ∀ (v0 : Nat) (h0 : kd v0 = 10) (v1 : Int64) (σ : St) (_ : k32 v0 v1 σ = some (r, σ')) (H : Heap) (locs : List Loc) (ls : Array Slot) (_ : GW G σ s H locs) (_ : lv_has ls 6 [(0, .ref (gz G + (v0))), (1, .long (v1))]), W p l e R s m args below meth c H locs cells slots Q (F0 m 32 ls [])) :
    ∀ (n : Nat), ∀ (v0 : Nat) (h0 : kd v0 = 10) (v1 : Int64) (v3 : Int32) (σ : St) (_ : pf_X11_checksum_L9 k32 n v0 v1 v3 σ = some (r, σ')) (H : Heap) (locs : List Loc) (ls : Array Slot) (_ : GW G σ s H locs) (_ : lv_has ls 6 [(0, .ref (gz G + (v0))), (1, .long (v1)), (3, .int (v3))]), W p l e R s m args below meth c H locs cells slots Q (F0 m 9 ls []) := by
  have hx := X.1.1
  have hb := X.1.2.1
  intro n
  induction n with
  | zero => intro v0 h0 v1 v3 σ h H locs ls hW hl; cases h
  | succ n ih =>
    intro v0 h0 v1 v3 σ h H locs ls hW hl
    rw [pf_X11_checksum_L9.eq_2] at h
    refine lv_iload_n hx hb dX11_checksum_9 rfl (lv_at hl 2 rfl) ?_
    refine lv_bipush (v := 9) hx hb dX11_checksum_10 (by decide) ?_
    refine lv_icmp_ge (tgt := 32) hx hb dX11_checksum_12 (by decide) (fun hc => ?_) (fun hc => ?_)
    · replace h := if_t hc h
      exact hk32 v0 h0 v1 σ h _ _ _ hW (lv_sub hl [0, 1] rfl)
    · replace h := if_f hc h
      refine lv_lload_n hx hb dX11_checksum_15 rfl (lv_at hl 1 rfl) ?_
      refine lv_aload_n hx hb dX11_checksum_16 rfl (lv_at hl 0 rfl) ?_
      refine lv_iload_n hx hb dX11_checksum_17 rfl (lv_at hl 2 rfl) ?_
      obtain ⟨r_1, σ_1, hcl, h⟩ := bnd2_el h
      refine call_V1 X hW (kC_X11 h0) m_7_30 m_7_32 m_0_70 mv_X11_told (c_X11_told h0 hcl) (by decide) rfl rfl (Nat.le_of_ble_eq_true rfl) hl.1 dX11_checksum_18 ?_
      clear hW hcl; intro H locs hW
      refine lv_i2l hx hb dX11_checksum_21 rfl ?_
      obtain ⟨r_2, hcl, h⟩ := bind_el h
      refine call_S1 X hW m_8_49 m_8_50 mv_X11_joins (c_X11_joins hcl) (by decide) rfl rfl (Nat.le_of_ble_eq_true rfl) hl.1 dX11_checksum_22 ?_
      clear hW hcl; intro H locs hW
      refine lv_lstore_n (lv' := [(1, .long (r_2)), (0, .ref (gz G + (v0))), (3, .int (v3))]) hx hb dX11_checksum_25 rfl hl (by decide) rfl ?_
      clear hl; intro ls hl
      refine w_iinc (v := 1) (lv' := fun y => [(3, .int (y)), (1, .long (r_2)), (0, .ref (gz G + (v0)))]) hx hb dX11_checksum_26 hl (k := 2) rfl (by decide) (by decide) (fun _ => rfl) h ?_
      clear h hl; intro v3_3 h ls hl
      refine lv_goto (tgt := 9) hx hb dX11_checksum_29 (by decide) ?_
      exact ih v0 h0 r_2 v3_3 σ_1 h _ _ _ hW (lv_sub hl [2, 1, 0] rfl)
set_option maxRecDepth 20000 in
set_option maxHeartbeats 4000000 in
theorem c_X11_checksum {G : Gt} {l : Launch} {v0 : Nat} (h0 : kd v0 = 10) {σ : St} {r : Int64} {σ' : St} (hf : pf_X11_checksum v0 σ = some (r, σ')) : Ct G l yX11_checksum cX11_checksum 6 (some .long) 12 [.ref (gz G + (v0))] σ (some (.long r)) σ' := by
  refine met_l (by decide +kernel) (Nat.le_of_ble_eq_true rfl) rfl ?_
  intro p e s m args below meth c Q ls X hW hret hl
  have hx := X.1.1
  have hb := X.1.2.1
  have hl : lv_has ls 6 [(0, .ref (gz G + (v0)))] := hl
  have h := hf
  clear hf
  unfold pf_X11_checksum at h
  refine lv_aload_n hx hb dX11_checksum_0 rfl (lv_at hl 0 rfl) ?_
  refine lv_iconst (v := 0) hx hb dX11_checksum_1 (by decide) ?_
  refine sf_X11_thrown X hW h0 m_6_6 dX11_checksum_2 ?_
  clear hW; intro H locs hW
  refine nm_s hW h ?_
  clear hW h; intro σ_1 hW h
  refine lv_lconst (v := 0) hx hb dX11_checksum_5 (by decide) ?_
  refine lv_lstore_n (lv' := [(1, .long (0)), (0, .ref (gz G + (v0)))]) hx hb dX11_checksum_6 rfl hl (by decide) rfl ?_
  clear hl; intro ls hl
  refine lv_iconst (v := 0) hx hb dX11_checksum_7 (by decide) ?_
  refine lv_istore_n (lv' := [(3, .int (0)), (1, .long (0)), (0, .ref (gz G + (v0)))]) hx hb dX11_checksum_8 rfl hl (by decide) rfl ?_
  clear hl; intro ls hl
  exact bl_X11_checksum_L9 X hret (bl_X11_checksum_b32 X hret) FU v0 h0 0 0 σ_1 h _ _ _ hW (lv_sub hl [2, 1, 0] rfl)
end
