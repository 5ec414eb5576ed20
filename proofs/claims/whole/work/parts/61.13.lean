section
variable {G : Gt} {p : Program} {l : Launch} {e : Env} {R : Room} {s : State} {m : MethodId} {args : Array Value} {below : List Frame} {meth : Method} {c : Code} {cells slots : Nat} {Q : State → Prop}
set_option maxRecDepth 20000 in
set_option maxHeartbeats 4000000 in
theorem c_X11_stock {G : Gt} {l : Launch} {v0 : Nat} (h0 : kd v0 = 10) {v1 : Int32} {σ : St} {r : Int32} {σ' : St} (hf : pf_X11_stock v0 v1 σ = some (r, σ')) : Ct G l yX11_stock cX11_stock 2 (some .int) 4 [.ref (gz G + (v0)), .int (v1)] σ (some (.int r)) σ' := by
  refine met_i (by decide +kernel) (Nat.le_of_ble_eq_true rfl) rfl ?_
  intro p e s m args below meth c Q ls X hW hret hl
  have hx := X.1.1
  have hb := X.1.2.1
  have hl : lv_has ls 2 [(0, .ref (gz G + (v0))), (1, .int (v1))] := hl
  have h := hf
  clear hf
  unfold pf_X11_stock at h
  refine lv_aload_n hx hb dX11_stock_0 rfl (lv_at hl 0 rfl) ?_
  refine lv_iconst (v := 0) hx hb dX11_stock_1 (by decide) ?_
  refine sf_X11_thrown X hW h0 m_6_6 dX11_stock_2 ?_
  clear hW; intro H locs hW
  refine nm_s hW h ?_
  clear hW h; intro σ_1 hW h
  refine lv_aload_n hx hb dX11_stock_5 rfl (lv_at hl 0 rfl) ?_
  refine lv_iload_n hx hb dX11_stock_6 rfl (lv_at hl 1 rfl) ?_
  obtain ⟨r_2, σ_2, hcl, h⟩ := bnd2_el h
  refine call_V1 X hW (kC_X11 h0) m_7_104 m_7_106 m_0_86 mv_X11_isItem (c_X11_isItem h0 hcl) (by decide) rfl rfl (Nat.le_of_ble_eq_true rfl) hl.1 dX11_stock_7 ?_
  clear hW hcl; intro H locs hW
  refine lv_if_eq (tgt := 23) hx hb dX11_stock_10 (by decide) (fun hc => ?_) (fun hc => ?_)
  · replace h := if_t hc h
    refine lv_iconst (v := 0) hx hb dX11_stock_23 (by decide) ?_
    exact ri_end hret h dX11_stock_24 hW
  · replace h := if_f hc h
    refine lv_aload_n hx hb dX11_stock_13 rfl (lv_at hl 0 rfl) ?_
    refine lv_iconst (v := 5) hx hb dX11_stock_14 (by decide) ?_
    refine lv_iload_n hx hb dX11_stock_15 rfl (lv_at hl 1 rfl) ?_
    refine lv_iadd hx hb dX11_stock_16 ?_
    obtain ⟨r_3, hcl, h⟩ := bind_el h
    refine call_V1 X hW (kC_X11 h0) m_7_17 m_7_19 m_0_68 mv_X11_get (c_X11_get h0 hcl) (by decide) rfl rfl (Nat.le_of_ble_eq_true rfl) hl.1 dX11_stock_17 ?_
    clear hW hcl; intro H locs hW
    refine lv_goto (tgt := 24) hx hb dX11_stock_20 (by decide) ?_
    exact ri_end hret h dX11_stock_24 hW
set_option maxRecDepth 20000 in
set_option maxHeartbeats 4000000 in
theorem bl_X11_triedSet_b54 (X : Cx G p R s m args c cells slots cX11_triedSet 5 RX11 8) {r : Int32} {σ' : St} (hret : R_I G p l e R s m args below meth c cells slots Q cX11_triedSet r σ') {k15 : Nat → Int32 → Int32 → Int32 → Int32 → St → (Option (Int32 × St))}
    (hk15 : ∀ (v0 : Nat) (h0 : kd v0 = 10) (v1 : Int32) (v2 : Int32) (v3 : Int32) (v4 : Int32) (σ : St) (_ : k15 v0 v1 v2 v3 v4 σ = some (r, σ')) (H : Heap) (locs : List Loc) (ls : Array Slot) (_ : GW G σ s H locs) (_ : lv_has ls 5 [(0, .ref (gz G + (v0))), (1, .int (v1)), (2, .int (v2)), (3, .int (v3)), (4, .int (v4))]), W p l e R s m args below meth c H locs cells slots Q (F0 m 15 ls [])) :
    ∀ (v0 : Nat) (h0 : kd v0 = 10) (v1 : Int32) (v2 : Int32) (v4 : Int32) (s0 : Int32) (s1 : Int32) (σ : St) (_ : pf_X11_triedSet_b54 k15 v0 v1 v2 v4 s0 s1 σ = some (r, σ')) (H : Heap) (locs : List Loc) (ls : Array Slot) (_ : GW G σ s H locs) (_ : lv_has ls 5 [(0, .ref (gz G + (v0))), (1, .int (v1)), (2, .int (v2)), (4, .int (v4))]), W p l e R s m args below meth c H locs cells slots Q (F0 m 54 ls [.int (s1), .int (s0)]) := by
  have hx := X.1.1
  have hb := X.1.2.1
  intro v0 h0 v1 v2 v4 s0 s1 σ h H locs ls hW hl
  unfold pf_X11_triedSet_b54 at h
  refine lv_ior hx hb dX11_triedSet_54 ?_
  refine nm_i h ?_
  clear h; intro v3_1 h
  refine lv_istore_n (lv' := [(3, .int (v3_1)), (0, .ref (gz G + (v0))), (1, .int (v1)), (2, .int (v2)), (4, .int (v4))]) hx hb dX11_triedSet_55 rfl hl (by decide) rfl ?_
  clear hl; intro ls hl
  refine w_iinc (v := 1) (lv' := fun y => [(4, .int (y)), (3, .int (v3_1)), (0, .ref (gz G + (v0))), (1, .int (v1)), (2, .int (v2))]) hx hb dX11_triedSet_56 hl (k := 4) rfl (by decide) (by decide) (fun _ => rfl) h ?_
  clear h hl; intro v4_2 h ls hl
  refine lv_goto (tgt := 15) hx hb dX11_triedSet_59 (by decide) ?_
  exact hk15 v0 h0 v1 v2 v3_1 v4_2 σ h _ _ _ hW (lv_sub hl [2, 3, 4, 1, 0] rfl)
set_option maxRecDepth 20000 in
set_option maxHeartbeats 4000000 in
theorem bl_X11_triedSet_b53 (X : Cx G p R s m args c cells slots cX11_triedSet 5 RX11 8) {r : Int32} {σ' : St} (hret : R_I G p l e R s m args below meth c cells slots Q cX11_triedSet r σ') {k15 : Nat → Int32 → Int32 → Int32 → Int32 → St → (Option (Int32 × St))}
    (hk15 : ∀ (v0 : Nat) (h0 : kd v0 = 10) (v1 : Int32) (v2 : Int32) (v3 : Int32) (v4 : Int32) (σ : St) (_ : k15 v0 v1 v2 v3 v4 σ = some (r, σ')) (H : Heap) (locs : List Loc) (ls : Array Slot) (_ : GW G σ s H locs) (_ : lv_has ls 5 [(0, .ref (gz G + (v0))), (1, .int (v1)), (2, .int (v2)), (3, .int (v3)), (4, .int (v4))]), W p l e R s m args below meth c H locs cells slots Q (F0 m 15 ls [])) :
    ∀ (v0 : Nat) (h0 : kd v0 = 10) (v1 : Int32) (v2 : Int32) (v4 : Int32) (s0 : Int32) (σ : St) (_ : pf_X11_triedSet_b53 k15 v0 v1 v2 v4 s0 σ = some (r, σ')) (H : Heap) (locs : List Loc) (ls : Array Slot) (_ : GW G σ s H locs) (_ : lv_has ls 5 [(0, .ref (gz G + (v0))), (1, .int (v1)), (2, .int (v2)), (4, .int (v4))]), W p l e R s m args below meth c H locs cells slots Q (F0 m 53 ls [.int (s0)]) := by
  have hx := X.1.1
  have hb := X.1.2.1
  intro v0 h0 v1 v2 v4 s0 σ h H locs ls hW hl
  unfold pf_X11_triedSet_b53 at h
  refine lv_iconst (v := 0) hx hb dX11_triedSet_53 (by decide) ?_
  exact bl_X11_triedSet_b54 X hret hk15 v0 h0 v1 v2 v4 s0 0 σ h _ _ _ hW (lv_sub hl [0, 1, 2, 3] rfl)
set_option maxRecDepth 20000 in
set_option maxHeartbeats 4000000 in
theorem bl_X11_triedSet_L15 (X : Cx G p R s m args c cells slots cX11_triedSet 5 RX11 8) {r : Int32} {σ' : St} (hret : R_I G p l e R s m args below meth c cells slots Q cX11_triedSet r σ') :
    ∀ (n : Nat), ∀ (v0 : Nat) (h0 : kd v0 = 10) (v1 : Int32) (v2 : Int32) (v3 : Int32) (v4 : Int32) (σ : St) (_ : pf_X11_triedSet_L15 n v0 v1 v2 v3 v4 σ = some (r, σ')) (H : Heap) (locs : List Loc) (ls : Array Slot) (_ : GW G σ s H locs) (_ : lv_has ls 5 [(0, .ref (gz G + (v0))), (1, .int (v1)), (2, .int (v2)), (3, .int (v3)), (4, .int (v4))]), W p l e R s m args below meth c H locs cells slots Q (F0 m 15 ls []) := by
  have hx := X.1.1
  have hb := X.1.2.1
  intro n
  induction n with
  | zero => intro v0 h0 v1 v2 v3 v4 σ h H locs ls hW hl; cases h
  | succ n ih =>
    intro v0 h0 v1 v2 v3 v4 σ h H locs ls hW hl
    rw [pf_X11_triedSet_L15.eq_2] at h
    refine lv_iload hx hb dX11_triedSet_15 (lv_at hl 4 rfl) ?_
    refine lv_aload_n hx hb dX11_triedSet_17 rfl (lv_at hl 0 rfl) ?_
    refine lv_iload_n hx hb dX11_triedSet_18 rfl (lv_at hl 1 rfl) ?_
    obtain ⟨r_1, hcl, h⟩ := bind_el h
    refine call_V1 X hW (kC_X11 h0) m_7_38 m_7_40 m_0_72 mv_X11_stepsOf (c_X11_stepsOf h0 hcl) (by decide) rfl rfl (Nat.le_of_ble_eq_true rfl) hl.1 dX11_triedSet_19 ?_
    clear hW hcl; intro H locs hW
    refine lv_icmp_ge (tgt := 62) hx hb dX11_triedSet_22 (by decide) (fun hc => ?_) (fun hc => ?_)
    · replace h := if_t hc h
      refine lv_iload_n hx hb dX11_triedSet_62 rfl (lv_at hl 3 rfl) ?_
      exact ri_end hret h dX11_triedSet_63 hW
    · replace h := if_f hc h
      refine lv_iload_n hx hb dX11_triedSet_25 rfl (lv_at hl 3 rfl) ?_
      refine lv_aload_n hx hb dX11_triedSet_26 rfl (lv_at hl 0 rfl) ?_
      refine lv_iload_n hx hb dX11_triedSet_27 rfl (lv_at hl 1 rfl) ?_
      obtain ⟨r_2, hcl, h⟩ := bind_el h
      refine call_V1 X hW (kC_X11 h0) m_7_96 m_7_98 m_0_85 mv_X11_isQuestOpen (c_X11_isQuestOpen h0 hcl) (by decide) rfl rfl (Nat.le_of_ble_eq_true rfl) hl.1 dX11_triedSet_28 ?_
      clear hW hcl; intro H locs hW
      refine lv_if_eq (tgt := 53) hx hb dX11_triedSet_31 (by decide) (fun hc => ?_) (fun hc => ?_)
      · replace h := if_t hc h
        exact bl_X11_triedSet_b53 X hret ih v0 h0 v1 v2 v4 v3 σ h _ _ _ hW (lv_sub hl [0, 1, 2, 4] rfl)
      · replace h := if_f hc h
        refine lv_aload_n hx hb dX11_triedSet_34 rfl (lv_at hl 0 rfl) ?_
        refine lv_iload_n hx hb dX11_triedSet_35 rfl (lv_at hl 1 rfl) ?_
        refine lv_iload hx hb dX11_triedSet_36 (lv_at hl 4 rfl) ?_
        refine lv_iload_n hx hb dX11_triedSet_38 rfl (lv_at hl 2 rfl) ?_
        refine lv_iload_n hx hb dX11_triedSet_39 rfl (lv_at hl 2 rfl) ?_
        obtain ⟨r_3, hcl, h⟩ := bind_el h
        refine call_V1 X hW (kC_X11 h0) m_7_79 m_7_81 m_0_81 mv_X11_can (c_X11_can h0 hcl) (by decide) rfl rfl (Nat.le_of_ble_eq_true rfl) hl.1 dX11_triedSet_40 ?_
        clear hW hcl; intro H locs hW
        refine lv_if_eq (tgt := 53) hx hb dX11_triedSet_43 (by decide) (fun hc => ?_) (fun hc => ?_)
        · replace h := if_t hc h
          exact bl_X11_triedSet_b53 X hret ih v0 h0 v1 v2 v4 v3 σ h _ _ _ hW (lv_sub hl [0, 1, 2, 4] rfl)
        · replace h := if_f hc h
          refine lv_iconst (v := 1) hx hb dX11_triedSet_46 (by decide) ?_
          refine lv_iload hx hb dX11_triedSet_47 (lv_at hl 4 rfl) ?_
          refine w_ishl hx hb dX11_triedSet_49 ?_
          refine lv_goto (tgt := 54) hx hb dX11_triedSet_50 (by decide) ?_
          exact bl_X11_triedSet_b54 X hret ih v0 h0 v1 v2 v4 v3 (ishl 1 v4) σ h _ _ _ hW (lv_sub hl [0, 1, 2, 4] rfl)
set_option maxRecDepth 20000 in
set_option maxHeartbeats 4000000 in
theorem c_X11_triedSet {G : Gt} {l : Launch} {v0 : Nat} (h0 : kd v0 = 10) {v1 : Int32} {σ : St} {r : Int32} {σ' : St} (hf : pf_X11_triedSet v0 v1 σ = some (r, σ')) : Ct G l yX11_triedSet cX11_triedSet 5 (some .int) 8 [.ref (gz G + (v0)), .int (v1)] σ (some (.int r)) σ' := by
  refine met_i (by decide +kernel) (Nat.le_of_ble_eq_true rfl) rfl ?_
  intro p e s m args below meth c Q ls X hW hret hl
  have hx := X.1.1
  have hb := X.1.2.1
  have hl : lv_has ls 5 [(0, .ref (gz G + (v0))), (1, .int (v1))] := hl
  have h := hf
  clear hf
  unfold pf_X11_triedSet at h
  refine lv_aload_n hx hb dX11_triedSet_0 rfl (lv_at hl 0 rfl) ?_
  obtain ⟨σ_1, hcl, h⟩ := bind_el h
  refine call_V0 X hW (kC_X11 h0) m_7_66 m_7_68 m_0_78 mv_X11_asItIs (c_X11_asItIs h0 hcl) (by decide) rfl rfl (Nat.le_of_ble_eq_true rfl) hl.1 dX11_triedSet_1 ?_
  clear hW hcl; intro H locs hW
  refine lv_aload_n hx hb dX11_triedSet_4 rfl (lv_at hl 0 rfl) ?_
  refine lv_iload_n hx hb dX11_triedSet_5 rfl (lv_at hl 1 rfl) ?_
  obtain ⟨r_2, hcl, h⟩ := bind_el h
  refine call_V1 X hW (kC_X11 h0) m_7_46 m_7_48 m_0_74 mv_X11_doneSet (c_X11_doneSet h0 hcl) (by decide) rfl rfl (Nat.le_of_ble_eq_true rfl) hl.1 dX11_triedSet_6 ?_
  clear hW hcl; intro H locs hW
  refine lv_istore_n (lv' := [(2, .int (r_2)), (0, .ref (gz G + (v0))), (1, .int (v1))]) hx hb dX11_triedSet_9 rfl hl (by decide) rfl ?_
  clear hl; intro ls hl
  refine lv_iconst (v := 0) hx hb dX11_triedSet_10 (by decide) ?_
  refine lv_istore_n (lv' := [(3, .int (0)), (2, .int (r_2)), (0, .ref (gz G + (v0))), (1, .int (v1))]) hx hb dX11_triedSet_11 rfl hl (by decide) rfl ?_
  clear hl; intro ls hl
  refine lv_iconst (v := 0) hx hb dX11_triedSet_12 (by decide) ?_
  refine lv_istore (lv' := [(4, .int (0)), (3, .int (0)), (2, .int (r_2)), (0, .ref (gz G + (v0))), (1, .int (v1))]) hx hb dX11_triedSet_13 hl (by decide) rfl ?_
  clear hl; intro ls hl
  exact bl_X11_triedSet_L15 X hret FU v0 h0 v1 r_2 0 0 σ_1 h _ _ _ hW (lv_sub hl [3, 4, 2, 1, 0] rfl)
set_option maxRecDepth 20000 in
set_option maxHeartbeats 4000000 in
theorem c_X11_toldOf {G : Gt} {l : Launch} {v0 : Nat} (h0 : kd v0 = 10) {v1 : Int32} {v2 : Int32} {σ : St} {r : Int32} {σ' : St} (hf : pf_X11_toldOf v0 v1 v2 σ = some (r, σ')) : Ct G l yX11_toldOf cX11_toldOf 3 (some .int) 9 [.ref (gz G + (v0)), .int (v1), .int (v2)] σ (some (.int r)) σ' := by
  refine met_i (by decide +kernel) (Nat.le_of_ble_eq_true rfl) rfl ?_
  intro p e s m args below meth c Q ls X hW hret hl
  have hx := X.1.1
  have hb := X.1.2.1
  have hl : lv_has ls 3 [(0, .ref (gz G + (v0))), (1, .int (v1)), (2, .int (v2))] := hl
  have h := hf
  clear hf
  unfold pf_X11_toldOf at h
  refine lv_iload_n hx hb dX11_toldOf_0 rfl (lv_at hl 2 rfl) ?_
  by_cases hc0 : v2 = 0
  · replace h := if_t hc0 h
    refine lv_tableIn (off := 43) (tgt := 44) hx hb dX11_toldOf_1 (by rw [hc0]; decide) (by rw [hc0]; decide) (by rw [hc0]; rfl) (by decide) ?_
    refine lv_aload_n hx hb dX11_toldOf_44 rfl (lv_at hl 0 rfl) ?_
    refine lv_iload_n hx hb dX11_toldOf_45 rfl (lv_at hl 1 rfl) ?_
    obtain ⟨r_1, hcl, h⟩ := bind_el h
    refine call_V1 X hW (kC_X11 h0) m_7_38 m_7_40 m_0_72 mv_X11_stepsOf (c_X11_stepsOf h0 hcl) (by decide) rfl rfl (Nat.le_of_ble_eq_true rfl) hl.1 dX11_toldOf_46 ?_
    clear hW hcl; intro H locs hW
    exact ri_end hret h dX11_toldOf_49 hW
  replace h := if_f hc0 h
  by_cases hc1 : v2 = 1
  · replace h := if_t hc1 h
    refine lv_tableIn (off := 49) (tgt := 50) hx hb dX11_toldOf_1 (by rw [hc1]; decide) (by rw [hc1]; decide) (by rw [hc1]; rfl) (by decide) ?_
    refine lv_aload_n hx hb dX11_toldOf_50 rfl (lv_at hl 0 rfl) ?_
    refine lv_iload_n hx hb dX11_toldOf_51 rfl (lv_at hl 1 rfl) ?_
    refine lv_iconst (v := 1) hx hb dX11_toldOf_52 (by decide) ?_
    obtain ⟨r_2, hcl, h⟩ := bind_el h
    refine call_V1 X hW (kC_X11 h0) m_7_42 m_7_44 m_0_73 mv_X11_ofQuest (c_X11_ofQuest h0 hcl) (by decide) rfl rfl (Nat.le_of_ble_eq_true rfl) hl.1 dX11_toldOf_53 ?_
    clear hW hcl; intro H locs hW
    exact ri_end hret h dX11_toldOf_56 hW
  replace h := if_f hc1 h
  by_cases hc2 : v2 = 2
  · replace h := if_t hc2 h
    refine lv_tableIn (off := 56) (tgt := 57) hx hb dX11_toldOf_1 (by rw [hc2]; decide) (by rw [hc2]; decide) (by rw [hc2]; rfl) (by decide) ?_
    refine lv_aload_n hx hb dX11_toldOf_57 rfl (lv_at hl 0 rfl) ?_
    refine lv_iload_n hx hb dX11_toldOf_58 rfl (lv_at hl 1 rfl) ?_
    obtain ⟨r_3, hcl, h⟩ := bind_el h
    refine call_V1 X hW (kC_X11 h0) m_7_46 m_7_48 m_0_74 mv_X11_doneSet (c_X11_doneSet h0 hcl) (by decide) rfl rfl (Nat.le_of_ble_eq_true rfl) hl.1 dX11_toldOf_59 ?_
    clear hW hcl; intro H locs hW
    exact ri_end hret h dX11_toldOf_62 hW
  replace h := if_f hc2 h
  by_cases hc3 : v2 = 3
  · replace h := if_t hc3 h
    refine lv_tableIn (off := 62) (tgt := 63) hx hb dX11_toldOf_1 (by rw [hc3]; decide) (by rw [hc3]; decide) (by rw [hc3]; rfl) (by decide) ?_
    refine lv_aload_n hx hb dX11_toldOf_63 rfl (lv_at hl 0 rfl) ?_
    refine lv_iload_n hx hb dX11_toldOf_64 rfl (lv_at hl 1 rfl) ?_
    obtain ⟨r_4, hcl, h⟩ := bind_el h
    refine call_V1 X hW (kC_X11 h0) m_7_120 m_7_122 m_0_89 mv_X11_brokenSet (c_X11_brokenSet h0 hcl) (by decide) rfl rfl (Nat.le_of_ble_eq_true rfl) hl.1 dX11_toldOf_65 ?_
    clear hW hcl; intro H locs hW
    exact ri_end hret h dX11_toldOf_68 hW
  replace h := if_f hc3 h
  by_cases hc4 : v2 = 4
  · replace h := if_t hc4 h
    refine lv_tableIn (off := 68) (tgt := 69) hx hb dX11_toldOf_1 (by rw [hc4]; decide) (by rw [hc4]; decide) (by rw [hc4]; rfl) (by decide) ?_
    refine lv_aload_n hx hb dX11_toldOf_69 rfl (lv_at hl 0 rfl) ?_
    refine lv_iload_n hx hb dX11_toldOf_70 rfl (lv_at hl 1 rfl) ?_
    refine lv_iconst (v := 2) hx hb dX11_toldOf_71 (by decide) ?_
    obtain ⟨r_5, hcl, h⟩ := bind_el h
    refine call_V1 X hW (kC_X11 h0) m_7_42 m_7_44 m_0_73 mv_X11_ofQuest (c_X11_ofQuest h0 hcl) (by decide) rfl rfl (Nat.le_of_ble_eq_true rfl) hl.1 dX11_toldOf_72 ?_
    clear hW hcl; intro H locs hW
    exact ri_end hret h dX11_toldOf_75 hW
  replace h := if_f hc4 h
  by_cases hc5 : v2 = 5
  · replace h := if_t hc5 h
    refine lv_tableIn (off := 75) (tgt := 76) hx hb dX11_toldOf_1 (by rw [hc5]; decide) (by rw [hc5]; decide) (by rw [hc5]; rfl) (by decide) ?_
    refine lv_aload_n hx hb dX11_toldOf_76 rfl (lv_at hl 0 rfl) ?_
    refine lv_iload_n hx hb dX11_toldOf_77 rfl (lv_at hl 1 rfl) ?_
    refine lv_iconst (v := 3) hx hb dX11_toldOf_78 (by decide) ?_
    obtain ⟨r_6, hcl, h⟩ := bind_el h
    refine call_V1 X hW (kC_X11 h0) m_7_42 m_7_44 m_0_73 mv_X11_ofQuest (c_X11_ofQuest h0 hcl) (by decide) rfl rfl (Nat.le_of_ble_eq_true rfl) hl.1 dX11_toldOf_79 ?_
    clear hW hcl; intro H locs hW
    exact ri_end hret h dX11_toldOf_82 hW
  replace h := if_f hc5 h
  by_cases hc6 : v2 = 6
  · replace h := if_t hc6 h
    refine lv_tableIn (off := 82) (tgt := 83) hx hb dX11_toldOf_1 (by rw [hc6]; decide) (by rw [hc6]; decide) (by rw [hc6]; rfl) (by decide) ?_
    refine lv_aload_n hx hb dX11_toldOf_83 rfl (lv_at hl 0 rfl) ?_
    refine lv_iload_n hx hb dX11_toldOf_84 rfl (lv_at hl 1 rfl) ?_
    obtain ⟨r_7, hcl, h⟩ := bind_el h
    refine call_V1 X hW (kC_X11 h0) m_7_58 m_7_60 m_0_76 mv_X11_failsOf (c_X11_failsOf h0 hcl) (by decide) rfl rfl (Nat.le_of_ble_eq_true rfl) hl.1 dX11_toldOf_85 ?_
    clear hW hcl; intro H locs hW
    exact ri_end hret h dX11_toldOf_88 hW
  replace h := if_f hc6 h
  refine lv_tableOut (tgt := 89) hx hb dX11_toldOf_1 (tb_out (n := 7) (by decide) rfl (fun k hk => match k, hk with | 0, _ => hc0 | 1, _ => hc1 | 2, _ => hc2 | 3, _ => hc3 | 4, _ => hc4 | 5, _ => hc5 | 6, _ => hc6 | k + 7, hk => absurd hk (by omega))) (by decide) ?_
  skip
  refine lv_aload_n hx hb dX11_toldOf_89 rfl (lv_at hl 0 rfl) ?_
  refine lv_iload_n hx hb dX11_toldOf_90 rfl (lv_at hl 1 rfl) ?_
  obtain ⟨r_8, σ_8, hcl, h⟩ := bnd2_el h
  refine call_V1 X hW (kC_X11 h0) m_7_124 m_7_126 m_0_90 mv_X11_triedSet (c_X11_triedSet h0 hcl) (by decide) rfl rfl (Nat.le_of_ble_eq_true rfl) hl.1 dX11_toldOf_91 ?_
  clear hW hcl; intro H locs hW
  exact ri_end hret h dX11_toldOf_94 hW
set_option maxRecDepth 20000 in
set_option maxHeartbeats 4000000 in
theorem c_X11_toldOfStep {G : Gt} {l : Launch} {v0 : Nat} (h0 : kd v0 = 10) {v1 : Int32} {v2 : Int32} {v3 : Int32} {σ : St} {r : Int32} (hf : pf_X11_toldOfStep v0 v1 v2 v3 σ = some r) : Ct G l yX11_toldOfStep cX11_toldOfStep 4 (some .int) 4 [.ref (gz G + (v0)), .int (v1), .int (v2), .int (v3)] σ (some (.int r)) σ := by
  refine met_i (by decide +kernel) (Nat.le_of_ble_eq_true rfl) rfl ?_
  intro p e s m args below meth c Q ls X hW hret hl
  have hx := X.1.1
  have hb := X.1.2.1
  have hl : lv_has ls 4 [(0, .ref (gz G + (v0))), (1, .int (v1)), (2, .int (v2)), (3, .int (v3))] := hl
  have h := hf
  clear hf
  unfold pf_X11_toldOfStep at h
  refine lv_aload_n hx hb dX11_toldOfStep_0 rfl (lv_at hl 0 rfl) ?_
  refine lv_iload_n hx hb dX11_toldOfStep_1 rfl (lv_at hl 1 rfl) ?_
  refine lv_iload_n hx hb dX11_toldOfStep_2 rfl (lv_at hl 2 rfl) ?_
  refine lv_iload_n hx hb dX11_toldOfStep_3 rfl (lv_at hl 3 rfl) ?_
  obtain ⟨r_1, hcl, h⟩ := bind_el h
  refine call_V1 X hW (kC_X11 h0) m_7_50 m_7_52 m_0_75 mv_X11_ofStep (c_X11_ofStep h0 hcl) (by decide) rfl rfl (Nat.le_of_ble_eq_true rfl) hl.1 dX11_toldOfStep_4 ?_
  clear hW hcl; intro H locs hW
  exact ri_end0 hret h dX11_toldOfStep_7 hW
set_option maxRecDepth 20000 in
set_option maxHeartbeats 4000000 in
theorem c_X11_quest {G : Gt} {l : Launch} {v0 : Nat} (h0 : kd v0 = 10) {v1 : Int32} {v2 : Int32} {σ : St} {r : Int32} {σ' : St} (hf : pf_X11_quest v0 v1 v2 σ = some (r, σ')) : Ct G l yX11_quest cX11_quest 3 (some .int) 10 [.ref (gz G + (v0)), .int (v1), .int (v2)] σ (some (.int r)) σ' := by
  refine met_i (by decide +kernel) (Nat.le_of_ble_eq_true rfl) rfl ?_
  intro p e s m args below meth c Q ls X hW hret hl
  have hx := X.1.1
  have hb := X.1.2.1
  have hl : lv_has ls 3 [(0, .ref (gz G + (v0))), (1, .int (v1)), (2, .int (v2))] := hl
  have h := hf
  clear hf
  unfold pf_X11_quest at h
  refine lv_aload_n hx hb dX11_quest_0 rfl (lv_at hl 0 rfl) ?_
  refine lv_iconst (v := 0) hx hb dX11_quest_1 (by decide) ?_
  refine sf_X11_thrown X hW h0 m_6_6 dX11_quest_2 ?_
  clear hW; intro H locs hW
  refine nm_s hW h ?_
  clear hW h; intro σ_1 hW h
  refine lv_aload_n hx hb dX11_quest_5 rfl (lv_at hl 0 rfl) ?_
  refine lv_iload_n hx hb dX11_quest_6 rfl (lv_at hl 1 rfl) ?_
  obtain ⟨r_2, σ_2, hcl, h⟩ := bnd2_el h
  refine call_V1 X hW (kC_X11 h0) m_7_112 m_7_114 m_0_87 mv_X11_isQuest (c_X11_isQuest h0 hcl) (by decide) rfl rfl (Nat.le_of_ble_eq_true rfl) hl.1 dX11_quest_7 ?_
  clear hW hcl; intro H locs hW
  refine lv_if_eq (tgt := 37) hx hb dX11_quest_10 (by decide) (fun hc => ?_) (fun hc => ?_)
  · replace h := if_t hc h
    refine lv_iconst (v := 0) hx hb dX11_quest_37 (by decide) ?_
    exact ri_end hret h dX11_quest_38 hW
  · replace h := if_f hc h
    refine lv_aload_n hx hb dX11_quest_13 rfl (lv_at hl 0 rfl) ?_
    refine lv_iload_n hx hb dX11_quest_14 rfl (lv_at hl 2 rfl) ?_
    refine lv_iconst (v := 0) hx hb dX11_quest_15 (by decide) ?_
    refine lv_bipush (v := 7) hx hb dX11_quest_16 (by decide) ?_
    obtain ⟨r_3, hcl, h⟩ := bind_el h
    refine call_S1 X hW m_6_109 m_6_110 mv_X11_isIn (c_X11_isIn hcl) (by decide) rfl rfl (Nat.le_of_ble_eq_true rfl) hl.1 dX11_quest_18 ?_
    clear hW hcl; intro H locs hW
    refine lv_iconst (v := 2) hx hb dX11_quest_21 (by decide) ?_
    obtain ⟨r_4, σ_4, hcl, h⟩ := bnd2_el h
    refine call_V1 X hW (kC_X11 h0) m_6_112 m_6_114 m_0_39 mv_X11_right (c_X11_right h0 hcl) (by decide) rfl rfl (Nat.le_of_ble_eq_true rfl) hl.1 dX11_quest_22 ?_
    clear hW hcl; intro H locs hW
    refine lv_if_eq (tgt := 37) hx hb dX11_quest_25 (by decide) (fun hc => ?_) (fun hc => ?_)
    · replace h := if_t hc h
      refine lv_iconst (v := 0) hx hb dX11_quest_37 (by decide) ?_
      exact ri_end hret h dX11_quest_38 hW
    · replace h := if_f hc h
      refine lv_aload_n hx hb dX11_quest_28 rfl (lv_at hl 0 rfl) ?_
      refine lv_iload_n hx hb dX11_quest_29 rfl (lv_at hl 1 rfl) ?_
      refine lv_iload_n hx hb dX11_quest_30 rfl (lv_at hl 2 rfl) ?_
      obtain ⟨r_5, σ_5, hcl, h⟩ := bnd2_el h
      refine call_V1 X hW (kC_X11 h0) m_7_116 m_7_118 m_0_88 mv_X11_toldOf (c_X11_toldOf h0 hcl) (by decide) rfl rfl (Nat.le_of_ble_eq_true rfl) hl.1 dX11_quest_31 ?_
      clear hW hcl; intro H locs hW
      refine lv_goto (tgt := 38) hx hb dX11_quest_34 (by decide) ?_
      exact ri_end hret h dX11_quest_38 hW
set_option maxRecDepth 20000 in
set_option maxHeartbeats 4000000 in
theorem c_X11_step {G : Gt} {l : Launch} {v0 : Nat} (h0 : kd v0 = 10) {v1 : Int32} {v2 : Int32} {v3 : Int32} {σ : St} {r : Int32} {σ' : St} (hf : pf_X11_step v0 v1 v2 v3 σ = some (r, σ')) : Ct G l yX11_step cX11_step 4 (some .int) 6 [.ref (gz G + (v0)), .int (v1), .int (v2), .int (v3)] σ (some (.int r)) σ' := by
  refine met_i (by decide +kernel) (Nat.le_of_ble_eq_true rfl) rfl ?_
  intro p e s m args below meth c Q ls X hW hret hl
  have hx := X.1.1
  have hb := X.1.2.1
  have hl : lv_has ls 4 [(0, .ref (gz G + (v0))), (1, .int (v1)), (2, .int (v2)), (3, .int (v3))] := hl
  have h := hf
  clear hf
  unfold pf_X11_step at h
  refine lv_aload_n hx hb dX11_step_0 rfl (lv_at hl 0 rfl) ?_
  refine lv_iconst (v := 0) hx hb dX11_step_1 (by decide) ?_
  refine sf_X11_thrown X hW h0 m_6_6 dX11_step_2 ?_
  clear hW; intro H locs hW
  refine nm_s hW h ?_
  clear hW h; intro σ_1 hW h
  refine lv_aload_n hx hb dX11_step_5 rfl (lv_at hl 0 rfl) ?_
  refine lv_iload_n hx hb dX11_step_6 rfl (lv_at hl 1 rfl) ?_
  refine lv_iload_n hx hb dX11_step_7 rfl (lv_at hl 2 rfl) ?_
  obtain ⟨r_2, σ_2, hcl, h⟩ := bnd2_el h
  refine call_V1 X hW (kC_X11 h0) m_7_132 m_7_134 m_0_91 mv_X11_isStep (c_X11_isStep h0 hcl) (by decide) rfl rfl (Nat.le_of_ble_eq_true rfl) hl.1 dX11_step_8 ?_
  clear hW hcl; intro H locs hW
  refine lv_if_eq (tgt := 38) hx hb dX11_step_11 (by decide) (fun hc => ?_) (fun hc => ?_)
  · replace h := if_t hc h
    refine lv_iconst (v := 0) hx hb dX11_step_38 (by decide) ?_
    exact ri_end hret h dX11_step_39 hW
  · replace h := if_f hc h
    refine lv_aload_n hx hb dX11_step_14 rfl (lv_at hl 0 rfl) ?_
    refine lv_iload_n hx hb dX11_step_15 rfl (lv_at hl 3 rfl) ?_
    refine lv_iconst (v := 0) hx hb dX11_step_16 (by decide) ?_
    refine lv_iconst (v := 5) hx hb dX11_step_17 (by decide) ?_
    obtain ⟨r_3, hcl, h⟩ := bind_el h
    refine call_S1 X hW m_6_109 m_6_110 mv_X11_isIn (c_X11_isIn hcl) (by decide) rfl rfl (Nat.le_of_ble_eq_true rfl) hl.1 dX11_step_18 ?_
    clear hW hcl; intro H locs hW
    refine lv_iconst (v := 2) hx hb dX11_step_21 (by decide) ?_
    obtain ⟨r_4, σ_4, hcl, h⟩ := bnd2_el h
    refine call_V1 X hW (kC_X11 h0) m_6_112 m_6_114 m_0_39 mv_X11_right (c_X11_right h0 hcl) (by decide) rfl rfl (Nat.le_of_ble_eq_true rfl) hl.1 dX11_step_22 ?_
    clear hW hcl; intro H locs hW
    refine lv_if_eq (tgt := 38) hx hb dX11_step_25 (by decide) (fun hc => ?_) (fun hc => ?_)
    · replace h := if_t hc h
      refine lv_iconst (v := 0) hx hb dX11_step_38 (by decide) ?_
      exact ri_end hret h dX11_step_39 hW
    · replace h := if_f hc h
      refine lv_aload_n hx hb dX11_step_28 rfl (lv_at hl 0 rfl) ?_
      refine lv_iload_n hx hb dX11_step_29 rfl (lv_at hl 1 rfl) ?_
      refine lv_iload_n hx hb dX11_step_30 rfl (lv_at hl 2 rfl) ?_
      refine lv_iload_n hx hb dX11_step_31 rfl (lv_at hl 3 rfl) ?_
      obtain ⟨r_5, hcl, h⟩ := bind_el h
      refine call_V1 X hW (kC_X11 h0) m_7_136 m_7_138 m_0_92 mv_X11_toldOfStep (c_X11_toldOfStep h0 hcl) (by decide) rfl rfl (Nat.le_of_ble_eq_true rfl) hl.1 dX11_step_32 ?_
      clear hW hcl; intro H locs hW
      refine lv_goto (tgt := 39) hx hb dX11_step_35 (by decide) ?_
      exact ri_end hret h dX11_step_39 hW
set_option maxRecDepth 20000 in
set_option maxHeartbeats 4000000 in
theorem bl_X11_amount_b65 (X : Cx G p R s m args c cells slots cX11_amount 5 RX11 6) {r : Int32} {σ' : St} (hret : R_I G p l e R s m args below meth c cells slots Q cX11_amount r σ') :
    ∀ (v3 : Int32) (s0 : Nat) (hs0 : kd s0 = 10) (s1 : Int32) (s2 : Int32) (s3 : Int32) (σ : St) (_ : pf_X11_amount_b65 v3 s0 s1 s2 s3 σ = some (r, σ')) (H : Heap) (locs : List Loc) (ls : Array Slot) (_ : GW G σ s H locs) (_ : lv_has ls 5 [(3, .int (v3))]), W p l e R s m args below meth c H locs cells slots Q (F0 m 65 ls [.int (s3), .int (s2), .int (s1), .ref (gz G + (s0))]) := by
  have hx := X.1.1
  have hb := X.1.2.1
  intro v3 s0 hs0 s1 s2 s3 σ h H locs ls hW hl
  unfold pf_X11_amount_b65 at h
  refine lv_iload_n hx hb dX11_amount_65 rfl (lv_at hl 0 rfl) ?_
  refine lv_iadd hx hb dX11_amount_66 ?_
  obtain ⟨r_1, hcl, h⟩ := bind_el h
  refine call_V1 X hW (kC_X11 hs0) m_7_50 m_7_52 m_0_75 mv_X11_ofStep (c_X11_ofStep hs0 hcl) (by decide) rfl rfl (Nat.le_of_ble_eq_true rfl) hl.1 dX11_amount_67 ?_
  clear hW hcl; intro H locs hW
  exact ri_end hret h dX11_amount_70 hW
set_option maxRecDepth 20000 in
set_option maxHeartbeats 4000000 in
theorem c_X11_amount {G : Gt} {l : Launch} {v0 : Nat} (h0 : kd v0 = 10) {v1 : Int32} {v2 : Int32} {v3 : Int32} {v4 : Int32} {σ : St} {r : Int32} {σ' : St} (hf : pf_X11_amount v0 v1 v2 v3 v4 σ = some (r, σ')) : Ct G l yX11_amount cX11_amount 5 (some .int) 6 [.ref (gz G + (v0)), .int (v1), .int (v2), .int (v3), .int (v4)] σ (some (.int r)) σ' := by
  refine met_i (by decide +kernel) (Nat.le_of_ble_eq_true rfl) rfl ?_
  intro p e s m args below meth c Q ls X hW hret hl
  have hx := X.1.1
  have hb := X.1.2.1
  have hl : lv_has ls 5 [(0, .ref (gz G + (v0))), (1, .int (v1)), (2, .int (v2)), (3, .int (v3)), (4, .int (v4))] := hl
  have h := hf
  clear hf
  unfold pf_X11_amount at h
  refine lv_aload_n hx hb dX11_amount_0 rfl (lv_at hl 0 rfl) ?_
  refine lv_iconst (v := 0) hx hb dX11_amount_1 (by decide) ?_
  refine sf_X11_thrown X hW h0 m_6_6 dX11_amount_2 ?_
  clear hW; intro H locs hW
  refine nm_s hW h ?_
  clear hW h; intro σ_1 hW h
  refine lv_aload_n hx hb dX11_amount_5 rfl (lv_at hl 0 rfl) ?_
  refine lv_iload_n hx hb dX11_amount_6 rfl (lv_at hl 1 rfl) ?_
  refine lv_iload_n hx hb dX11_amount_7 rfl (lv_at hl 2 rfl) ?_
  obtain ⟨r_2, σ_2, hcl, h⟩ := bnd2_el h
  refine call_V1 X hW (kC_X11 h0) m_7_132 m_7_134 m_0_91 mv_X11_isStep (c_X11_isStep h0 hcl) (by decide) rfl rfl (Nat.le_of_ble_eq_true rfl) hl.1 dX11_amount_8 ?_
  clear hW hcl; intro H locs hW
  refine lv_if_eq (tgt := 37) hx hb dX11_amount_11 (by decide) (fun hc => ?_) (fun hc => ?_)
  · replace h := if_t hc h
    refine lv_iconst (v := 0) hx hb dX11_amount_37 (by decide) ?_
    exact ri_end hret h dX11_amount_38 hW
  · replace h := if_f hc h
    refine lv_aload_n hx hb dX11_amount_14 rfl (lv_at hl 0 rfl) ?_
    refine lv_iload_n hx hb dX11_amount_15 rfl (lv_at hl 3 rfl) ?_
    obtain ⟨r_3, σ_3, hcl, h⟩ := bnd2_el h
    refine call_V1 X hW (kC_X11 h0) m_7_104 m_7_106 m_0_86 mv_X11_isItem (c_X11_isItem h0 hcl) (by decide) rfl rfl (Nat.le_of_ble_eq_true rfl) hl.1 dX11_amount_16 ?_
    clear hW hcl; intro H locs hW
    refine lv_if_eq (tgt := 37) hx hb dX11_amount_19 (by decide) (fun hc => ?_) (fun hc => ?_)
    · replace h := if_t hc h
      refine lv_iconst (v := 0) hx hb dX11_amount_37 (by decide) ?_
      exact ri_end hret h dX11_amount_38 hW
    · replace h := if_f hc h
      refine lv_aload_n hx hb dX11_amount_22 rfl (lv_at hl 0 rfl) ?_
      refine lv_iload hx hb dX11_amount_23 (lv_at hl 4 rfl) ?_
      refine lv_iconst (v := 0) hx hb dX11_amount_25 (by decide) ?_
      refine lv_iconst (v := 2) hx hb dX11_amount_26 (by decide) ?_
      obtain ⟨r_4, hcl, h⟩ := bind_el h
      refine call_S1 X hW m_6_109 m_6_110 mv_X11_isIn (c_X11_isIn hcl) (by decide) rfl rfl (Nat.le_of_ble_eq_true rfl) hl.1 dX11_amount_27 ?_
      clear hW hcl; intro H locs hW
      refine lv_iconst (v := 2) hx hb dX11_amount_30 (by decide) ?_
      obtain ⟨r_5, σ_5, hcl, h⟩ := bnd2_el h
      refine call_V1 X hW (kC_X11 h0) m_6_112 m_6_114 m_0_39 mv_X11_right (c_X11_right h0 hcl) (by decide) rfl rfl (Nat.le_of_ble_eq_true rfl) hl.1 dX11_amount_31 ?_
      clear hW hcl; intro H locs hW
      refine lv_if_ne (tgt := 39) hx hb dX11_amount_34 (by decide) (fun hc => ?_) (fun hc => ?_)
      · replace h := if_f hc h
        refine lv_aload_n hx hb dX11_amount_39 rfl (lv_at hl 0 rfl) ?_
        refine lv_iload_n hx hb dX11_amount_40 rfl (lv_at hl 1 rfl) ?_
        refine lv_iload_n hx hb dX11_amount_41 rfl (lv_at hl 2 rfl) ?_
        refine lv_iload hx hb dX11_amount_42 (lv_at hl 4 rfl) ?_
        refine lv_if_ne (tgt := 52) hx hb dX11_amount_44 (by decide) (fun hc => ?_) (fun hc => ?_)
        · replace h := if_f hc h
          refine lv_iload hx hb dX11_amount_52 (lv_at hl 4 rfl) ?_
          refine lv_iconst (v := 1) hx hb dX11_amount_54 (by decide) ?_
          refine lv_icmp_ne (tgt := 63) hx hb dX11_amount_55 (by decide) (fun hc => ?_) (fun hc => ?_)
          · replace h := if_f hc h
            refine lv_bipush (v := 22) hx hb dX11_amount_63 (by decide) ?_
            exact bl_X11_amount_b65 X hret v3 v0 h0 v1 v2 22 σ_5 h _ _ _ hW (lv_sub hl [3] rfl)
          · replace h := if_t hc h
            refine lv_bipush (v := 14) hx hb dX11_amount_58 (by decide) ?_
            refine lv_goto (tgt := 65) hx hb dX11_amount_60 (by decide) ?_
            exact bl_X11_amount_b65 X hret v3 v0 h0 v1 v2 14 σ_5 h _ _ _ hW (lv_sub hl [3] rfl)
        · replace h := if_t hc h
          refine lv_bipush (v := 6) hx hb dX11_amount_47 (by decide) ?_
          refine lv_goto (tgt := 65) hx hb dX11_amount_49 (by decide) ?_
          exact bl_X11_amount_b65 X hret v3 v0 h0 v1 v2 6 σ_5 h _ _ _ hW (lv_sub hl [3] rfl)
      · replace h := if_t hc h
        refine lv_iconst (v := 0) hx hb dX11_amount_37 (by decide) ?_
        exact ri_end hret h dX11_amount_38 hW
set_option maxRecDepth 20000 in
set_option maxHeartbeats 4000000 in
theorem c_X11_why {G : Gt} {l : Launch} {v0 : Nat} (h0 : kd v0 = 10) {v1 : Int32} {v2 : Int32} {σ : St} {r : Int32} {σ' : St} (hf : pf_X11_why v0 v1 v2 σ = some (r, σ')) : Ct G l yX11_why cX11_why 3 (some .int) 7 [.ref (gz G + (v0)), .int (v1), .int (v2)] σ (some (.int r)) σ' := by
  refine met_i (by decide +kernel) (Nat.le_of_ble_eq_true rfl) rfl ?_
  intro p e s m args below meth c Q ls X hW hret hl
  have hx := X.1.1
  have hb := X.1.2.1
  have hl : lv_has ls 3 [(0, .ref (gz G + (v0))), (1, .int (v1)), (2, .int (v2))] := hl
  have h := hf
  clear hf
  unfold pf_X11_why at h
  refine lv_aload_n hx hb dX11_why_0 rfl (lv_at hl 0 rfl) ?_
  refine lv_iconst (v := 0) hx hb dX11_why_1 (by decide) ?_
  refine sf_X11_thrown X hW h0 m_6_6 dX11_why_2 ?_
  clear hW; intro H locs hW
  refine nm_s hW h ?_
  clear hW h; intro σ_1 hW h
  refine lv_aload_n hx hb dX11_why_5 rfl (lv_at hl 0 rfl) ?_
  refine lv_iload_n hx hb dX11_why_6 rfl (lv_at hl 1 rfl) ?_
  refine lv_iload_n hx hb dX11_why_7 rfl (lv_at hl 2 rfl) ?_
  obtain ⟨r_2, σ_2, hcl, h⟩ := bnd2_el h
  refine call_V1 X hW (kC_X11 h0) m_7_132 m_7_134 m_0_91 mv_X11_isStep (c_X11_isStep h0 hcl) (by decide) rfl rfl (Nat.le_of_ble_eq_true rfl) hl.1 dX11_why_8 ?_
  clear hW hcl; intro H locs hW
  refine lv_if_ne (tgt := 16) hx hb dX11_why_11 (by decide) (fun hc => ?_) (fun hc => ?_)
  · replace h := if_f hc h
    refine lv_aload_n hx hb dX11_why_16 rfl (lv_at hl 0 rfl) ?_
    refine lv_iload_n hx hb dX11_why_17 rfl (lv_at hl 1 rfl) ?_
    obtain ⟨r_3, hcl, h⟩ := bind_el h
    refine call_V1 X hW (kC_X11 h0) m_7_96 m_7_98 m_0_85 mv_X11_isQuestOpen (c_X11_isQuestOpen h0 hcl) (by decide) rfl rfl (Nat.le_of_ble_eq_true rfl) hl.1 dX11_why_18 ?_
    clear hW hcl; intro H locs hW
    refine lv_if_ne (tgt := 26) hx hb dX11_why_21 (by decide) (fun hc => ?_) (fun hc => ?_)
    · replace h := if_f hc h
      refine lv_aload_n hx hb dX11_why_26 rfl (lv_at hl 0 rfl) ?_
      refine lv_iload_n hx hb dX11_why_27 rfl (lv_at hl 1 rfl) ?_
      refine lv_iload_n hx hb dX11_why_28 rfl (lv_at hl 2 rfl) ?_
      refine lv_iconst (v := 3) hx hb dX11_why_29 (by decide) ?_
      obtain ⟨r_4, hcl, h⟩ := bind_el h
      refine call_V1 X hW (kC_X11 h0) m_7_50 m_7_52 m_0_75 mv_X11_ofStep (c_X11_ofStep h0 hcl) (by decide) rfl rfl (Nat.le_of_ble_eq_true rfl) hl.1 dX11_why_30 ?_
      clear hW hcl; intro H locs hW
      refine lv_iconst (v := 1) hx hb dX11_why_33 (by decide) ?_
      refine lv_icmp_ne (tgt := 39) hx hb dX11_why_34 (by decide) (fun hc => ?_) (fun hc => ?_)
      · replace h := if_f hc h
        refine lv_aload_n hx hb dX11_why_39 rfl (lv_at hl 0 rfl) ?_
        refine lv_iload_n hx hb dX11_why_40 rfl (lv_at hl 1 rfl) ?_
        refine lv_iload_n hx hb dX11_why_41 rfl (lv_at hl 2 rfl) ?_
        obtain ⟨r_5, hcl, h⟩ := bind_el h
        refine call_V1 X hW (kC_X11 h0) m_7_83 m_7_85 m_0_82 mv_X11_isBroken (c_X11_isBroken h0 hcl) (by decide) rfl rfl (Nat.le_of_ble_eq_true rfl) hl.1 dX11_why_42 ?_
        clear hW hcl; intro H locs hW
        refine lv_if_eq (tgt := 50) hx hb dX11_why_45 (by decide) (fun hc => ?_) (fun hc => ?_)
        · replace h := if_t hc h
          refine lv_aload_n hx hb dX11_why_50 rfl (lv_at hl 0 rfl) ?_
          refine lv_iload_n hx hb dX11_why_51 rfl (lv_at hl 1 rfl) ?_
          refine lv_iload_n hx hb dX11_why_52 rfl (lv_at hl 2 rfl) ?_
          refine lv_iconst (v := 4) hx hb dX11_why_53 (by decide) ?_
          obtain ⟨r_6, hcl, h⟩ := bind_el h
          refine call_V1 X hW (kC_X11 h0) m_7_50 m_7_52 m_0_75 mv_X11_ofStep (c_X11_ofStep h0 hcl) (by decide) rfl rfl (Nat.le_of_ble_eq_true rfl) hl.1 dX11_why_54 ?_
          clear hW hcl; intro H locs hW
          refine lv_aload_n hx hb dX11_why_57 rfl (lv_at hl 0 rfl) ?_
          refine lv_iload_n hx hb dX11_why_58 rfl (lv_at hl 1 rfl) ?_
          obtain ⟨r_7, hcl, h⟩ := bind_el h
          refine call_V1 X hW (kC_X11 h0) m_7_46 m_7_48 m_0_74 mv_X11_doneSet (c_X11_doneSet h0 hcl) (by decide) rfl rfl (Nat.le_of_ble_eq_true rfl) hl.1 dX11_why_59 ?_
          clear hW hcl; intro H locs hW
          refine lv_iconst (v := (-1)) hx hb dX11_why_62 (by decide) ?_
          refine lv_ixor hx hb dX11_why_63 ?_
          refine lv_iand hx hb dX11_why_64 ?_
          refine lv_if_eq (tgt := 70) hx hb dX11_why_65 (by decide) (fun hc => ?_) (fun hc => ?_)
          · replace h := if_t hc h
            refine lv_aload_n hx hb dX11_why_70 rfl (lv_at hl 0 rfl) ?_
            obtain ⟨σ_8, hcl, h⟩ := bind_el h
            refine call_V0 X hW (kC_X11 h0) m_7_66 m_7_68 m_0_78 mv_X11_asItIs (c_X11_asItIs h0 hcl) (by decide) rfl rfl (Nat.le_of_ble_eq_true rfl) hl.1 dX11_why_71 ?_
            clear hW hcl; intro H locs hW
            refine lv_aload_n hx hb dX11_why_74 rfl (lv_at hl 0 rfl) ?_
            refine lv_iload_n hx hb dX11_why_75 rfl (lv_at hl 1 rfl) ?_
            refine lv_iload_n hx hb dX11_why_76 rfl (lv_at hl 2 rfl) ?_
            refine lv_iconst (v := 0) hx hb dX11_why_77 (by decide) ?_
            obtain ⟨r_9, hcl, h⟩ := bind_el h
            refine call_V1 X hW (kC_X11 h0) m_7_87 m_7_89 m_0_83 mv_X11_hasItems (c_X11_hasItems h0 hcl) (by decide) rfl rfl (Nat.le_of_ble_eq_true rfl) hl.1 dX11_why_78 ?_
            clear hW hcl; intro H locs hW
            refine lv_if_eq (tgt := 88) hx hb dX11_why_81 (by decide) (fun hc => ?_) (fun hc => ?_)
            · replace h := if_t hc h
              refine lv_iconst (v := 5) hx hb dX11_why_88 (by decide) ?_
              exact ri_end hret h dX11_why_89 hW
            · replace h := if_f hc h
              refine lv_iconst (v := 0) hx hb dX11_why_84 (by decide) ?_
              refine lv_goto (tgt := 89) hx hb dX11_why_85 (by decide) ?_
              exact ri_end hret h dX11_why_89 hW
          · replace h := if_f hc h
            refine lv_iconst (v := 4) hx hb dX11_why_68 (by decide) ?_
            exact ri_end hret h dX11_why_69 hW
        · replace h := if_f hc h
          refine lv_iconst (v := 3) hx hb dX11_why_48 (by decide) ?_
          exact ri_end hret h dX11_why_49 hW
      · replace h := if_t hc h
        refine lv_iconst (v := 2) hx hb dX11_why_37 (by decide) ?_
        exact ri_end hret h dX11_why_38 hW
    · replace h := if_t hc h
      refine lv_iconst (v := 1) hx hb dX11_why_24 (by decide) ?_
      exact ri_end hret h dX11_why_25 hW
  · replace h := if_t hc h
    refine lv_iconst (v := 0) hx hb dX11_why_14 (by decide) ?_
    exact ri_end hret h dX11_why_15 hW
set_option maxRecDepth 20000 in
set_option maxHeartbeats 4000000 in
theorem c_X11_holds {G : Gt} {l : Launch} {v0 : Nat} (h0 : kd v0 = 10) {v1 : Int32} {v2 : Int32} {σ : St} {r : Int32} {σ' : St} (hf : pf_X11_holds v0 v1 v2 σ = some (r, σ')) : Ct G l yX11_holds cX11_holds 3 (some .boolean) 5 [.ref (gz G + (v0)), .int (v1), .int (v2)] σ (some (.int r)) σ' := by
  refine met_z (by decide +kernel) (Nat.le_of_ble_eq_true rfl) rfl ?_
  intro p e s m args below meth c Q ls X hW hret hl
  have hx := X.1.1
  have hb := X.1.2.1
  have hl : lv_has ls 3 [(0, .ref (gz G + (v0))), (1, .int (v1)), (2, .int (v2))] := hl
  have h := hf
  clear hf
  unfold pf_X11_holds at h
  refine lv_aload_n hx hb dX11_holds_0 rfl (lv_at hl 0 rfl) ?_
  refine lv_iconst (v := 0) hx hb dX11_holds_1 (by decide) ?_
  refine sf_X11_thrown X hW h0 m_6_6 dX11_holds_2 ?_
  clear hW; intro H locs hW
  refine nm_s hW h ?_
  clear hW h; intro σ_1 hW h
  refine lv_aload_n hx hb dX11_holds_5 rfl (lv_at hl 0 rfl) ?_
  refine lv_iload_n hx hb dX11_holds_6 rfl (lv_at hl 1 rfl) ?_
  obtain ⟨r_2, σ_2, hcl, h⟩ := bnd2_el h
  refine call_V1 X hW (kC_X11 h0) m_7_112 m_7_114 m_0_87 mv_X11_isQuest (c_X11_isQuest h0 hcl) (by decide) rfl rfl (Nat.le_of_ble_eq_true rfl) hl.1 dX11_holds_7 ?_
  clear hW hcl; intro H locs hW
  refine lv_if_eq (tgt := 41) hx hb dX11_holds_10 (by decide) (fun hc => ?_) (fun hc => ?_)
  · replace h := if_t hc h
    refine lv_iconst (v := 0) hx hb dX11_holds_41 (by decide) ?_
    exact rz_end hret h (by decide) dX11_holds_42 hW
  · replace h := if_f hc h
    refine lv_aload_n hx hb dX11_holds_13 rfl (lv_at hl 0 rfl) ?_
    refine lv_iload_n hx hb dX11_holds_14 rfl (lv_at hl 2 rfl) ?_
    refine lv_iconst (v := 0) hx hb dX11_holds_15 (by decide) ?_
    refine lv_bipush (v := 63) hx hb dX11_holds_16 (by decide) ?_
    obtain ⟨r_3, hcl, h⟩ := bind_el h
    refine call_S1 X hW m_6_109 m_6_110 mv_X11_isIn (c_X11_isIn hcl) (by decide) rfl rfl (Nat.le_of_ble_eq_true rfl) hl.1 dX11_holds_18 ?_
    clear hW hcl; intro H locs hW
    refine lv_iconst (v := 2) hx hb dX11_holds_21 (by decide) ?_
    obtain ⟨r_4, σ_4, hcl, h⟩ := bnd2_el h
    refine call_V1 X hW (kC_X11 h0) m_6_112 m_6_114 m_0_39 mv_X11_right (c_X11_right h0 hcl) (by decide) rfl rfl (Nat.le_of_ble_eq_true rfl) hl.1 dX11_holds_22 ?_
    clear hW hcl; intro H locs hW
    refine lv_if_eq (tgt := 41) hx hb dX11_holds_25 (by decide) (fun hc => ?_) (fun hc => ?_)
    · replace h := if_t hc h
      refine lv_iconst (v := 0) hx hb dX11_holds_41 (by decide) ?_
      exact rz_end hret h (by decide) dX11_holds_42 hW
    · replace h := if_f hc h
      refine lv_aload_n hx hb dX11_holds_28 rfl (lv_at hl 0 rfl) ?_
      refine lv_iload_n hx hb dX11_holds_29 rfl (lv_at hl 1 rfl) ?_
      refine lv_iload_n hx hb dX11_holds_30 rfl (lv_at hl 2 rfl) ?_
      obtain ⟨r_5, σ_5, hcl, h⟩ := bnd2_el h
      refine call_V1 X hW (kC_X11 h0) m_7_75 m_7_77 m_0_80 mv_X11_holdsBy (c_X11_holdsBy h0 hcl) (by decide) rfl rfl (Nat.le_of_ble_eq_true rfl) hl.1 dX11_holds_31 ?_
      clear hW hcl; intro H locs hW
      refine lv_if_eq (tgt := 41) hx hb dX11_holds_34 (by decide) (fun hc => ?_) (fun hc => ?_)
      · replace h := if_t hc h
        refine lv_iconst (v := 0) hx hb dX11_holds_41 (by decide) ?_
        exact rz_end hret h (by decide) dX11_holds_42 hW
      · replace h := if_f hc h
        refine lv_iconst (v := 1) hx hb dX11_holds_37 (by decide) ?_
        refine lv_goto (tgt := 42) hx hb dX11_holds_38 (by decide) ?_
        exact rz_end hret h (by decide) dX11_holds_42 hW
set_option maxRecDepth 20000 in
set_option maxHeartbeats 4000000 in
theorem c_X11_possible {G : Gt} {l : Launch} {v0 : Nat} (h0 : kd v0 = 10) {v1 : Int32} {σ : St} {r : Int32} {σ' : St} (hf : pf_X11_possible v0 v1 σ = some (r, σ')) : Ct G l yX11_possible cX11_possible 2 (some .boolean) 10 [.ref (gz G + (v0)), .int (v1)] σ (some (.int r)) σ' := by
  refine met_z (by decide +kernel) (Nat.le_of_ble_eq_true rfl) rfl ?_
  intro p e s m args below meth c Q ls X hW hret hl
  have hx := X.1.1
  have hb := X.1.2.1
  have hl : lv_has ls 2 [(0, .ref (gz G + (v0))), (1, .int (v1))] := hl
  have h := hf
  clear hf
  unfold pf_X11_possible at h
  refine lv_aload_n hx hb dX11_possible_0 rfl (lv_at hl 0 rfl) ?_
  refine lv_iconst (v := 0) hx hb dX11_possible_1 (by decide) ?_
  refine sf_X11_thrown X hW h0 m_6_6 dX11_possible_2 ?_
  clear hW; intro H locs hW
  refine nm_s hW h ?_
  clear hW h; intro σ_1 hW h
  refine lv_aload_n hx hb dX11_possible_5 rfl (lv_at hl 0 rfl) ?_
  refine lv_iload_n hx hb dX11_possible_6 rfl (lv_at hl 1 rfl) ?_
  obtain ⟨r_2, σ_2, hcl, h⟩ := bnd2_el h
  refine call_V1 X hW (kC_X11 h0) m_7_112 m_7_114 m_0_87 mv_X11_isQuest (c_X11_isQuest h0 hcl) (by decide) rfl rfl (Nat.le_of_ble_eq_true rfl) hl.1 dX11_possible_7 ?_
  clear hW hcl; intro H locs hW
  refine lv_if_eq (tgt := 25) hx hb dX11_possible_10 (by decide) (fun hc => ?_) (fun hc => ?_)
  · replace h := if_t hc h
    refine lv_iconst (v := 0) hx hb dX11_possible_25 (by decide) ?_
    exact rz_end hret h (by decide) dX11_possible_26 hW
  · replace h := if_f hc h
    refine lv_aload_n hx hb dX11_possible_13 rfl (lv_at hl 0 rfl) ?_
    refine lv_iload_n hx hb dX11_possible_14 rfl (lv_at hl 1 rfl) ?_
    obtain ⟨r_3, σ_3, hcl, h⟩ := bnd2_el h
    refine call_V1 X hW (kC_X11 h0) m_7_62 m_7_64 m_0_77 mv_X11_isPossible (c_X11_isPossible h0 hcl) (by decide) rfl rfl (Nat.le_of_ble_eq_true rfl) hl.1 dX11_possible_15 ?_
    clear hW hcl; intro H locs hW
    refine lv_if_eq (tgt := 25) hx hb dX11_possible_18 (by decide) (fun hc => ?_) (fun hc => ?_)
    · replace h := if_t hc h
      refine lv_iconst (v := 0) hx hb dX11_possible_25 (by decide) ?_
      exact rz_end hret h (by decide) dX11_possible_26 hW
    · replace h := if_f hc h
      refine lv_iconst (v := 1) hx hb dX11_possible_21 (by decide) ?_
      refine lv_goto (tgt := 26) hx hb dX11_possible_22 (by decide) ?_
      exact rz_end hret h (by decide) dX11_possible_26 hW
set_option maxRecDepth 20000 in
set_option maxHeartbeats 4000000 in
theorem c_X11_planLength {G : Gt} {l : Launch} {v0 : Nat} (h0 : kd v0 = 10) {v1 : Int32} {σ : St} {r : Int32} {σ' : St} (hf : pf_X11_planLength v0 v1 σ = some (r, σ')) : Ct G l yX11_planLength cX11_planLength 2 (some .int) 10 [.ref (gz G + (v0)), .int (v1)] σ (some (.int r)) σ' := by
  refine met_i (by decide +kernel) (Nat.le_of_ble_eq_true rfl) rfl ?_
  intro p e s m args below meth c Q ls X hW hret hl
  have hx := X.1.1
  have hb := X.1.2.1
  have hl : lv_has ls 2 [(0, .ref (gz G + (v0))), (1, .int (v1))] := hl
  have h := hf
  clear hf
  unfold pf_X11_planLength at h
  refine lv_aload_n hx hb dX11_planLength_0 rfl (lv_at hl 0 rfl) ?_
  refine lv_iconst (v := 0) hx hb dX11_planLength_1 (by decide) ?_
  refine sf_X11_thrown X hW h0 m_6_6 dX11_planLength_2 ?_
  clear hW; intro H locs hW
  refine nm_s hW h ?_
  clear hW h; intro σ_1 hW h
  refine lv_aload_n hx hb dX11_planLength_5 rfl (lv_at hl 0 rfl) ?_
  refine lv_iload_n hx hb dX11_planLength_6 rfl (lv_at hl 1 rfl) ?_
  obtain ⟨r_2, σ_2, hcl, h⟩ := bnd2_el h
  refine call_V1 X hW (kC_X11 h0) m_7_112 m_7_114 m_0_87 mv_X11_isQuest (c_X11_isQuest h0 hcl) (by decide) rfl rfl (Nat.le_of_ble_eq_true rfl) hl.1 dX11_planLength_7 ?_
  clear hW hcl; intro H locs hW
  refine lv_if_ne (tgt := 15) hx hb dX11_planLength_10 (by decide) (fun hc => ?_) (fun hc => ?_)
  · replace h := if_f hc h
    refine lv_aload_n hx hb dX11_planLength_15 rfl (lv_at hl 0 rfl) ?_
    refine lv_iload_n hx hb dX11_planLength_16 rfl (lv_at hl 1 rfl) ?_
    obtain ⟨r_3, σ_3, hcl, h⟩ := bnd2_el h
    refine call_V1 X hW (kC_X11 h0) m_7_62 m_7_64 m_0_77 mv_X11_isPossible (c_X11_isPossible h0 hcl) (by decide) rfl rfl (Nat.le_of_ble_eq_true rfl) hl.1 dX11_planLength_17 ?_
    clear hW hcl; intro H locs hW
    refine lv_if_eq (tgt := 35) hx hb dX11_planLength_20 (by decide) (fun hc => ?_) (fun hc => ?_)
    · replace h := if_t hc h
      refine lv_iconst (v := (-1)) hx hb dX11_planLength_35 (by decide) ?_
      exact ri_end hret h dX11_planLength_36 hW
    · replace h := if_f hc h
      refine lv_aload_n hx hb dX11_planLength_23 rfl (lv_at hl 0 rfl) ?_
      refine gf_X11_fewest X hW h0 m_6_13 dX11_planLength_24 ?_
      refine lv_aload_n hx hb dX11_planLength_27 rfl (lv_at hl 0 rfl) ?_
      refine gf_X11_begun X hW h0 m_6_15 dX11_planLength_28 ?_
      obtain ⟨hi4, h⟩ := ckI_el h
      refine r_iald X hW (kf_X11_fewest h0) hi4 dX11_planLength_31 ?_
      refine lv_goto (tgt := 36) hx hb dX11_planLength_32 (by decide) ?_
      exact ri_end hret h dX11_planLength_36 hW
  · replace h := if_t hc h
    refine lv_iconst (v := 0) hx hb dX11_planLength_13 (by decide) ?_
    exact ri_end hret h dX11_planLength_14 hW
set_option maxRecDepth 20000 in
set_option maxHeartbeats 4000000 in
theorem bl_X11_planStep_b45 (X : Cx G p R s m args c cells slots cX11_planStep 4 RX11 11) {r : Int32} {σ' : St} (hret : R_I G p l e R s m args below meth c cells slots Q cX11_planStep r σ') :
    ∀ (v0 : Nat) (h0 : kd v0 = 10) (v2 : Int32) (s0 : Nat) (hs0 : kd s0 = 10) (s1 : Int32) (σ : St) (_ : pf_X11_planStep_b45 v0 v2 s0 s1 σ = some (r, σ')) (H : Heap) (locs : List Loc) (ls : Array Slot) (_ : GW G σ s H locs) (_ : lv_has ls 4 [(0, .ref (gz G + (v0))), (2, .int (v2))]), W p l e R s m args below meth c H locs cells slots Q (F0 m 45 ls [.int (s1), .ref (gz G + (s0))]) := by
  have hx := X.1.1
  have hb := X.1.2.1
  intro v0 h0 v2 s0 hs0 s1 σ h H locs ls hW hl
  unfold pf_X11_planStep_b45 at h
  refine lv_iconst (v := 2) hx hb dX11_planStep_45 (by decide) ?_
  obtain ⟨r_1, σ_1, hcl, h⟩ := bnd2_el h
  refine call_V1 X hW (kC_X11 hs0) m_6_112 m_6_114 m_0_39 mv_X11_right (c_X11_right hs0 hcl) (by decide) rfl rfl (Nat.le_of_ble_eq_true rfl) hl.1 dX11_planStep_46 ?_
  clear hW hcl; intro H locs hW
  refine lv_if_eq (tgt := 61) hx hb dX11_planStep_49 (by decide) (fun hc => ?_) (fun hc => ?_)
  · replace h := if_t hc h
    refine lv_iconst (v := 0) hx hb dX11_planStep_61 (by decide) ?_
    exact ri_end hret h dX11_planStep_62 hW
  · replace h := if_f hc h
    refine lv_aload_n hx hb dX11_planStep_52 rfl (lv_at hl 0 rfl) ?_
    refine gf_X11_plan X hW h0 m_6_16 dX11_planStep_53 ?_
    refine lv_iload_n hx hb dX11_planStep_56 rfl (lv_at hl 1 rfl) ?_
    obtain ⟨hi2, h⟩ := ckI_el h
    refine r_iald X hW (kf_X11_plan h0) hi2 dX11_planStep_57 ?_
    refine lv_goto (tgt := 62) hx hb dX11_planStep_58 (by decide) ?_
    exact ri_end hret h dX11_planStep_62 hW
set_option maxRecDepth 20000 in
set_option maxHeartbeats 4000000 in
theorem bl_X11_planStep_b44 (X : Cx G p R s m args c cells slots cX11_planStep 4 RX11 11) {r : Int32} {σ' : St} (hret : R_I G p l e R s m args below meth c cells slots Q cX11_planStep r σ') :
    ∀ (v0 : Nat) (h0 : kd v0 = 10) (v2 : Int32) (s0 : Nat) (hs0 : kd s0 = 10) (σ : St) (_ : pf_X11_planStep_b44 v0 v2 s0 σ = some (r, σ')) (H : Heap) (locs : List Loc) (ls : Array Slot) (_ : GW G σ s H locs) (_ : lv_has ls 4 [(0, .ref (gz G + (v0))), (2, .int (v2))]), W p l e R s m args below meth c H locs cells slots Q (F0 m 44 ls [.ref (gz G + (s0))]) := by
  have hx := X.1.1
  have hb := X.1.2.1
  intro v0 h0 v2 s0 hs0 σ h H locs ls hW hl
  unfold pf_X11_planStep_b44 at h
  refine lv_iconst (v := 0) hx hb dX11_planStep_44 (by decide) ?_
  exact bl_X11_planStep_b45 X hret v0 h0 v2 s0 hs0 0 σ h _ _ _ hW (lv_sub hl [0, 1] rfl)
set_option maxRecDepth 20000 in
set_option maxHeartbeats 4000000 in
theorem c_X11_planStep {G : Gt} {l : Launch} {v0 : Nat} (h0 : kd v0 = 10) {v1 : Int32} {v2 : Int32} {σ : St} {r : Int32} {σ' : St} (hf : pf_X11_planStep v0 v1 v2 σ = some (r, σ')) : Ct G l yX11_planStep cX11_planStep 4 (some .int) 11 [.ref (gz G + (v0)), .int (v1), .int (v2)] σ (some (.int r)) σ' := by
  refine met_i (by decide +kernel) (Nat.le_of_ble_eq_true rfl) rfl ?_
  intro p e s m args below meth c Q ls X hW hret hl
  have hx := X.1.1
  have hb := X.1.2.1
  have hl : lv_has ls 4 [(0, .ref (gz G + (v0))), (1, .int (v1)), (2, .int (v2))] := hl
  have h := hf
  clear hf
  unfold pf_X11_planStep at h
  refine lv_aload_n hx hb dX11_planStep_0 rfl (lv_at hl 0 rfl) ?_
  refine lv_iconst (v := 0) hx hb dX11_planStep_1 (by decide) ?_
  refine sf_X11_thrown X hW h0 m_6_6 dX11_planStep_2 ?_
  clear hW; intro H locs hW
  refine nm_s hW h ?_
  clear hW h; intro σ_1 hW h
  refine lv_aload_n hx hb dX11_planStep_5 rfl (lv_at hl 0 rfl) ?_
  refine lv_iload_n hx hb dX11_planStep_6 rfl (lv_at hl 1 rfl) ?_
  obtain ⟨r_2, σ_2, hcl, h⟩ := bnd2_el h
  refine call_V1 X hW (kC_X11 h0) m_7_112 m_7_114 m_0_87 mv_X11_isQuest (c_X11_isQuest h0 hcl) (by decide) rfl rfl (Nat.le_of_ble_eq_true rfl) hl.1 dX11_planStep_7 ?_
  clear hW hcl; intro H locs hW
  refine lv_if_ne (tgt := 15) hx hb dX11_planStep_10 (by decide) (fun hc => ?_) (fun hc => ?_)
  · replace h := if_f hc h
    refine lv_aload_n hx hb dX11_planStep_15 rfl (lv_at hl 0 rfl) ?_
    refine lv_iload_n hx hb dX11_planStep_16 rfl (lv_at hl 1 rfl) ?_
    obtain ⟨r_3, σ_3, hcl, h⟩ := bnd2_el h
    refine call_V1 X hW (kC_X11 h0) m_7_164 m_7_166 m_0_93 mv_X11_hasPlan (c_X11_hasPlan h0 hcl) (by decide) rfl rfl (Nat.le_of_ble_eq_true rfl) hl.1 dX11_planStep_17 ?_
    clear hW hcl; intro H locs hW
    refine lv_istore_n (lv' := [(3, .int (r_3)), (0, .ref (gz G + (v0))), (1, .int (v1)), (2, .int (v2))]) hx hb dX11_planStep_20 rfl hl (by decide) rfl ?_
    clear hl; intro ls hl
    refine lv_aload_n hx hb dX11_planStep_21 rfl (lv_at hl 1 rfl) ?_
    refine lv_iload_n hx hb dX11_planStep_22 rfl (lv_at hl 0 rfl) ?_
    refine lv_if_eq (tgt := 44) hx hb dX11_planStep_23 (by decide) (fun hc => ?_) (fun hc => ?_)
    · replace h := if_t hc h
      exact bl_X11_planStep_b44 X hret v0 h0 v2 v0 h0 σ_3 h _ _ _ hW (lv_sub hl [1, 3] rfl)
    · replace h := if_f hc h
      refine lv_iload_n hx hb dX11_planStep_26 rfl (lv_at hl 3 rfl) ?_
      refine lv_iconst (v := 0) hx hb dX11_planStep_27 (by decide) ?_
      refine lv_aload_n hx hb dX11_planStep_28 rfl (lv_at hl 1 rfl) ?_
      refine gf_X11_planMany X hW h0 m_6_17 dX11_planStep_29 ?_
      refine lv_iconst (v := 1) hx hb dX11_planStep_32 (by decide) ?_
      refine lv_isub hx hb dX11_planStep_33 ?_
      obtain ⟨r_4, hcl, h⟩ := bind_el h
      refine call_S1 X hW m_6_109 m_6_110 mv_X11_isIn (c_X11_isIn hcl) (by decide) rfl rfl (Nat.le_of_ble_eq_true rfl) hl.1 dX11_planStep_34 ?_
      clear hW hcl; intro H locs hW
      refine lv_if_eq (tgt := 44) hx hb dX11_planStep_37 (by decide) (fun hc => ?_) (fun hc => ?_)
      · replace h := if_t hc h
        exact bl_X11_planStep_b44 X hret v0 h0 v2 v0 h0 σ_3 h _ _ _ hW (lv_sub hl [1, 3] rfl)
      · replace h := if_f hc h
        refine lv_iconst (v := 1) hx hb dX11_planStep_40 (by decide) ?_
        refine lv_goto (tgt := 45) hx hb dX11_planStep_41 (by decide) ?_
        exact bl_X11_planStep_b45 X hret v0 h0 v2 v0 h0 1 σ_3 h _ _ _ hW (lv_sub hl [1, 3] rfl)
  · replace h := if_t hc h
    refine lv_iconst (v := 0) hx hb dX11_planStep_13 (by decide) ?_
    exact ri_end hret h dX11_planStep_14 hW
set_option maxRecDepth 20000 in
set_option maxHeartbeats 4000000 in
theorem c_X11_safest {G : Gt} {l : Launch} {v0 : Nat} (h0 : kd v0 = 10) {v1 : Int32} {σ : St} {r : Int32} {σ' : St} (hf : pf_X11_safest v0 v1 σ = some (r, σ')) : Ct G l yX11_safest cX11_safest 2 (some .int) 10 [.ref (gz G + (v0)), .int (v1)] σ (some (.int r)) σ' := by
  refine met_i (by decide +kernel) (Nat.le_of_ble_eq_true rfl) rfl ?_
  intro p e s m args below meth c Q ls X hW hret hl
  have hx := X.1.1
  have hb := X.1.2.1
  have hl : lv_has ls 2 [(0, .ref (gz G + (v0))), (1, .int (v1))] := hl
  have h := hf
  clear hf
  unfold pf_X11_safest at h
  refine lv_aload_n hx hb dX11_safest_0 rfl (lv_at hl 0 rfl) ?_
  refine lv_iconst (v := 0) hx hb dX11_safest_1 (by decide) ?_
  refine sf_X11_thrown X hW h0 m_6_6 dX11_safest_2 ?_
  clear hW; intro H locs hW
  refine nm_s hW h ?_
  clear hW h; intro σ_1 hW h
  refine lv_aload_n hx hb dX11_safest_5 rfl (lv_at hl 0 rfl) ?_
  refine lv_iload_n hx hb dX11_safest_6 rfl (lv_at hl 1 rfl) ?_
  obtain ⟨r_2, σ_2, hcl, h⟩ := bnd2_el h
  refine call_V1 X hW (kC_X11 h0) m_7_112 m_7_114 m_0_87 mv_X11_isQuest (c_X11_isQuest h0 hcl) (by decide) rfl rfl (Nat.le_of_ble_eq_true rfl) hl.1 dX11_safest_7 ?_
  clear hW hcl; intro H locs hW
  refine lv_if_ne (tgt := 15) hx hb dX11_safest_10 (by decide) (fun hc => ?_) (fun hc => ?_)
  · replace h := if_f hc h
    refine lv_aload_n hx hb dX11_safest_15 rfl (lv_at hl 0 rfl) ?_
    refine lv_iload_n hx hb dX11_safest_16 rfl (lv_at hl 1 rfl) ?_
    obtain ⟨r_3, σ_3, hcl, h⟩ := bnd2_el h
    refine call_V1 X hW (kC_X11 h0) m_7_62 m_7_64 m_0_77 mv_X11_isPossible (c_X11_isPossible h0 hcl) (by decide) rfl rfl (Nat.le_of_ble_eq_true rfl) hl.1 dX11_safest_17 ?_
    clear hW hcl; intro H locs hW
    refine lv_if_eq (tgt := 35) hx hb dX11_safest_20 (by decide) (fun hc => ?_) (fun hc => ?_)
    · replace h := if_t hc h
      refine lv_iconst (v := (-1)) hx hb dX11_safest_35 (by decide) ?_
      exact ri_end hret h dX11_safest_36 hW
    · replace h := if_f hc h
      refine lv_aload_n hx hb dX11_safest_23 rfl (lv_at hl 0 rfl) ?_
      refine gf_X11_safestBy X hW h0 m_6_14 dX11_safest_24 ?_
      refine lv_aload_n hx hb dX11_safest_27 rfl (lv_at hl 0 rfl) ?_
      refine gf_X11_begun X hW h0 m_6_15 dX11_safest_28 ?_
      obtain ⟨hi4, h⟩ := ckI_el h
      refine r_iald X hW (kf_X11_safestBy h0) hi4 dX11_safest_31 ?_
      refine lv_goto (tgt := 36) hx hb dX11_safest_32 (by decide) ?_
      exact ri_end hret h dX11_safest_36 hW
  · replace h := if_t hc h
    refine lv_iconst (v := 0) hx hb dX11_safest_13 (by decide) ?_
    exact ri_end hret h dX11_safest_14 hW
set_option maxRecDepth 20000 in
set_option maxHeartbeats 4000000 in
theorem bl_X11_endings_b49 (X : Cx G p R s m args c cells slots cX11_endings 5 RX11 10) {r : Int32} {σ' : St} (hret : R_I G p l e R s m args below meth c cells slots Q cX11_endings r σ') {k25 : Nat → Int32 → Int32 → St → (Option (Int32 × St))}
    (hk25 : ∀ (v0 : Nat) (h0 : kd v0 = 10) (v1 : Int32) (v2 : Int32) (σ : St) (_ : k25 v0 v1 v2 σ = some (r, σ')) (H : Heap) (locs : List Loc) (ls : Array Slot) (_ : GW G σ s H locs) (_ : lv_has ls 5 [(0, .ref (gz G + (v0))), (1, .int (v1)), (2, .int (v2))]), W p l e R s m args below meth c H locs cells slots Q (F0 m 25 ls [])) :
    ∀ (v0 : Nat) (h0 : kd v0 = 10) (v1 : Int32) (v2 : Int32) (s0 : Nat) (hs0 : kd s0 = 13) (s1 : Int32) (s2 : Int32) (σ : St) (_ : pf_X11_endings_b49 k25 v0 v1 v2 s0 s1 s2 σ = some (r, σ')) (H : Heap) (locs : List Loc) (ls : Array Slot) (_ : GW G σ s H locs) (_ : lv_has ls 5 [(0, .ref (gz G + (v0))), (1, .int (v1)), (2, .int (v2))]), W p l e R s m args below meth c H locs cells slots Q (F0 m 49 ls [.int (s2), .int (s1), .ref (gz G + (s0))]) := by
  have hx := X.1.1
  have hb := X.1.2.1
  intro v0 h0 v1 v2 s0 hs0 s1 s2 σ h H locs ls hW hl
  unfold pf_X11_endings_b49 at h
  obtain ⟨hi1, h⟩ := ckI_el h
  obtain ⟨hz, h⟩ := ckZ_el h
  refine r_zast X hW hz hs0 hi1 dX11_endings_49 ?_
  clear hW; intro H locs hW
  refine nm_s hW h ?_
  clear hW h; intro σ_2 hW h
  refine w_iinc (v := 1) (lv' := fun y => [(2, .int (y)), (0, .ref (gz G + (v0))), (1, .int (v1))]) hx hb dX11_endings_50 hl (k := 2) rfl (by decide) (by decide) (fun _ => rfl) h ?_
  clear h hl; intro v2_3 h ls hl
  refine lv_goto (tgt := 25) hx hb dX11_endings_53 (by decide) ?_
  exact hk25 v0 h0 v1 v2_3 σ_2 h _ _ _ hW (lv_sub hl [1, 2, 0] rfl)
set_option maxRecDepth 20000 in
set_option maxHeartbeats 4000000 in
theorem bl_X11_endings_b138 (X : Cx G p R s m args c cells slots cX11_endings 5 RX11 10) {r : Int32} {σ' : St} (hret : R_I G p l e R s m args below meth c cells slots Q cX11_endings r σ') {k101 : Nat → Int32 → Int32 → Int32 → Int32 → St → (Option (Int32 × St))}
    (hk101 : ∀ (v0 : Nat) (h0 : kd v0 = 10) (v1 : Int32) (v2 : Int32) (v3 : Int32) (v4 : Int32) (σ : St) (_ : k101 v0 v1 v2 v3 v4 σ = some (r, σ')) (H : Heap) (locs : List Loc) (ls : Array Slot) (_ : GW G σ s H locs) (_ : lv_has ls 5 [(0, .ref (gz G + (v0))), (1, .int (v1)), (2, .int (v2)), (3, .int (v3)), (4, .int (v4))]), W p l e R s m args below meth c H locs cells slots Q (F0 m 101 ls [])) :
    ∀ (v0 : Nat) (h0 : kd v0 = 10) (v1 : Int32) (v2 : Int32) (v3 : Int32) (v4 : Int32) (σ : St) (_ : pf_X11_endings_b138 k101 v0 v1 v2 v3 v4 σ = some (r, σ')) (H : Heap) (locs : List Loc) (ls : Array Slot) (_ : GW G σ s H locs) (_ : lv_has ls 5 [(0, .ref (gz G + (v0))), (1, .int (v1)), (2, .int (v2)), (3, .int (v3)), (4, .int (v4))]), W p l e R s m args below meth c H locs cells slots Q (F0 m 138 ls []) := by
  have hx := X.1.1
  have hb := X.1.2.1
  intro v0 h0 v1 v2 v3 v4 σ h H locs ls hW hl
  unfold pf_X11_endings_b138 at h
  refine w_iinc (v := 1) (lv' := fun y => [(4, .int (y)), (0, .ref (gz G + (v0))), (1, .int (v1)), (2, .int (v2)), (3, .int (v3))]) hx hb dX11_endings_138 hl (k := 4) rfl (by decide) (by decide) (fun _ => rfl) h ?_
  clear h hl; intro v4_1 h ls hl
  refine lv_goto (tgt := 101) hx hb dX11_endings_141 (by decide) ?_
  exact hk101 v0 h0 v1 v2 v3 v4_1 σ h _ _ _ hW (lv_sub hl [1, 2, 3, 4, 0] rfl)
set_option maxRecDepth 20000 in
set_option maxHeartbeats 4000000 in
theorem bl_X11_endings_b144 (X : Cx G p R s m args c cells slots cX11_endings 5 RX11 10) {r : Int32} {σ' : St} (hret : R_I G p l e R s m args below meth c cells slots Q cX11_endings r σ') {k60 : Nat → Int32 → Int32 → Int32 → St → (Option (Int32 × St))}
    (hk60 : ∀ (v0 : Nat) (h0 : kd v0 = 10) (v1 : Int32) (v2 : Int32) (v3 : Int32) (σ : St) (_ : k60 v0 v1 v2 v3 σ = some (r, σ')) (H : Heap) (locs : List Loc) (ls : Array Slot) (_ : GW G σ s H locs) (_ : lv_has ls 5 [(0, .ref (gz G + (v0))), (1, .int (v1)), (2, .int (v2)), (3, .int (v3))]), W p l e R s m args below meth c H locs cells slots Q (F0 m 60 ls [])) :
    ∀ (v0 : Nat) (h0 : kd v0 = 10) (v1 : Int32) (v2 : Int32) (v3 : Int32) (σ : St) (_ : pf_X11_endings_b144 k60 v0 v1 v2 v3 σ = some (r, σ')) (H : Heap) (locs : List Loc) (ls : Array Slot) (_ : GW G σ s H locs) (_ : lv_has ls 5 [(0, .ref (gz G + (v0))), (1, .int (v1)), (2, .int (v2)), (3, .int (v3))]), W p l e R s m args below meth c H locs cells slots Q (F0 m 144 ls []) := by
  have hx := X.1.1
  have hb := X.1.2.1
  intro v0 h0 v1 v2 v3 σ h H locs ls hW hl
  unfold pf_X11_endings_b144 at h
  refine w_iinc (v := 1) (lv' := fun y => [(3, .int (y)), (0, .ref (gz G + (v0))), (1, .int (v1)), (2, .int (v2))]) hx hb dX11_endings_144 hl (k := 3) rfl (by decide) (by decide) (fun _ => rfl) h ?_
  clear h hl; intro v3_1 h ls hl
  refine lv_goto (tgt := 60) hx hb dX11_endings_147 (by decide) ?_
  exact hk60 v0 h0 v1 v2 v3_1 σ h _ _ _ hW (lv_sub hl [1, 2, 3, 0] rfl)
set_option maxRecDepth 20000 in
set_option maxHeartbeats 4000000 in
theorem bl_X11_endings_L101 (X : Cx G p R s m args c cells slots cX11_endings 5 RX11 10) {r : Int32} {σ' : St} (hret : R_I G p l e R s m args below meth c cells slots Q cX11_endings r σ') {k144 : Nat → Int32 → Int32 → Int32 → St → (Option (Int32 × St))}
    (hk144 : ∀ (v0 : Nat) (h0 : kd v0 = 10) (v1 : Int32) (v2 : Int32) (v3 : Int32) (σ : St) (_ : k144 v0 v1 v2 v3 σ = some (r, σ')) (H : Heap) (locs : List Loc) (ls : Array Slot) (_ : GW G σ s H locs) (_ : lv_has ls 5 [(0, .ref (gz G + (v0))), (1, .int (v1)), (2, .int (v2)), (3, .int (v3))]), W p l e R s m args below meth c H locs cells slots Q (F0 m 144 ls [])) :
    ∀ (n : Nat), ∀ (v0 : Nat) (h0 : kd v0 = 10) (v1 : Int32) (v2 : Int32) (v3 : Int32) (v4 : Int32) (σ : St) (_ : pf_X11_endings_L101 k144 n v0 v1 v2 v3 v4 σ = some (r, σ')) (H : Heap) (locs : List Loc) (ls : Array Slot) (_ : GW G σ s H locs) (_ : lv_has ls 5 [(0, .ref (gz G + (v0))), (1, .int (v1)), (2, .int (v2)), (3, .int (v3)), (4, .int (v4))]), W p l e R s m args below meth c H locs cells slots Q (F0 m 101 ls []) := by
  have hx := X.1.1
  have hb := X.1.2.1
  intro n
  induction n with
  | zero => intro v0 h0 v1 v2 v3 v4 σ h H locs ls hW hl; cases h
  | succ n ih =>
    intro v0 h0 v1 v2 v3 v4 σ h H locs ls hW hl
    rw [pf_X11_endings_L101.eq_2] at h
    refine lv_iload hx hb dX11_endings_101 (lv_at hl 4 rfl) ?_
    refine lv_aload_n hx hb dX11_endings_103 rfl (lv_at hl 0 rfl) ?_
    refine lv_iload_n hx hb dX11_endings_104 rfl (lv_at hl 1 rfl) ?_
    obtain ⟨r_1, hcl, h⟩ := bind_el h
    refine call_V1 X hW (kC_X11 h0) m_7_38 m_7_40 m_0_72 mv_X11_stepsOf (c_X11_stepsOf h0 hcl) (by decide) rfl rfl (Nat.le_of_ble_eq_true rfl) hl.1 dX11_endings_105 ?_
    clear hW hcl; intro H locs hW
    refine lv_icmp_ge (tgt := 144) hx hb dX11_endings_108 (by decide) (fun hc => ?_) (fun hc => ?_)
    · replace h := if_t hc h
      exact hk144 v0 h0 v1 v2 v3 σ h _ _ _ hW (lv_sub hl [0, 1, 2, 3] rfl)
    · replace h := if_f hc h
      refine lv_aload_n hx hb dX11_endings_111 rfl (lv_at hl 0 rfl) ?_
      refine lv_iload_n hx hb dX11_endings_112 rfl (lv_at hl 1 rfl) ?_
      refine lv_iload hx hb dX11_endings_113 (lv_at hl 4 rfl) ?_
      refine lv_iload_n hx hb dX11_endings_115 rfl (lv_at hl 3 rfl) ?_
      refine lv_aload_n hx hb dX11_endings_116 rfl (lv_at hl 0 rfl) ?_
      refine gf_X11_begun X hW h0 m_6_15 dX11_endings_117 ?_
      obtain ⟨r_2, hcl, h⟩ := bind_el h
      refine call_V1 X hW (kC_X11 h0) m_7_79 m_7_81 m_0_81 mv_X11_can (c_X11_can h0 hcl) (by decide) rfl rfl (Nat.le_of_ble_eq_true rfl) hl.1 dX11_endings_120 ?_
      clear hW hcl; intro H locs hW
      refine lv_if_eq (tgt := 138) hx hb dX11_endings_123 (by decide) (fun hc => ?_) (fun hc => ?_)
      · replace h := if_t hc h
        exact bl_X11_endings_b138 X hret ih v0 h0 v1 v2 v3 v4 σ h _ _ _ hW (lv_sub hl [0, 1, 2, 3, 4] rfl)
      · replace h := if_f hc h
        refine lv_aload_n hx hb dX11_endings_126 rfl (lv_at hl 0 rfl) ?_
        refine gf_X11_reached X hW h0 m_6_32 dX11_endings_127 ?_
        refine lv_iload_n hx hb dX11_endings_130 rfl (lv_at hl 3 rfl) ?_
        refine lv_iconst (v := 1) hx hb dX11_endings_131 (by decide) ?_
        refine lv_iload hx hb dX11_endings_132 (lv_at hl 4 rfl) ?_
        refine w_ishl hx hb dX11_endings_134 ?_
        refine lv_ior hx hb dX11_endings_135 ?_
        refine lv_iconst (v := 1) hx hb dX11_endings_136 (by decide) ?_
        obtain ⟨hi3, h⟩ := ckI_el h
        refine r_zast X hW (by decide) (kf_X11_reached h0) hi3 dX11_endings_137 ?_
        clear hW; intro H locs hW
        refine nm_s hW h ?_
        clear hW h; intro σ_4 hW h
        exact bl_X11_endings_b138 X hret ih v0 h0 v1 v2 v3 v4 σ_4 h _ _ _ hW (lv_sub hl [0, 1, 2, 3, 4] rfl)
set_option maxRecDepth 20000 in
set_option maxHeartbeats 4000000 in
theorem bl_X11_endings_L60 (X : Cx G p R s m args c cells slots cX11_endings 5 RX11 10) {r : Int32} {σ' : St} (hret : R_I G p l e R s m args below meth c cells slots Q cX11_endings r σ') :
    ∀ (n : Nat), ∀ (v0 : Nat) (h0 : kd v0 = 10) (v1 : Int32) (v2 : Int32) (v3 : Int32) (σ : St) (_ : pf_X11_endings_L60 n v0 v1 v2 v3 σ = some (r, σ')) (H : Heap) (locs : List Loc) (ls : Array Slot) (_ : GW G σ s H locs) (_ : lv_has ls 5 [(0, .ref (gz G + (v0))), (1, .int (v1)), (2, .int (v2)), (3, .int (v3))]), W p l e R s m args below meth c H locs cells slots Q (F0 m 60 ls []) := by
  have hx := X.1.1
  have hb := X.1.2.1
  intro n
  induction n with
  | zero => intro v0 h0 v1 v2 v3 σ h H locs ls hW hl; cases h
  | succ n ih =>
    intro v0 h0 v1 v2 v3 σ h H locs ls hW hl
    rw [pf_X11_endings_L60.eq_2] at h
    refine lv_iload_n hx hb dX11_endings_60 rfl (lv_at hl 3 rfl) ?_
    refine lv_iconst (v := 1) hx hb dX11_endings_61 (by decide) ?_
    refine lv_aload_n hx hb dX11_endings_62 rfl (lv_at hl 0 rfl) ?_
    refine lv_iload_n hx hb dX11_endings_63 rfl (lv_at hl 1 rfl) ?_
    obtain ⟨r_1, hcl, h⟩ := bind_el h
    refine call_V1 X hW (kC_X11 h0) m_7_38 m_7_40 m_0_72 mv_X11_stepsOf (c_X11_stepsOf h0 hcl) (by decide) rfl rfl (Nat.le_of_ble_eq_true rfl) hl.1 dX11_endings_64 ?_
    clear hW hcl; intro H locs hW
    refine w_ishl hx hb dX11_endings_67 ?_
    refine lv_icmp_ge (tgt := 150) hx hb dX11_endings_68 (by decide) (fun hc => ?_) (fun hc => ?_)
    · replace h := if_t hc h
      refine lv_iload_n hx hb dX11_endings_150 rfl (lv_at hl 2 rfl) ?_
      exact ri_end hret h dX11_endings_151 hW
    · replace h := if_f hc h
      refine lv_aload_n hx hb dX11_endings_71 rfl (lv_at hl 0 rfl) ?_
      refine gf_X11_reached X hW h0 m_6_32 dX11_endings_72 ?_
      refine lv_iload_n hx hb dX11_endings_75 rfl (lv_at hl 3 rfl) ?_
      obtain ⟨hi2, h⟩ := ckI_el h
      refine r_zald X hW (kf_X11_reached h0) hi2 dX11_endings_76 ?_
      refine lv_if_ne (tgt := 83) hx hb dX11_endings_77 (by decide) (fun hc => ?_) (fun hc => ?_)
      · replace h := if_f hc h
        refine lv_aload_n hx hb dX11_endings_83 rfl (lv_at hl 0 rfl) ?_
        refine lv_iload_n hx hb dX11_endings_84 rfl (lv_at hl 1 rfl) ?_
        refine lv_iload_n hx hb dX11_endings_85 rfl (lv_at hl 3 rfl) ?_
        obtain ⟨r_3, σ_3, hcl, h⟩ := bnd2_el h
        refine call_V1 X hW (kC_X11 h0) m_7_75 m_7_77 m_0_80 mv_X11_holdsBy (c_X11_holdsBy h0 hcl) (by decide) rfl rfl (Nat.le_of_ble_eq_true rfl) hl.1 dX11_endings_86 ?_
        clear hW hcl; intro H locs hW
        refine lv_if_eq (tgt := 98) hx hb dX11_endings_89 (by decide) (fun hc => ?_) (fun hc => ?_)
        · replace h := if_t hc h
          refine lv_iconst (v := 0) hx hb dX11_endings_98 (by decide) ?_
          refine lv_istore (lv' := [(4, .int (0)), (0, .ref (gz G + (v0))), (1, .int (v1)), (2, .int (v2)), (3, .int (v3))]) hx hb dX11_endings_99 hl (by decide) rfl ?_
          clear hl; intro ls hl
          exact bl_X11_endings_L101 X hret (bl_X11_endings_b144 X hret ih) FU v0 h0 v1 v2 v3 0 σ_3 h _ _ _ hW (lv_sub hl [1, 2, 3, 4, 0] rfl)
        · replace h := if_f hc h
          refine w_iinc (v := 1) (lv' := fun y => [(2, .int (y)), (0, .ref (gz G + (v0))), (1, .int (v1)), (3, .int (v3))]) hx hb dX11_endings_92 hl (k := 2) rfl (by decide) (by decide) (fun _ => rfl) h ?_
          clear h hl; intro v2_4 h ls hl
          refine lv_goto (tgt := 144) hx hb dX11_endings_95 (by decide) ?_
          exact bl_X11_endings_b144 X hret ih v0 h0 v1 v2_4 v3 σ_3 h _ _ _ hW (lv_sub hl [1, 2, 0, 3] rfl)
      · replace h := if_t hc h
        refine lv_goto (tgt := 144) hx hb dX11_endings_80 (by decide) ?_
        exact bl_X11_endings_b144 X hret ih v0 h0 v1 v2 v3 σ h _ _ _ hW (lv_sub hl [0, 1, 2, 3] rfl)
set_option maxRecDepth 20000 in
set_option maxHeartbeats 4000000 in
theorem bl_X11_endings_b56 (X : Cx G p R s m args c cells slots cX11_endings 5 RX11 10) {r : Int32} {σ' : St} (hret : R_I G p l e R s m args below meth c cells slots Q cX11_endings r σ') :
    ∀ (v0 : Nat) (h0 : kd v0 = 10) (v1 : Int32) (σ : St) (_ : pf_X11_endings_b56 v0 v1 σ = some (r, σ')) (H : Heap) (locs : List Loc) (ls : Array Slot) (_ : GW G σ s H locs) (_ : lv_has ls 5 [(0, .ref (gz G + (v0))), (1, .int (v1))]), W p l e R s m args below meth c H locs cells slots Q (F0 m 56 ls []) := by
  have hx := X.1.1
  have hb := X.1.2.1
  intro v0 h0 v1 σ h H locs ls hW hl
  unfold pf_X11_endings_b56 at h
  refine lv_iconst (v := 0) hx hb dX11_endings_56 (by decide) ?_
  refine lv_istore_n (lv' := [(2, .int (0)), (0, .ref (gz G + (v0))), (1, .int (v1))]) hx hb dX11_endings_57 rfl hl (by decide) rfl ?_
  clear hl; intro ls hl
  refine lv_iconst (v := 0) hx hb dX11_endings_58 (by decide) ?_
  refine lv_istore_n (lv' := [(3, .int (0)), (2, .int (0)), (0, .ref (gz G + (v0))), (1, .int (v1))]) hx hb dX11_endings_59 rfl hl (by decide) rfl ?_
  clear hl; intro ls hl
  exact bl_X11_endings_L60 X hret FU v0 h0 v1 0 0 σ h _ _ _ hW (lv_sub hl [2, 3, 1, 0] rfl)
set_option maxRecDepth 20000 in
set_option maxHeartbeats 4000000 in
theorem bl_X11_endings_L25 (X : Cx G p R s m args c cells slots cX11_endings 5 RX11 10) {r : Int32} {σ' : St} (hret : R_I G p l e R s m args below meth c cells slots Q cX11_endings r σ') {k56 : Nat → Int32 → St → (Option (Int32 × St))}
    (hk56 : ∀ (v0 : Nat) (h0 : kd v0 = 10) (v1 : Int32) (σ : St) (_ : k56 v0 v1 σ = some (r, σ')) (H : Heap) (locs : List Loc) (ls : Array Slot) (_ : GW G σ s H locs) (_ : lv_has ls 5 [(0, .ref (gz G + (v0))), (1, .int (v1))]), W p l e R s m args below meth c H locs cells slots Q (F0 m 56 ls [])) :
    ∀ (n : Nat), ∀ (v0 : Nat) (h0 : kd v0 = 10) (v1 : Int32) (v2 : Int32) (σ : St) (_ : pf_X11_endings_L25 k56 n v0 v1 v2 σ = some (r, σ')) (H : Heap) (locs : List Loc) (ls : Array Slot) (_ : GW G σ s H locs) (_ : lv_has ls 5 [(0, .ref (gz G + (v0))), (1, .int (v1)), (2, .int (v2))]), W p l e R s m args below meth c H locs cells slots Q (F0 m 25 ls []) := by
  have hx := X.1.1
  have hb := X.1.2.1
  intro n
  induction n with
  | zero => intro v0 h0 v1 v2 σ h H locs ls hW hl; cases h
  | succ n ih =>
    intro v0 h0 v1 v2 σ h H locs ls hW hl
    rw [pf_X11_endings_L25.eq_2] at h
    refine lv_iload_n hx hb dX11_endings_25 rfl (lv_at hl 2 rfl) ?_
    refine lv_bipush (v := 64) hx hb dX11_endings_26 (by decide) ?_
    refine lv_icmp_ge (tgt := 56) hx hb dX11_endings_28 (by decide) (fun hc => ?_) (fun hc => ?_)
    · replace h := if_t hc h
      exact hk56 v0 h0 v1 σ h _ _ _ hW (lv_sub hl [0, 1] rfl)
    · replace h := if_f hc h
      refine lv_aload_n hx hb dX11_endings_31 rfl (lv_at hl 0 rfl) ?_
      refine gf_X11_reached X hW h0 m_6_32 dX11_endings_32 ?_
      refine lv_iload_n hx hb dX11_endings_35 rfl (lv_at hl 2 rfl) ?_
      refine lv_iload_n hx hb dX11_endings_36 rfl (lv_at hl 2 rfl) ?_
      refine lv_aload_n hx hb dX11_endings_37 rfl (lv_at hl 0 rfl) ?_
      refine gf_X11_begun X hW h0 m_6_15 dX11_endings_38 ?_
      refine lv_icmp_ne (tgt := 48) hx hb dX11_endings_41 (by decide) (fun hc => ?_) (fun hc => ?_)
      · replace h := if_f hc h
        refine lv_iconst (v := 0) hx hb dX11_endings_48 (by decide) ?_
        exact bl_X11_endings_b49 X hret ih v0 h0 v1 v2 (v0 + 10) (kf_X11_reached h0) v2 0 σ h _ _ _ hW (lv_sub hl [0, 1, 2] rfl)
      · replace h := if_t hc h
        refine lv_iconst (v := 1) hx hb dX11_endings_44 (by decide) ?_
        refine lv_goto (tgt := 49) hx hb dX11_endings_45 (by decide) ?_
        exact bl_X11_endings_b49 X hret ih v0 h0 v1 v2 (v0 + 10) (kf_X11_reached h0) v2 1 σ h _ _ _ hW (lv_sub hl [0, 1, 2] rfl)
set_option maxRecDepth 20000 in
set_option maxHeartbeats 4000000 in
theorem c_X11_endings {G : Gt} {l : Launch} {v0 : Nat} (h0 : kd v0 = 10) {v1 : Int32} {σ : St} {r : Int32} {σ' : St} (hf : pf_X11_endings v0 v1 σ = some (r, σ')) : Ct G l yX11_endings cX11_endings 5 (some .int) 10 [.ref (gz G + (v0)), .int (v1)] σ (some (.int r)) σ' := by
  refine met_i (by decide +kernel) (Nat.le_of_ble_eq_true rfl) rfl ?_
  intro p e s m args below meth c Q ls X hW hret hl
  have hx := X.1.1
  have hb := X.1.2.1
  have hl : lv_has ls 5 [(0, .ref (gz G + (v0))), (1, .int (v1))] := hl
  have h := hf
  clear hf
  unfold pf_X11_endings at h
  refine lv_aload_n hx hb dX11_endings_0 rfl (lv_at hl 0 rfl) ?_
  refine lv_iconst (v := 0) hx hb dX11_endings_1 (by decide) ?_
  refine sf_X11_thrown X hW h0 m_6_6 dX11_endings_2 ?_
  clear hW; intro H locs hW
  refine nm_s hW h ?_
  clear hW h; intro σ_1 hW h
  refine lv_aload_n hx hb dX11_endings_5 rfl (lv_at hl 0 rfl) ?_
  refine lv_iload_n hx hb dX11_endings_6 rfl (lv_at hl 1 rfl) ?_
  obtain ⟨r_2, σ_2, hcl, h⟩ := bnd2_el h
  refine call_V1 X hW (kC_X11 h0) m_7_112 m_7_114 m_0_87 mv_X11_isQuest (c_X11_isQuest h0 hcl) (by decide) rfl rfl (Nat.le_of_ble_eq_true rfl) hl.1 dX11_endings_7 ?_
  clear hW hcl; intro H locs hW
  refine lv_if_eq (tgt := 21) hx hb dX11_endings_10 (by decide) (fun hc => ?_) (fun hc => ?_)
  · replace h := if_t hc h
    refine lv_iconst (v := 0) hx hb dX11_endings_21 (by decide) ?_
    exact ri_end hret h dX11_endings_22 hW
  · replace h := if_f hc h
    refine lv_aload_n hx hb dX11_endings_13 rfl (lv_at hl 0 rfl) ?_
    refine lv_iload_n hx hb dX11_endings_14 rfl (lv_at hl 1 rfl) ?_
    obtain ⟨r_3, σ_3, hcl, h⟩ := bnd2_el h
    refine call_V1 X hW (kC_X11 h0) m_7_62 m_7_64 m_0_77 mv_X11_isPossible (c_X11_isPossible h0 hcl) (by decide) rfl rfl (Nat.le_of_ble_eq_true rfl) hl.1 dX11_endings_15 ?_
    clear hW hcl; intro H locs hW
    refine lv_if_ne (tgt := 23) hx hb dX11_endings_18 (by decide) (fun hc => ?_) (fun hc => ?_)
    · replace h := if_f hc h
      refine lv_iconst (v := 0) hx hb dX11_endings_23 (by decide) ?_
      refine lv_istore_n (lv' := [(2, .int (0)), (0, .ref (gz G + (v0))), (1, .int (v1))]) hx hb dX11_endings_24 rfl hl (by decide) rfl ?_
      clear hl; intro ls hl
      exact bl_X11_endings_L25 X hret (bl_X11_endings_b56 X hret) FU v0 h0 v1 0 σ_3 h _ _ _ hW (lv_sub hl [1, 2, 0] rfl)
    · replace h := if_t hc h
      refine lv_iconst (v := 0) hx hb dX11_endings_21 (by decide) ?_
      exact ri_end hret h dX11_endings_22 hW
set_option maxRecDepth 20000 in
set_option maxHeartbeats 4000000 in
theorem bl_X11_lacking_L25 (X : Cx G p R s m args c cells slots cX11_lacking 4 RX11 9) {r : Int32} {σ' : St} (hret : R_I G p l e R s m args below meth c cells slots Q cX11_lacking r σ') :
    ∀ (n : Nat), ∀ (v0 : Nat) (h0 : kd v0 = 10) (v1 : Int32) (v2 : Int32) (v3 : Int32) (σ : St) (_ : pf_X11_lacking_L25 n v0 v1 v2 v3 σ = some (r, σ')) (H : Heap) (locs : List Loc) (ls : Array Slot) (_ : GW G σ s H locs) (_ : lv_has ls 4 [(0, .ref (gz G + (v0))), (1, .int (v1)), (2, .int (v2)), (3, .int (v3))]), W p l e R s m args below meth c H locs cells slots Q (F0 m 25 ls []) := by
  have hx := X.1.1
  have hb := X.1.2.1
  intro n
  induction n with
  | zero => intro v0 h0 v1 v2 v3 σ h H locs ls hW hl; cases h
  | succ n ih =>
    intro v0 h0 v1 v2 v3 σ h H locs ls hW hl
    rw [pf_X11_lacking_L25.eq_2] at h
    refine lv_iload_n hx hb dX11_lacking_25 rfl (lv_at hl 3 rfl) ?_
    refine lv_bipush (v := 99) hx hb dX11_lacking_26 (by decide) ?_
    refine lv_icmp_gt (tgt := 61) hx hb dX11_lacking_28 (by decide) (fun hc => ?_) (fun hc => ?_)
    · replace h := if_t hc h
      refine lv_iconst (v := (-1)) hx hb dX11_lacking_61 (by decide) ?_
      exact ri_end hret h dX11_lacking_62 hW
    · replace h := if_f hc h
      refine lv_aload_n hx hb dX11_lacking_31 rfl (lv_at hl 0 rfl) ?_
      obtain ⟨σ_1, hcl, h⟩ := bind_el h
      refine call_V0 X hW (kC_X11 h0) m_7_66 m_7_68 m_0_78 mv_X11_asItIs (c_X11_asItIs h0 hcl) (by decide) rfl rfl (Nat.le_of_ble_eq_true rfl) hl.1 dX11_lacking_32 ?_
      clear hW hcl; intro H locs hW
      refine lv_aload_n hx hb dX11_lacking_35 rfl (lv_at hl 0 rfl) ?_
      refine gf_X11_by X hW h0 m_6_12 dX11_lacking_36 ?_
      refine lv_iload_n hx hb dX11_lacking_39 rfl (lv_at hl 2 rfl) ?_
      refine lv_dup2_11 hx hb dX11_lacking_40 rfl rfl ?_
      obtain ⟨hi2, h⟩ := ckI_el h
      refine r_iald X hW (kf_X11_by h0) hi2 dX11_lacking_41 ?_
      refine lv_iload_n hx hb dX11_lacking_42 rfl (lv_at hl 3 rfl) ?_
      refine lv_iadd hx hb dX11_lacking_43 ?_
      obtain ⟨hi3, h⟩ := ckI_el h
      refine r_iast X hW (kf_X11_by h0) hi3 dX11_lacking_44 ?_
      clear hW; intro H locs hW
      refine nm_s hW h ?_
      clear hW h; intro σ_4 hW h
      refine lv_aload_n hx hb dX11_lacking_45 rfl (lv_at hl 0 rfl) ?_
      refine lv_iload_n hx hb dX11_lacking_46 rfl (lv_at hl 1 rfl) ?_
      obtain ⟨r_5, σ_5, hcl, h⟩ := bnd2_el h
      refine call_V1 X hW (kC_X11 h0) m_7_70 m_7_72 m_0_79 mv_X11_ways (c_X11_ways h0 hcl) (by decide) rfl rfl (Nat.le_of_ble_eq_true rfl) hl.1 dX11_lacking_47 ?_
      clear hW hcl; intro H locs hW
      refine lv_if_eq (tgt := 55) hx hb dX11_lacking_50 (by decide) (fun hc => ?_) (fun hc => ?_)
      · replace h := if_t hc h
        refine w_iinc (v := 1) (lv' := fun y => [(3, .int (y)), (0, .ref (gz G + (v0))), (1, .int (v1)), (2, .int (v2))]) hx hb dX11_lacking_55 hl (k := 3) rfl (by decide) (by decide) (fun _ => rfl) h ?_
        clear h hl; intro v3_6 h ls hl
        refine lv_goto (tgt := 25) hx hb dX11_lacking_58 (by decide) ?_
        exact ih v0 h0 v1 v2 v3_6 σ_5 h _ _ _ hW (lv_sub hl [1, 2, 3, 0] rfl)
      · replace h := if_f hc h
        refine lv_iload_n hx hb dX11_lacking_53 rfl (lv_at hl 3 rfl) ?_
        exact ri_end hret h dX11_lacking_54 hW
set_option maxRecDepth 20000 in
set_option maxHeartbeats 4000000 in
theorem c_X11_lacking {G : Gt} {l : Launch} {v0 : Nat} (h0 : kd v0 = 10) {v1 : Int32} {v2 : Int32} {σ : St} {r : Int32} {σ' : St} (hf : pf_X11_lacking v0 v1 v2 σ = some (r, σ')) : Ct G l yX11_lacking cX11_lacking 4 (some .int) 9 [.ref (gz G + (v0)), .int (v1), .int (v2)] σ (some (.int r)) σ' := by
  refine met_i (by decide +kernel) (Nat.le_of_ble_eq_true rfl) rfl ?_
  intro p e s m args below meth c Q ls X hW hret hl
  have hx := X.1.1
  have hb := X.1.2.1
  have hl : lv_has ls 4 [(0, .ref (gz G + (v0))), (1, .int (v1)), (2, .int (v2))] := hl
  have h := hf
  clear hf
  unfold pf_X11_lacking at h
  refine lv_aload_n hx hb dX11_lacking_0 rfl (lv_at hl 0 rfl) ?_
  refine lv_iconst (v := 0) hx hb dX11_lacking_1 (by decide) ?_
  refine sf_X11_thrown X hW h0 m_6_6 dX11_lacking_2 ?_
  clear hW; intro H locs hW
  refine nm_s hW h ?_
  clear hW h; intro σ_1 hW h
  refine lv_aload_n hx hb dX11_lacking_5 rfl (lv_at hl 0 rfl) ?_
  refine lv_iload_n hx hb dX11_lacking_6 rfl (lv_at hl 1 rfl) ?_
  obtain ⟨r_2, σ_2, hcl, h⟩ := bnd2_el h
  refine call_V1 X hW (kC_X11 h0) m_7_112 m_7_114 m_0_87 mv_X11_isQuest (c_X11_isQuest h0 hcl) (by decide) rfl rfl (Nat.le_of_ble_eq_true rfl) hl.1 dX11_lacking_7 ?_
  clear hW hcl; intro H locs hW
  refine lv_if_eq (tgt := 21) hx hb dX11_lacking_10 (by decide) (fun hc => ?_) (fun hc => ?_)
  · replace h := if_t hc h
    refine lv_iconst (v := 0) hx hb dX11_lacking_21 (by decide) ?_
    exact ri_end hret h dX11_lacking_22 hW
  · replace h := if_f hc h
    refine lv_aload_n hx hb dX11_lacking_13 rfl (lv_at hl 0 rfl) ?_
    refine lv_iload_n hx hb dX11_lacking_14 rfl (lv_at hl 2 rfl) ?_
    obtain ⟨r_3, σ_3, hcl, h⟩ := bnd2_el h
    refine call_V1 X hW (kC_X11 h0) m_7_104 m_7_106 m_0_86 mv_X11_isItem (c_X11_isItem h0 hcl) (by decide) rfl rfl (Nat.le_of_ble_eq_true rfl) hl.1 dX11_lacking_15 ?_
    clear hW hcl; intro H locs hW
    refine lv_if_ne (tgt := 23) hx hb dX11_lacking_18 (by decide) (fun hc => ?_) (fun hc => ?_)
    · replace h := if_f hc h
      refine lv_iconst (v := 0) hx hb dX11_lacking_23 (by decide) ?_
      refine lv_istore_n (lv' := [(3, .int (0)), (0, .ref (gz G + (v0))), (1, .int (v1)), (2, .int (v2))]) hx hb dX11_lacking_24 rfl hl (by decide) rfl ?_
      clear hl; intro ls hl
      exact bl_X11_lacking_L25 X hret FU v0 h0 v1 v2 0 σ_3 h _ _ _ hW (lv_sub hl [1, 2, 3, 0] rfl)
    · replace h := if_t hc h
      refine lv_iconst (v := 0) hx hb dX11_lacking_21 (by decide) ?_
      exact ri_end hret h dX11_lacking_22 hW
end
