section
variable {G : Gt} {p : Program} {l : Launch} {e : Env} {R : Room} {s : State} {m : MethodId} {args : Array Value} {below : List Frame} {meth : Method} {c : Code} {cells slots : Nat} {Q : State → Prop}
set_option maxRecDepth 20000 in
set_option maxHeartbeats 4000000 in
theorem bl_X4_read_b158 (X : Cx G p R s m args c cells slots cX4_read 6 RX4 30) {r : Int32} {σ' : St} (hret : R_I G p l e R s m args below meth c cells slots Q cX4_read r σ') {k37 : Nat → Nat → Int32 → St → (Option (Int32 × St))}
    (hk37 : ∀ (v0 : Nat) (h0 : kd v0 = 4) (v3 : Nat) (h3 : kd v3 = 2) (v4 : Int32) (σ : St) (_ : k37 v0 v3 v4 σ = some (r, σ')) (H : Heap) (locs : List Loc) (ls : Array Slot) (_ : GW G σ s H locs) (_ : lv_has ls 6 [(0, .ref (gz G + (v0))), (3, .ref (gz G + (v3))), (4, .int (v4))]), W p l e R s m args below meth c H locs cells slots Q (F0 m 37 ls [])) :
    ∀ (v0 : Nat) (h0 : kd v0 = 4) (v3 : Nat) (h3 : kd v3 = 2) (v4 : Int32) (σ : St) (_ : pf_X4_read_b158 k37 v0 v3 v4 σ = some (r, σ')) (H : Heap) (locs : List Loc) (ls : Array Slot) (_ : GW G σ s H locs) (_ : lv_has ls 6 [(0, .ref (gz G + (v0))), (3, .ref (gz G + (v3))), (4, .int (v4))]), W p l e R s m args below meth c H locs cells slots Q (F0 m 158 ls []) := by
  have hx := X.1.1
  have hb := X.1.2.1
  intro v0 h0 v3 h3 v4 σ h H locs ls hW hl
  unfold pf_X4_read_b158 at h
  refine w_iinc (v := 1) (lv' := fun y => [(4, .int (y)), (0, .ref (gz G + (v0))), (3, .ref (gz G + (v3)))]) hx hb dX4_read_158 hl (k := 2) rfl (by decide) (by decide) (fun _ => rfl) h ?_
  clear h hl; intro v4_1 h ls hl
  refine lv_goto (tgt := 37) hx hb dX4_read_161 (by decide) ?_
  exact hk37 v0 h0 v3 h3 v4_1 σ h _ _ _ hW (lv_sub hl [1, 2, 0] rfl)
set_option maxRecDepth 20000 in
set_option maxHeartbeats 4000000 in
theorem bl_X4_read_b126 (X : Cx G p R s m args c cells slots cX4_read 6 RX4 30) {r : Int32} {σ' : St} (hret : R_I G p l e R s m args below meth c cells slots Q cX4_read r σ') {k37 : Nat → Nat → Int32 → St → (Option (Int32 × St))}
    (hk37 : ∀ (v0 : Nat) (h0 : kd v0 = 4) (v3 : Nat) (h3 : kd v3 = 2) (v4 : Int32) (σ : St) (_ : k37 v0 v3 v4 σ = some (r, σ')) (H : Heap) (locs : List Loc) (ls : Array Slot) (_ : GW G σ s H locs) (_ : lv_has ls 6 [(0, .ref (gz G + (v0))), (3, .ref (gz G + (v3))), (4, .int (v4))]), W p l e R s m args below meth c H locs cells slots Q (F0 m 37 ls [])) :
    ∀ (v0 : Nat) (h0 : kd v0 = 4) (v3 : Nat) (h3 : kd v3 = 2) (v4 : Int32) (v5 : Option Nat) (σ : St) (_ : pf_X4_read_b126 k37 v0 v3 v4 v5 σ = some (r, σ')) (H : Heap) (locs : List Loc) (ls : Array Slot) (_ : GW G σ s H locs) (_ : lv_has ls 6 [(0, .ref (gz G + (v0))), (3, .ref (gz G + (v3))), (4, .int (v4)), (5, va_re (gad G) (v5))]), W p l e R s m args below meth c H locs cells slots Q (F0 m 126 ls []) := by
  have hx := X.1.1
  have hb := X.1.2.1
  intro v0 h0 v3 h3 v4 v5 σ h H locs ls hW hl
  unfold pf_X4_read_b126 at h
  refine lv_aloadT hx hb dX4_read_126 (lv_at hl 3 rfl) ?_
  refine r_gtok (k := 8) X hW (by decide) m_6_96 dX4_read_128 ?_
  refine r_acmp_ne (a := v5) (b := some 8) (tgt := 142) X hx hb dX4_read_131 (by decide) (fun hc => ?_) (fun hc => ?_)
  · replace h := if_f hc h
    refine lv_aload_n hx hb dX4_read_142 rfl (lv_at hl 0 rfl) ?_
    refine gf_X4_tokens X hW h0 m_2_12 dX4_read_143 ?_
    refine lv_bipush (v := (-2)) hx hb dX4_read_146 (by decide) ?_
    refine lv_aload_n hx hb dX4_read_148 rfl (lv_at hl 0 rfl) ?_
    refine gf_X4_tokens X hW h0 m_2_12 dX4_read_149 ?_
    obtain ⟨r_2, hcl, h⟩ := bind_el h
    refine call_V1 X hW (kC_X6 (kf_X4_tokens h0)) m_6_38 m_6_13 m_6_14 mv_X6_start (c_X6_start (kf_X4_tokens h0) hcl) (by decide) rfl rfl (Nat.le_of_ble_eq_true rfl) hl.1 dX4_read_152 ?_
    clear hW hcl; intro H locs hW
    obtain ⟨σ_3, hcl, h⟩ := bind_el h
    refine call_V0 X hW (kC_X6 (kf_X4_tokens h0)) m_6_43 m_6_17 m_6_18 mv_X6_fail (c_X6_fail (kf_X4_tokens h0) hcl) (by decide) rfl rfl (Nat.le_of_ble_eq_true rfl) hl.1 dX4_read_155 ?_
    clear hW hcl; intro H locs hW
    exact bl_X4_read_b158 X hret hk37 v0 h0 v3 h3 v4 σ_3 h _ _ _ hW (lv_sub hl [0, 1, 2] rfl)
  · replace h := if_t hc h
    refine lv_aload_n hx hb dX4_read_134 rfl (lv_at hl 0 rfl) ?_
    refine lv_aload_n hx hb dX4_read_135 rfl (lv_at hl 1 rfl) ?_
    obtain ⟨σ_1, hcl, h⟩ := bind_el h
    refine call_V0 X hW (kC_X4 h0) m_6_98 m_6_100 m_0_24 mv_X4_readQuest (c_X4_readQuest h0 h3 hcl) (by decide) rfl rfl (Nat.le_of_ble_eq_true rfl) hl.1 dX4_read_136 ?_
    clear hW hcl; intro H locs hW
    refine lv_goto (tgt := 158) hx hb dX4_read_139 (by decide) ?_
    exact bl_X4_read_b158 X hret hk37 v0 h0 v3 h3 v4 σ_1 h _ _ _ hW (lv_sub hl [0, 1, 2] rfl)
set_option maxRecDepth 20000 in
set_option maxHeartbeats 4000000 in
theorem bl_X4_read_b103 (X : Cx G p R s m args c cells slots cX4_read 6 RX4 30) {r : Int32} {σ' : St} (hret : R_I G p l e R s m args below meth c cells slots Q cX4_read r σ') {k37 : Nat → Nat → Int32 → St → (Option (Int32 × St))}
    (hk37 : ∀ (v0 : Nat) (h0 : kd v0 = 4) (v3 : Nat) (h3 : kd v3 = 2) (v4 : Int32) (σ : St) (_ : k37 v0 v3 v4 σ = some (r, σ')) (H : Heap) (locs : List Loc) (ls : Array Slot) (_ : GW G σ s H locs) (_ : lv_has ls 6 [(0, .ref (gz G + (v0))), (3, .ref (gz G + (v3))), (4, .int (v4))]), W p l e R s m args below meth c H locs cells slots Q (F0 m 37 ls [])) :
    ∀ (v0 : Nat) (h0 : kd v0 = 4) (v3 : Nat) (h3 : kd v3 = 2) (v4 : Int32) (v5 : Option Nat) (σ : St) (_ : pf_X4_read_b103 k37 v0 v3 v4 v5 σ = some (r, σ')) (H : Heap) (locs : List Loc) (ls : Array Slot) (_ : GW G σ s H locs) (_ : lv_has ls 6 [(0, .ref (gz G + (v0))), (3, .ref (gz G + (v3))), (4, .int (v4)), (5, va_re (gad G) (v5))]), W p l e R s m args below meth c H locs cells slots Q (F0 m 103 ls []) := by
  have hx := X.1.1
  have hb := X.1.2.1
  intro v0 h0 v3 h3 v4 v5 σ h H locs ls hW hl
  unfold pf_X4_read_b103 at h
  refine lv_aloadT hx hb dX4_read_103 (lv_at hl 3 rfl) ?_
  refine r_gtok (k := 7) X hW (by decide) m_6_51 dX4_read_105 ?_
  refine r_acmp_ne (a := v5) (b := some 7) (tgt := 126) X hx hb dX4_read_108 (by decide) (fun hc => ?_) (fun hc => ?_)
  · replace h := if_f hc h
    exact bl_X4_read_b126 X hret hk37 v0 h0 v3 h3 v4 v5 σ h _ _ _ hW (lv_sub hl [0, 1, 2, 3] rfl)
  · replace h := if_t hc h
    refine lv_aload_n hx hb dX4_read_111 rfl (lv_at hl 0 rfl) ?_
    refine gf_X4_worthTold X hW h0 m_2_17 dX4_read_112 ?_
    refine lv_if_ne (tgt := 126) hx hb dX4_read_115 (by decide) (fun hc => ?_) (fun hc => ?_)
    · replace h := if_f hc h
      exact bl_X4_read_b126 X hret hk37 v0 h0 v3 h3 v4 v5 σ h _ _ _ hW (lv_sub hl [0, 1, 2, 3] rfl)
    · replace h := if_t hc h
      refine lv_aload_n hx hb dX4_read_118 rfl (lv_at hl 0 rfl) ?_
      refine lv_aload_n hx hb dX4_read_119 rfl (lv_at hl 1 rfl) ?_
      obtain ⟨σ_1, hcl, h⟩ := bind_el h
      refine call_V0 X hW (kC_X4 h0) m_6_53 m_6_55 m_0_20 mv_X4_readWorth (c_X4_readWorth h0 h3 hcl) (by decide) rfl rfl (Nat.le_of_ble_eq_true rfl) hl.1 dX4_read_120 ?_
      clear hW hcl; intro H locs hW
      refine lv_goto (tgt := 158) hx hb dX4_read_123 (by decide) ?_
      exact bl_X4_read_b158 X hret hk37 v0 h0 v3 h3 v4 σ_1 h _ _ _ hW (lv_sub hl [0, 1, 2] rfl)
set_option maxRecDepth 20000 in
set_option maxHeartbeats 4000000 in
theorem bl_X4_read_b164 (X : Cx G p R s m args c cells slots cX4_read 6 RX4 30) {r : Int32} {σ' : St} (hret : R_I G p l e R s m args below meth c cells slots Q cX4_read r σ') :
    ∀ (v0 : Nat) (h0 : kd v0 = 4) (σ : St) (_ : pf_X4_read_b164 v0 σ = some (r, σ')) (H : Heap) (locs : List Loc) (ls : Array Slot) (_ : GW G σ s H locs) (_ : lv_has ls 6 [(0, .ref (gz G + (v0)))]), W p l e R s m args below meth c H locs cells slots Q (F0 m 164 ls []) := by
  have hx := X.1.1
  have hb := X.1.2.1
  intro v0 h0 σ h H locs ls hW hl
  unfold pf_X4_read_b164 at h
  refine lv_aload_n hx hb dX4_read_164 rfl (lv_at hl 0 rfl) ?_
  refine gf_X4_tokens X hW h0 m_2_12 dX4_read_165 ?_
  refine gfN_X6_error X hW (kf_X4_tokens h0) m_1_216 dX4_read_168 ?_
  exact ri_end hret h dX4_read_171 hW
set_option maxRecDepth 20000 in
set_option maxHeartbeats 4000000 in
theorem bl_X4_read_L37 (X : Cx G p R s m args c cells slots cX4_read 6 RX4 30) {r : Int32} {σ' : St} (hret : R_I G p l e R s m args below meth c cells slots Q cX4_read r σ') {k164 : Nat → St → (Option (Int32 × St))}
    (hk164 : ∀ (v0 : Nat) (h0 : kd v0 = 4) (σ : St) (_ : k164 v0 σ = some (r, σ')) (H : Heap) (locs : List Loc) (ls : Array Slot) (_ : GW G σ s H locs) (_ : lv_has ls 6 [(0, .ref (gz G + (v0)))]), W p l e R s m args below meth c H locs cells slots Q (F0 m 164 ls [])) :
    ∀ (n : Nat), ∀ (v0 : Nat) (h0 : kd v0 = 4) (v3 : Nat) (h3 : kd v3 = 2) (v4 : Int32) (σ : St) (_ : pf_X4_read_L37 k164 n v0 v3 v4 σ = some (r, σ')) (H : Heap) (locs : List Loc) (ls : Array Slot) (_ : GW G σ s H locs) (_ : lv_has ls 6 [(0, .ref (gz G + (v0))), (3, .ref (gz G + (v3))), (4, .int (v4))]), W p l e R s m args below meth c H locs cells slots Q (F0 m 37 ls []) := by
  have hx := X.1.1
  have hb := X.1.2.1
  intro n
  induction n with
  | zero => intro v0 h0 v3 h3 v4 σ h H locs ls hW hl; cases h
  | succ n ih =>
    intro v0 h0 v3 h3 v4 σ h H locs ls hW hl
    rw [pf_X4_read_L37.eq_2] at h
    refine lv_iload hx hb dX4_read_37 (lv_at hl 2 rfl) ?_
    refine lv_sipush (v := 800) hx hb dX4_read_39 (by decide) ?_
    refine lv_icmp_ge (tgt := 164) hx hb dX4_read_42 (by decide) (fun hc => ?_) (fun hc => ?_)
    · replace h := if_t hc h
      exact hk164 v0 h0 σ h _ _ _ hW (lv_sub hl [0] rfl)
    · replace h := if_f hc h
      refine lv_aload_n hx hb dX4_read_45 rfl (lv_at hl 0 rfl) ?_
      refine gf_X4_tokens X hW h0 m_2_12 dX4_read_46 ?_
      obtain ⟨r_1, hcl, h⟩ := bind_el h
      refine call_V1 X hW (kC_X6 (kf_X4_tokens h0)) m_6_22 m_6_23 m_6_24 mv_X6_goOn (c_X6_goOn (kf_X4_tokens h0) hcl) (by decide) rfl rfl (Nat.le_of_ble_eq_true rfl) hl.1 dX4_read_49 ?_
      clear hW hcl; intro H locs hW
      refine lv_if_eq (tgt := 164) hx hb dX4_read_52 (by decide) (fun hc => ?_) (fun hc => ?_)
      · replace h := if_t hc h
        exact hk164 v0 h0 σ h _ _ _ hW (lv_sub hl [0] rfl)
      · replace h := if_f hc h
        refine lv_aload_n hx hb dX4_read_55 rfl (lv_at hl 0 rfl) ?_
        refine gf_X4_tokens X hW h0 m_2_12 dX4_read_56 ?_
        obtain ⟨r_2, hcl, h⟩ := bind_el h
        refine call_V1 X hW (kC_X6 (kf_X4_tokens h0)) m_6_26 m_6_7 m_6_8 mv_X6_ahead (c_X6_ahead (kf_X4_tokens h0) hcl) (by decide) rfl rfl (Nat.le_of_ble_eq_true rfl) hl.1 dX4_read_59 ?_
        clear hW hcl; intro H locs hW
        refine lv_astoreT (lv' := [(5, va_re (gad G) (r_2)), (0, .ref (gz G + (v0))), (3, .ref (gz G + (v3))), (4, .int (v4))]) hx hb dX4_read_62 hl (by decide) rfl ?_
        clear hl; intro ls hl
        refine lv_aloadT hx hb dX4_read_64 (lv_at hl 0 rfl) ?_
        refine r_gtok (k := 5) X hW (by decide) m_6_27 dX4_read_66 ?_
        refine r_acmp_ne (a := r_2) (b := some 5) (tgt := 80) X hx hb dX4_read_69 (by decide) (fun hc => ?_) (fun hc => ?_)
        · replace h := if_f hc h
          refine lv_aloadT hx hb dX4_read_80 (lv_at hl 0 rfl) ?_
          refine r_gtok (k := 6) X hW (by decide) m_6_45 dX4_read_82 ?_
          refine r_acmp_ne (a := r_2) (b := some 6) (tgt := 103) X hx hb dX4_read_85 (by decide) (fun hc => ?_) (fun hc => ?_)
          · replace h := if_f hc h
            exact bl_X4_read_b103 X hret ih v0 h0 v3 h3 v4 r_2 σ h _ _ _ hW (lv_sub hl [1, 2, 3, 0] rfl)
          · replace h := if_t hc h
            refine lv_aload_n hx hb dX4_read_88 rfl (lv_at hl 1 rfl) ?_
            refine gf_X4_seedTold X hW h0 m_2_16 dX4_read_89 ?_
            refine lv_if_ne (tgt := 103) hx hb dX4_read_92 (by decide) (fun hc => ?_) (fun hc => ?_)
            · replace h := if_f hc h
              exact bl_X4_read_b103 X hret ih v0 h0 v3 h3 v4 r_2 σ h _ _ _ hW (lv_sub hl [1, 2, 3, 0] rfl)
            · replace h := if_t hc h
              refine lv_aload_n hx hb dX4_read_95 rfl (lv_at hl 1 rfl) ?_
              refine lv_aload_n hx hb dX4_read_96 rfl (lv_at hl 2 rfl) ?_
              obtain ⟨σ_4, hcl, h⟩ := bind_el h
              refine call_V0 X hW (kC_X4 h0) m_6_47 m_6_49 m_0_19 mv_X4_readSeed (c_X4_readSeed h0 h3 hcl) (by decide) rfl rfl (Nat.le_of_ble_eq_true rfl) hl.1 dX4_read_97 ?_
              clear hW hcl; intro H locs hW
              refine lv_goto (tgt := 158) hx hb dX4_read_100 (by decide) ?_
              exact bl_X4_read_b158 X hret ih v0 h0 v3 h3 v4 σ_4 h _ _ _ hW (lv_sub hl [1, 2, 3] rfl)
        · replace h := if_t hc h
          refine lv_aload_n hx hb dX4_read_72 rfl (lv_at hl 1 rfl) ?_
          refine lv_aload_n hx hb dX4_read_73 rfl (lv_at hl 2 rfl) ?_
          obtain ⟨σ_3, hcl, h⟩ := bind_el h
          refine call_V0 X hW (kC_X4 h0) m_6_29 m_6_31 m_0_18 mv_X4_readStock (c_X4_readStock h0 h3 hcl) (by decide) rfl rfl (Nat.le_of_ble_eq_true rfl) hl.1 dX4_read_74 ?_
          clear hW hcl; intro H locs hW
          refine lv_goto (tgt := 158) hx hb dX4_read_77 (by decide) ?_
          exact bl_X4_read_b158 X hret ih v0 h0 v3 h3 v4 σ_3 h _ _ _ hW (lv_sub hl [1, 2, 3] rfl)
set_option maxRecDepth 20000 in
set_option maxHeartbeats 4000000 in
theorem c_X4_read {G : Gt} {l : Launch} {v0 : Nat} (h0 : kd v0 = 4) {v1 : Nat} (h1 : kd v1 = 11) {v2 : Int32} {v3 : Nat} (h3 : kd v3 = 2) {σ : St} {r : Int32} {σ' : St} (hf : pf_X4_read v0 v1 v2 v3 σ = some (r, σ')) : Ct G l yX4_read cX4_read 6 (some .int) 30 [.ref (gz G + (v0)), .ref (gz G + (v1)), .int (v2), .ref (gz G + (v3))] σ (some (.int r)) σ' := by
  refine met_i (by decide +kernel) (Nat.le_of_ble_eq_true rfl) rfl ?_
  intro p e s m args below meth c Q ls X hW hret hl
  have hx := X.1.1
  have hb := X.1.2.1
  have hl : lv_has ls 6 [(0, .ref (gz G + (v0))), (1, .ref (gz G + (v1))), (2, .int (v2)), (3, .ref (gz G + (v3)))] := hl
  have h := hf
  clear hf
  unfold pf_X4_read at h
  refine lv_aload_n hx hb dX4_read_0 rfl (lv_at hl 0 rfl) ?_
  refine gf_X4_tokens X hW h0 m_2_12 dX4_read_1 ?_
  refine lv_aload_n hx hb dX4_read_4 rfl (lv_at hl 1 rfl) ?_
  refine lv_iload_n hx hb dX4_read_5 rfl (lv_at hl 2 rfl) ?_
  obtain ⟨σ_1, hcl, h⟩ := bind_el h
  refine call_V0 X hW (kC_X6 (kf_X4_tokens h0)) m_5_186 m_5_187 m_5_188 mv_X6_scan (c_X6_scan (kf_X4_tokens h0) h1 hcl) (by decide) rfl rfl (Nat.le_of_ble_eq_true rfl) hl.1 dX4_read_6 ?_
  clear hW hcl; intro H locs hW
  refine lv_aload_n hx hb dX4_read_9 rfl (lv_at hl 0 rfl) ?_
  refine lv_aload_n hx hb dX4_read_10 rfl (lv_at hl 3 rfl) ?_
  obtain ⟨σ_2, hcl, h⟩ := bind_el h
  refine call_V0 X hW (kC_X4 h0) m_5_227 m_5_229 m_0_17 mv_X4_begin (c_X4_begin h0 h3 hcl) (by decide) rfl rfl (Nat.le_of_ble_eq_true rfl) hl.1 dX4_read_11 ?_
  clear hW hcl; intro H locs hW
  refine lv_aload_n hx hb dX4_read_14 rfl (lv_at hl 0 rfl) ?_
  refine gf_X4_tokens X hW h0 m_2_12 dX4_read_15 ?_
  refine r_gtok (k := 4) X hW (by decide) m_6_0 dX4_read_18 ?_
  obtain ⟨σ_3, hcl, h⟩ := bind_el h
  refine call_V0 X hW (kC_X6 (kf_X4_tokens h0)) m_6_2 m_6_3 m_6_4 mv_X6_expect (c_X6_expect (kf_X4_tokens h0) hcl) (by decide) rfl rfl (Nat.le_of_ble_eq_true rfl) hl.1 dX4_read_21 ?_
  clear hW hcl; intro H locs hW
  refine lv_aload_n hx hb dX4_read_24 rfl (lv_at hl 0 rfl) ?_
  refine gf_X4_tokens X hW h0 m_2_12 dX4_read_25 ?_
  refine r_gtok (k := 24) X hW (by decide) m_6_20 dX4_read_28 ?_
  obtain ⟨σ_4, hcl, h⟩ := bind_el h
  refine call_V0 X hW (kC_X6 (kf_X4_tokens h0)) m_6_2 m_6_3 m_6_4 mv_X6_expect (c_X6_expect (kf_X4_tokens h0) hcl) (by decide) rfl rfl (Nat.le_of_ble_eq_true rfl) hl.1 dX4_read_31 ?_
  clear hW hcl; intro H locs hW
  refine lv_iconst (v := 0) hx hb dX4_read_34 (by decide) ?_
  refine lv_istore (lv' := [(4, .int (0)), (0, .ref (gz G + (v0))), (1, .ref (gz G + (v1))), (2, .int (v2)), (3, .ref (gz G + (v3)))]) hx hb dX4_read_35 hl (by decide) rfl ?_
  clear hl; intro ls hl
  exact bl_X4_read_L37 X hret (bl_X4_read_b164 X hret) FU v0 h0 v3 h3 0 σ_4 h _ _ _ hW (lv_sub hl [1, 4, 0] rfl)
set_option maxRecDepth 20000 in
set_option maxHeartbeats 4000000 in
theorem c_X7_isReached {G : Gt} {l : Launch} {v0 : Nat} (h0 : kd v0 = 6) {v1 : Int32} {σ : St} {r : Int32} (hf : pf_X7_isReached v0 v1 σ = some r) : Ct G l yX7_isReached cX7_isReached 2 (some .boolean) 2 [.ref (gz G + (v0)), .int (v1)] σ (some (.int r)) σ := by
  refine met_z (by decide +kernel) (Nat.le_of_ble_eq_true rfl) rfl ?_
  intro p e s m args below meth c Q ls X hW hret hl
  have hx := X.1.1
  have hb := X.1.2.1
  have hl : lv_has ls 2 [(0, .ref (gz G + (v0))), (1, .int (v1))] := hl
  have h := hf
  clear hf
  unfold pf_X7_isReached at h
  refine lv_aload_n hx hb dX7_isReached_0 rfl (lv_at hl 0 rfl) ?_
  refine gf_X7_reached X hW h0 m_2_40 dX7_isReached_1 ?_
  refine lv_iload_n hx hb dX7_isReached_4 rfl (lv_at hl 1 rfl) ?_
  refine w_lushr hx hb dX7_isReached_5 ?_
  refine lv_lconst (v := 1) hx hb dX7_isReached_6 (by decide) ?_
  refine lv_land hx hb dX7_isReached_7 ?_
  refine lv_lconst (v := 0) hx hb dX7_isReached_8 (by decide) ?_
  refine W.lcmp hx hb dX7_isReached_9 ?_
  refine lv_if_eq (tgt := 17) hx hb dX7_isReached_10 (by decide) (fun hc => ?_) (fun hc => ?_)
  · replace h := if_t (lcmp_eq.mp hc) h
    refine lv_iconst (v := 0) hx hb dX7_isReached_17 (by decide) ?_
    exact rz_end0 hret h (by decide) dX7_isReached_18 hW
  · replace h := if_f (fun q => hc (lcmp_eq.mpr q)) h
    refine lv_iconst (v := 1) hx hb dX7_isReached_13 (by decide) ?_
    refine lv_goto (tgt := 18) hx hb dX7_isReached_14 (by decide) ?_
    exact rz_end0 hret h (by decide) dX7_isReached_18 hW
set_option maxRecDepth 20000 in
set_option maxHeartbeats 4000000 in
theorem bl_X7_reach_b85 (X : Cx G p R s m args c cells slots cX7_reach 8 RX7 3) {σ' : St} (hret : R_V G p l e R s m args below meth c cells slots Q cX7_reach σ') :
    ∀ (v0 : Nat) (h0 : kd v0 = 6) (v2 : Int32) (v3 : Int32) (v4 : Int32) (σ : St) (_ : pf_X7_reach_b85 v0 v2 v3 v4 σ = some σ') (H : Heap) (locs : List Loc) (ls : Array Slot) (_ : GW G σ s H locs) (_ : lv_has ls 8 [(0, .ref (gz G + (v0))), (2, .int (v2)), (3, .int (v3)), (4, .int (v4))]), W p l e R s m args below meth c H locs cells slots Q (F0 m 85 ls []) := by
  have hx := X.1.1
  have hb := X.1.2.1
  intro v0 h0 v2 v3 v4 σ h H locs ls hW hl
  unfold pf_X7_reach_b85 at h
  refine lv_aload_n hx hb dX7_reach_85 rfl (lv_at hl 0 rfl) ?_
  refine gf_X7_stepsToTry X hW h0 m_2_38 dX7_reach_86 ?_
  refine lv_iload_n hx hb dX7_reach_89 rfl (lv_at hl 1 rfl) ?_
  refine lv_aload_n hx hb dX7_reach_90 rfl (lv_at hl 0 rfl) ?_
  refine gf_X7_stepsToTry X hW h0 m_2_38 dX7_reach_91 ?_
  refine lv_iload_n hx hb dX7_reach_94 rfl (lv_at hl 1 rfl) ?_
  obtain ⟨r_1, hcl, h⟩ := bind_el h
  refine call_SN1 X hW m_2_187 m_2_178 mv_X10_at (c_X10_at (kf_X7_stepsToTry h0) hcl) (by decide) rfl rfl (Nat.le_of_ble_eq_true rfl) hl.1 dX7_reach_95 ?_
  clear hW hcl; intro H locs hW
  refine lv_iconst (v := 1) hx hb dX7_reach_98 (by decide) ?_
  refine lv_iload_n hx hb dX7_reach_99 rfl (lv_at hl 2 rfl) ?_
  refine w_ishl hx hb dX7_reach_100 ?_
  refine lv_ior hx hb dX7_reach_101 ?_
  obtain ⟨σ_2, hcl, h⟩ := bind_el h
  refine call_SN0 X hW m_2_188 m_2_189 mv_X10_put (c_X10_put (kf_X7_stepsToTry h0) hcl) (by decide) rfl rfl (Nat.le_of_ble_eq_true rfl) hl.1 dX7_reach_102 ?_
  clear hW hcl; intro H locs hW
  refine lv_aload_n hx hb dX7_reach_105 rfl (lv_at hl 0 rfl) ?_
  refine lv_dup hx hb dX7_reach_106 rfl ?_
  refine gf_X7_reached X hW h0 m_2_40 dX7_reach_107 ?_
  refine lv_lconst (v := 1) hx hb dX7_reach_110 (by decide) ?_
  refine lv_iload hx hb dX7_reach_111 (lv_at hl 3 rfl) ?_
  refine w_lshl hx hb dX7_reach_113 ?_
  refine lv_lor hx hb dX7_reach_114 ?_
  refine sf_X7_reached X hW h0 m_2_40 dX7_reach_115 ?_
  clear hW; intro H locs hW
  refine nm_s hW h ?_
  clear hW h; intro σ_3 hW h
  exact rv_end hret h dX7_reach_118 hW
set_option maxRecDepth 20000 in
set_option maxHeartbeats 4000000 in
theorem bl_X7_reach_L10 (X : Cx G p R s m args c cells slots cX7_reach 8 RX7 3) {σ' : St} (hret : R_V G p l e R s m args below meth c cells slots Q cX7_reach σ') {k85 : Nat → Int32 → Int32 → Int32 → St → (Option St)}
    (hk85 : ∀ (v0 : Nat) (h0 : kd v0 = 6) (v2 : Int32) (v3 : Int32) (v4 : Int32) (σ : St) (_ : k85 v0 v2 v3 v4 σ = some σ') (H : Heap) (locs : List Loc) (ls : Array Slot) (_ : GW G σ s H locs) (_ : lv_has ls 8 [(0, .ref (gz G + (v0))), (2, .int (v2)), (3, .int (v3)), (4, .int (v4))]), W p l e R s m args below meth c H locs cells slots Q (F0 m 85 ls [])) :
    ∀ (n : Nat), ∀ (v0 : Nat) (h0 : kd v0 = 6) (v1 : Nat) (h1 : kd v1 = 3) (v2 : Int32) (v3 : Int32) (v4 : Int32) (v5 : Int32) (σ : St) (_ : pf_X7_reach_L10 k85 n v0 v1 v2 v3 v4 v5 σ = some σ') (H : Heap) (locs : List Loc) (ls : Array Slot) (_ : GW G σ s H locs) (_ : lv_has ls 8 [(0, .ref (gz G + (v0))), (1, .ref (gz G + (v1))), (2, .int (v2)), (3, .int (v3)), (4, .int (v4)), (5, .int (v5))]), W p l e R s m args below meth c H locs cells slots Q (F0 m 10 ls []) := by
  have hx := X.1.1
  have hb := X.1.2.1
  intro n
  induction n with
  | zero => intro v0 h0 v1 h1 v2 v3 v4 v5 σ h H locs ls hW hl; cases h
  | succ n ih =>
    intro v0 h0 v1 h1 v2 v3 v4 v5 σ h H locs ls hW hl
    rw [pf_X7_reach_L10.eq_2] at h
    refine lv_iload hx hb dX7_reach_10 (lv_at hl 5 rfl) ?_
    refine lv_bipush (v := 8) hx hb dX7_reach_12 (by decide) ?_
    refine lv_icmp_ge (tgt := 85) hx hb dX7_reach_14 (by decide) (fun hc => ?_) (fun hc => ?_)
    · replace h := if_t hc h
      exact hk85 v0 h0 v2 v3 v4 σ h _ _ _ hW (lv_sub hl [0, 2, 3, 4] rfl)
    · replace h := if_f hc h
      refine lv_iload_n hx hb dX7_reach_17 rfl (lv_at hl 3 rfl) ?_
      refine lv_bipush (v := 8) hx hb dX7_reach_18 (by decide) ?_
      refine lv_imul hx hb dX7_reach_20 ?_
      refine lv_iload hx hb dX7_reach_21 (lv_at hl 5 rfl) ?_
      refine lv_iadd hx hb dX7_reach_23 ?_
      refine nm_i h ?_
      clear h; intro v6_1 h
      refine lv_istore (lv' := [(6, .int (v6_1)), (0, .ref (gz G + (v0))), (1, .ref (gz G + (v1))), (2, .int (v2)), (3, .int (v3)), (4, .int (v4)), (5, .int (v5))]) hx hb dX7_reach_24 hl (by decide) rfl ?_
      clear hl; intro ls hl
      refine lv_aload_n hx hb dX7_reach_26 rfl (lv_at hl 1 rfl) ?_
      refine gf_X7_stocks X hW h0 m_2_37 dX7_reach_27 ?_
      refine lv_iload_n hx hb dX7_reach_30 rfl (lv_at hl 3 rfl) ?_
      refine lv_bipush (v := 8) hx hb dX7_reach_31 (by decide) ?_
      refine lv_imul hx hb dX7_reach_33 ?_
      refine lv_iload hx hb dX7_reach_34 (lv_at hl 6 rfl) ?_
      refine lv_iadd hx hb dX7_reach_36 ?_
      obtain ⟨r_2, hcl, h⟩ := bind_el h
      refine call_SN1 X hW m_2_187 m_2_178 mv_X10_at (c_X10_at (kf_X7_stocks h0) hcl) (by decide) rfl rfl (Nat.le_of_ble_eq_true rfl) hl.1 dX7_reach_37 ?_
      clear hW hcl; intro H locs hW
      refine lv_aload_n hx hb dX7_reach_40 rfl (lv_at hl 2 rfl) ?_
      refine gf_X3_uses X hW h1 m_1_101 dX7_reach_41 ?_
      refine lv_iload hx hb dX7_reach_44 (lv_at hl 0 rfl) ?_
      obtain ⟨r_3, hcl, h⟩ := bind_el h
      refine call_SN1 X hW m_2_187 m_2_178 mv_X10_at (c_X10_at (kf_X3_uses h1) hcl) (by decide) rfl rfl (Nat.le_of_ble_eq_true rfl) hl.1 dX7_reach_46 ?_
      clear hW hcl; intro H locs hW
      refine lv_isub hx hb dX7_reach_49 ?_
      refine lv_aload_n hx hb dX7_reach_50 rfl (lv_at hl 2 rfl) ?_
      refine gf_X3_gives X hW h1 m_1_107 dX7_reach_51 ?_
      refine lv_iload hx hb dX7_reach_54 (lv_at hl 0 rfl) ?_
      obtain ⟨r_4, hcl, h⟩ := bind_el h
      refine call_SN1 X hW m_2_187 m_2_178 mv_X10_at (c_X10_at (kf_X3_gives h1) hcl) (by decide) rfl rfl (Nat.le_of_ble_eq_true rfl) hl.1 dX7_reach_56 ?_
      clear hW hcl; intro H locs hW
      refine lv_iadd hx hb dX7_reach_59 ?_
      refine nm_i h ?_
      clear h; intro v7_5 h
      refine lv_istore (lv' := [(7, .int (v7_5)), (6, .int (v6_1)), (0, .ref (gz G + (v0))), (1, .ref (gz G + (v1))), (2, .int (v2)), (3, .int (v3)), (4, .int (v4)), (5, .int (v5))]) hx hb dX7_reach_60 hl (by decide) rfl ?_
      clear hl; intro ls hl
      refine lv_aload_n hx hb dX7_reach_62 rfl (lv_at hl 2 rfl) ?_
      refine gf_X7_stocks X hW h0 m_2_37 dX7_reach_63 ?_
      refine lv_iload hx hb dX7_reach_66 (lv_at hl 6 rfl) ?_
      refine lv_bipush (v := 8) hx hb dX7_reach_68 (by decide) ?_
      refine lv_imul hx hb dX7_reach_70 ?_
      refine lv_iload hx hb dX7_reach_71 (lv_at hl 7 rfl) ?_
      refine lv_iadd hx hb dX7_reach_73 ?_
      refine lv_iload hx hb dX7_reach_74 (lv_at hl 0 rfl) ?_
      obtain ⟨σ_6, hcl, h⟩ := bind_el h
      refine call_SN0 X hW m_2_188 m_2_189 mv_X10_put (c_X10_put (kf_X7_stocks h0) hcl) (by decide) rfl rfl (Nat.le_of_ble_eq_true rfl) hl.1 dX7_reach_76 ?_
      clear hW hcl; intro H locs hW
      refine w_iinc (v := 1) (lv' := fun y => [(5, .int (y)), (7, .int (v7_5)), (6, .int (v6_1)), (0, .ref (gz G + (v0))), (1, .ref (gz G + (v1))), (2, .int (v2)), (3, .int (v3)), (4, .int (v4))]) hx hb dX7_reach_79 hl (k := 7) rfl (by decide) (by decide) (fun _ => rfl) h ?_
      clear h hl; intro v5_7 h ls hl
      refine lv_goto (tgt := 10) hx hb dX7_reach_82 (by decide) ?_
      exact ih v0 h0 v1 h1 v2 v3 v4 v5_7 σ_6 h _ _ _ hW (lv_sub hl [3, 4, 5, 6, 7, 0] rfl)
set_option maxRecDepth 20000 in
set_option maxHeartbeats 4000000 in
theorem c_X7_reach {G : Gt} {l : Launch} {v0 : Nat} (h0 : kd v0 = 6) {v1 : Nat} (h1 : kd v1 = 3) {v2 : Int32} {v3 : Int32} {σ : St} {σ' : St} (hf : pf_X7_reach v0 v1 v2 v3 σ = some σ') : Ct G l yX7_reach cX7_reach 8 none 3 [.ref (gz G + (v0)), .ref (gz G + (v1)), .int (v2), .int (v3)] σ none σ' := by
  refine met_v (by decide +kernel) (Nat.le_of_ble_eq_true rfl) rfl ?_
  intro p e s m args below meth c Q ls X hW hret hl
  have hx := X.1.1
  have hb := X.1.2.1
  have hl : lv_has ls 8 [(0, .ref (gz G + (v0))), (1, .ref (gz G + (v1))), (2, .int (v2)), (3, .int (v3))] := hl
  have h := hf
  clear hf
  unfold pf_X7_reach at h
  refine lv_iload_n hx hb dX7_reach_0 rfl (lv_at hl 2 rfl) ?_
  refine lv_iconst (v := 1) hx hb dX7_reach_1 (by decide) ?_
  refine lv_iload_n hx hb dX7_reach_2 rfl (lv_at hl 3 rfl) ?_
  refine w_ishl hx hb dX7_reach_3 ?_
  refine lv_ior hx hb dX7_reach_4 ?_
  refine nm_i h ?_
  clear h; intro v4_1 h
  refine lv_istore (lv' := [(4, .int (v4_1)), (0, .ref (gz G + (v0))), (1, .ref (gz G + (v1))), (2, .int (v2)), (3, .int (v3))]) hx hb dX7_reach_5 hl (by decide) rfl ?_
  clear hl; intro ls hl
  refine lv_iconst (v := 0) hx hb dX7_reach_7 (by decide) ?_
  refine lv_istore (lv' := [(5, .int (0)), (4, .int (v4_1)), (0, .ref (gz G + (v0))), (1, .ref (gz G + (v1))), (2, .int (v2)), (3, .int (v3))]) hx hb dX7_reach_8 hl (by decide) rfl ?_
  clear hl; intro ls hl
  exact bl_X7_reach_L10 X hret (bl_X7_reach_b85 X hret) FU v0 h0 v1 h1 v2 v3 v4_1 0 σ h _ _ _ hW (lv_sub hl [2, 3, 4, 5, 1, 0] rfl)
set_option maxRecDepth 20000 in
set_option maxHeartbeats 4000000 in
theorem bl_X7_goForward_b58 (X : Cx G p R s m args c cells slots cX7_goForward 4 RX7 5) {σ' : St} (hret : R_V G p l e R s m args below meth c cells slots Q cX7_goForward σ') {k26 : Nat → Nat → Int32 → Int32 → St → (Option St)}
    (hk26 : ∀ (v0 : Nat) (h0 : kd v0 = 6) (v1 : Nat) (h1 : kd v1 = 3) (v2 : Int32) (v3 : Int32) (σ : St) (_ : k26 v0 v1 v2 v3 σ = some σ') (H : Heap) (locs : List Loc) (ls : Array Slot) (_ : GW G σ s H locs) (_ : lv_has ls 4 [(0, .ref (gz G + (v0))), (1, .ref (gz G + (v1))), (2, .int (v2)), (3, .int (v3))]), W p l e R s m args below meth c H locs cells slots Q (F0 m 26 ls [])) :
    ∀ (v0 : Nat) (h0 : kd v0 = 6) (v1 : Nat) (h1 : kd v1 = 3) (v2 : Int32) (v3 : Int32) (σ : St) (_ : pf_X7_goForward_b58 k26 v0 v1 v2 v3 σ = some σ') (H : Heap) (locs : List Loc) (ls : Array Slot) (_ : GW G σ s H locs) (_ : lv_has ls 4 [(0, .ref (gz G + (v0))), (1, .ref (gz G + (v1))), (2, .int (v2)), (3, .int (v3))]), W p l e R s m args below meth c H locs cells slots Q (F0 m 58 ls []) := by
  have hx := X.1.1
  have hb := X.1.2.1
  intro v0 h0 v1 h1 v2 v3 σ h H locs ls hW hl
  unfold pf_X7_goForward_b58 at h
  refine w_iinc (v := 1) (lv' := fun y => [(3, .int (y)), (0, .ref (gz G + (v0))), (1, .ref (gz G + (v1))), (2, .int (v2))]) hx hb dX7_goForward_58 hl (k := 3) rfl (by decide) (by decide) (fun _ => rfl) h ?_
  clear h hl; intro v3_1 h ls hl
  refine lv_goto (tgt := 26) hx hb dX7_goForward_61 (by decide) ?_
  exact hk26 v0 h0 v1 h1 v2 v3_1 σ h _ _ _ hW (lv_sub hl [1, 2, 3, 0] rfl)
set_option maxRecDepth 20000 in
set_option maxHeartbeats 4000000 in
theorem bl_X7_goForward_b64 (X : Cx G p R s m args c cells slots cX7_goForward 4 RX7 5) {σ' : St} (hret : R_V G p l e R s m args below meth c cells slots Q cX7_goForward σ') {k2 : Nat → Nat → Int32 → St → (Option St)}
    (hk2 : ∀ (v0 : Nat) (h0 : kd v0 = 6) (v1 : Nat) (h1 : kd v1 = 3) (v2 : Int32) (σ : St) (_ : k2 v0 v1 v2 σ = some σ') (H : Heap) (locs : List Loc) (ls : Array Slot) (_ : GW G σ s H locs) (_ : lv_has ls 4 [(0, .ref (gz G + (v0))), (1, .ref (gz G + (v1))), (2, .int (v2))]), W p l e R s m args below meth c H locs cells slots Q (F0 m 2 ls [])) :
    ∀ (v0 : Nat) (h0 : kd v0 = 6) (v1 : Nat) (h1 : kd v1 = 3) (v2 : Int32) (σ : St) (_ : pf_X7_goForward_b64 k2 v0 v1 v2 σ = some σ') (H : Heap) (locs : List Loc) (ls : Array Slot) (_ : GW G σ s H locs) (_ : lv_has ls 4 [(0, .ref (gz G + (v0))), (1, .ref (gz G + (v1))), (2, .int (v2))]), W p l e R s m args below meth c H locs cells slots Q (F0 m 64 ls []) := by
  have hx := X.1.1
  have hb := X.1.2.1
  intro v0 h0 v1 h1 v2 σ h H locs ls hW hl
  unfold pf_X7_goForward_b64 at h
  refine w_iinc (v := 1) (lv' := fun y => [(2, .int (y)), (0, .ref (gz G + (v0))), (1, .ref (gz G + (v1)))]) hx hb dX7_goForward_64 hl (k := 2) rfl (by decide) (by decide) (fun _ => rfl) h ?_
  clear h hl; intro v2_1 h ls hl
  refine lv_goto (tgt := 2) hx hb dX7_goForward_67 (by decide) ?_
  exact hk2 v0 h0 v1 h1 v2_1 σ h _ _ _ hW (lv_sub hl [1, 2, 0] rfl)
set_option maxRecDepth 20000 in
set_option maxHeartbeats 4000000 in
theorem bl_X7_goForward_L26 (X : Cx G p R s m args c cells slots cX7_goForward 4 RX7 5) {σ' : St} (hret : R_V G p l e R s m args below meth c cells slots Q cX7_goForward σ') {k64 : Nat → Nat → Int32 → St → (Option St)}
    (hk64 : ∀ (v0 : Nat) (h0 : kd v0 = 6) (v1 : Nat) (h1 : kd v1 = 3) (v2 : Int32) (σ : St) (_ : k64 v0 v1 v2 σ = some σ') (H : Heap) (locs : List Loc) (ls : Array Slot) (_ : GW G σ s H locs) (_ : lv_has ls 4 [(0, .ref (gz G + (v0))), (1, .ref (gz G + (v1))), (2, .int (v2))]), W p l e R s m args below meth c H locs cells slots Q (F0 m 64 ls [])) :
    ∀ (n : Nat), ∀ (v0 : Nat) (h0 : kd v0 = 6) (v1 : Nat) (h1 : kd v1 = 3) (v2 : Int32) (v3 : Int32) (σ : St) (_ : pf_X7_goForward_L26 k64 n v0 v1 v2 v3 σ = some σ') (H : Heap) (locs : List Loc) (ls : Array Slot) (_ : GW G σ s H locs) (_ : lv_has ls 4 [(0, .ref (gz G + (v0))), (1, .ref (gz G + (v1))), (2, .int (v2)), (3, .int (v3))]), W p l e R s m args below meth c H locs cells slots Q (F0 m 26 ls []) := by
  have hx := X.1.1
  have hb := X.1.2.1
  intro n
  induction n with
  | zero => intro v0 h0 v1 h1 v2 v3 σ h H locs ls hW hl; cases h
  | succ n ih =>
    intro v0 h0 v1 h1 v2 v3 σ h H locs ls hW hl
    rw [pf_X7_goForward_L26.eq_2] at h
    refine lv_iload_n hx hb dX7_goForward_26 rfl (lv_at hl 3 rfl) ?_
    refine lv_aload_n hx hb dX7_goForward_27 rfl (lv_at hl 1 rfl) ?_
    refine gf_X3_stepCount X hW h1 m_1_61 dX7_goForward_28 ?_
    refine lv_icmp_ge (tgt := 64) hx hb dX7_goForward_31 (by decide) (fun hc => ?_) (fun hc => ?_)
    · replace h := if_t hc h
      exact hk64 v0 h0 v1 h1 v2 σ h _ _ _ hW (lv_sub hl [0, 1, 2] rfl)
    · replace h := if_f hc h
      refine lv_aload_n hx hb dX7_goForward_34 rfl (lv_at hl 1 rfl) ?_
      refine lv_iload_n hx hb dX7_goForward_35 rfl (lv_at hl 2 rfl) ?_
      refine lv_iload_n hx hb dX7_goForward_36 rfl (lv_at hl 3 rfl) ?_
      refine lv_aload_n hx hb dX7_goForward_37 rfl (lv_at hl 0 rfl) ?_
      refine gf_X7_stocks X hW h0 m_2_37 dX7_goForward_38 ?_
      refine lv_iload_n hx hb dX7_goForward_41 rfl (lv_at hl 2 rfl) ?_
      refine lv_bipush (v := 8) hx hb dX7_goForward_42 (by decide) ?_
      refine lv_imul hx hb dX7_goForward_44 ?_
      obtain ⟨r_1, hcl, h⟩ := bind_el h
      refine call_V1 X hW (kC_X3 h1) m_2_203 m_2_204 m_2_205 mv_X3_hindranceBehind (c_X3_hindranceBehind h1 (kf_X7_stocks h0) hcl) (by decide) rfl rfl (Nat.le_of_ble_eq_true rfl) hl.1 dX7_goForward_45 ?_
      clear hW hcl; intro H locs hW
      refine lv_if_ne (tgt := 58) hx hb dX7_goForward_48 (by decide) (fun hc => ?_) (fun hc => ?_)
      · replace h := if_f hc h
        exact bl_X7_goForward_b58 X hret ih v0 h0 v1 h1 v2 v3 σ h _ _ _ hW (lv_sub hl [0, 1, 2, 3] rfl)
      · replace h := if_t hc h
        refine lv_aload_n hx hb dX7_goForward_51 rfl (lv_at hl 0 rfl) ?_
        refine lv_aload_n hx hb dX7_goForward_52 rfl (lv_at hl 1 rfl) ?_
        refine lv_iload_n hx hb dX7_goForward_53 rfl (lv_at hl 2 rfl) ?_
        refine lv_iload_n hx hb dX7_goForward_54 rfl (lv_at hl 3 rfl) ?_
        obtain ⟨σ_2, hcl, h⟩ := bind_el h
        refine call_V0 X hW (kC_X7 h0) m_2_214 m_2_216 m_0_5 mv_X7_reach (c_X7_reach h0 h1 hcl) (by decide) rfl rfl (Nat.le_of_ble_eq_true rfl) hl.1 dX7_goForward_55 ?_
        clear hW hcl; intro H locs hW
        exact bl_X7_goForward_b58 X hret ih v0 h0 v1 h1 v2 v3 σ_2 h _ _ _ hW (lv_sub hl [0, 1, 2, 3] rfl)
set_option maxRecDepth 20000 in
set_option maxHeartbeats 4000000 in
theorem bl_X7_goForward_L2 (X : Cx G p R s m args c cells slots cX7_goForward 4 RX7 5) {σ' : St} (hret : R_V G p l e R s m args below meth c cells slots Q cX7_goForward σ') :
    ∀ (n : Nat), ∀ (v0 : Nat) (h0 : kd v0 = 6) (v1 : Nat) (h1 : kd v1 = 3) (v2 : Int32) (σ : St) (_ : pf_X7_goForward_L2 n v0 v1 v2 σ = some σ') (H : Heap) (locs : List Loc) (ls : Array Slot) (_ : GW G σ s H locs) (_ : lv_has ls 4 [(0, .ref (gz G + (v0))), (1, .ref (gz G + (v1))), (2, .int (v2))]), W p l e R s m args below meth c H locs cells slots Q (F0 m 2 ls []) := by
  have hx := X.1.1
  have hb := X.1.2.1
  intro n
  induction n with
  | zero => intro v0 h0 v1 h1 v2 σ h H locs ls hW hl; cases h
  | succ n ih =>
    intro v0 h0 v1 h1 v2 σ h H locs ls hW hl
    rw [pf_X7_goForward_L2.eq_2] at h
    refine lv_iload_n hx hb dX7_goForward_2 rfl (lv_at hl 2 rfl) ?_
    refine lv_bipush (v := 64) hx hb dX7_goForward_3 (by decide) ?_
    refine lv_icmp_ge (tgt := 70) hx hb dX7_goForward_5 (by decide) (fun hc => ?_) (fun hc => ?_)
    · replace h := if_t hc h
      exact rv_end hret h dX7_goForward_70 hW
    · replace h := if_f hc h
      refine lv_aload_n hx hb dX7_goForward_8 rfl (lv_at hl 0 rfl) ?_
      refine lv_iload_n hx hb dX7_goForward_9 rfl (lv_at hl 2 rfl) ?_
      obtain ⟨r_1, hcl, h⟩ := bind_el h
      refine call_V1 X hW (kC_X7 h0) m_2_195 m_2_197 m_0_3 mv_X7_isReached (c_X7_isReached h0 hcl) (by decide) rfl rfl (Nat.le_of_ble_eq_true rfl) hl.1 dX7_goForward_10 ?_
      clear hW hcl; intro H locs hW
      refine lv_if_eq (tgt := 64) hx hb dX7_goForward_13 (by decide) (fun hc => ?_) (fun hc => ?_)
      · replace h := if_t hc h
        exact bl_X7_goForward_b64 X hret ih v0 h0 v1 h1 v2 σ h _ _ _ hW (lv_sub hl [0, 1, 2] rfl)
      · replace h := if_f hc h
        refine lv_aload_n hx hb dX7_goForward_16 rfl (lv_at hl 1 rfl) ?_
        refine lv_iload_n hx hb dX7_goForward_17 rfl (lv_at hl 2 rfl) ?_
        obtain ⟨r_2, hcl, h⟩ := bind_el h
        refine call_V1 X hW (kC_X3 h1) m_2_199 m_2_200 m_2_201 mv_X3_goalHolds (c_X3_goalHolds h1 hcl) (by decide) rfl rfl (Nat.le_of_ble_eq_true rfl) hl.1 dX7_goForward_18 ?_
        clear hW hcl; intro H locs hW
        refine lv_if_ne (tgt := 64) hx hb dX7_goForward_21 (by decide) (fun hc => ?_) (fun hc => ?_)
        · replace h := if_f hc h
          exact bl_X7_goForward_b64 X hret ih v0 h0 v1 h1 v2 σ h _ _ _ hW (lv_sub hl [0, 1, 2] rfl)
        · replace h := if_t hc h
          refine lv_iconst (v := 0) hx hb dX7_goForward_24 (by decide) ?_
          refine lv_istore_n (lv' := [(3, .int (0)), (0, .ref (gz G + (v0))), (1, .ref (gz G + (v1))), (2, .int (v2))]) hx hb dX7_goForward_25 rfl hl (by decide) rfl ?_
          clear hl; intro ls hl
          exact bl_X7_goForward_L26 X hret (bl_X7_goForward_b64 X hret ih) FU v0 h0 v1 h1 v2 0 σ h _ _ _ hW (lv_sub hl [1, 2, 3, 0] rfl)
set_option maxRecDepth 20000 in
set_option maxHeartbeats 4000000 in
theorem c_X7_goForward {G : Gt} {l : Launch} {v0 : Nat} (h0 : kd v0 = 6) {v1 : Nat} (h1 : kd v1 = 3) {σ : St} {σ' : St} (hf : pf_X7_goForward v0 v1 σ = some σ') : Ct G l yX7_goForward cX7_goForward 4 none 5 [.ref (gz G + (v0)), .ref (gz G + (v1))] σ none σ' := by
  refine met_v (by decide +kernel) (Nat.le_of_ble_eq_true rfl) rfl ?_
  intro p e s m args below meth c Q ls X hW hret hl
  have hx := X.1.1
  have hb := X.1.2.1
  have hl : lv_has ls 4 [(0, .ref (gz G + (v0))), (1, .ref (gz G + (v1)))] := hl
  have h := hf
  clear hf
  unfold pf_X7_goForward at h
  refine lv_iconst (v := 0) hx hb dX7_goForward_0 (by decide) ?_
  refine lv_istore_n (lv' := [(2, .int (0)), (0, .ref (gz G + (v0))), (1, .ref (gz G + (v1)))]) hx hb dX7_goForward_1 rfl hl (by decide) rfl ?_
  clear hl; intro ls hl
  exact bl_X7_goForward_L2 X hret FU v0 h0 v1 h1 0 σ h _ _ _ hW (lv_sub hl [1, 2, 0] rfl)
set_option maxRecDepth 20000 in
set_option maxHeartbeats 4000000 in
theorem bl_X7_leastToGo_b45 {σ : St} (X : Cx G p R s m args c cells slots cX7_leastToGo 4 RX7 3) {r : Int32} (hret : R_I G p l e R s m args below meth c cells slots Q cX7_leastToGo r σ) {k5 : Nat → Int32 → Int32 → Int32 → (Option (Int32))}
    (hk5 : ∀ (v0 : Nat) (h0 : kd v0 = 6) (v1 : Int32) (v2 : Int32) (v3 : Int32) (_ : k5 v0 v1 v2 v3 = some r) (H : Heap) (locs : List Loc) (ls : Array Slot) (_ : GW G σ s H locs) (_ : lv_has ls 4 [(0, .ref (gz G + (v0))), (1, .int (v1)), (2, .int (v2)), (3, .int (v3))]), W p l e R s m args below meth c H locs cells slots Q (F0 m 5 ls [])) :
    ∀ (v0 : Nat) (h0 : kd v0 = 6) (v1 : Int32) (v2 : Int32) (v3 : Int32) (_ : pf_X7_leastToGo_b45 σ k5 v0 v1 v2 v3 = some r) (H : Heap) (locs : List Loc) (ls : Array Slot) (_ : GW G σ s H locs) (_ : lv_has ls 4 [(0, .ref (gz G + (v0))), (1, .int (v1)), (2, .int (v2)), (3, .int (v3))]), W p l e R s m args below meth c H locs cells slots Q (F0 m 45 ls []) := by
  have hx := X.1.1
  have hb := X.1.2.1
  intro v0 h0 v1 v2 v3 h H locs ls hW hl
  unfold pf_X7_leastToGo_b45 at h
  refine w_iinc (v := 1) (lv' := fun y => [(3, .int (y)), (0, .ref (gz G + (v0))), (1, .int (v1)), (2, .int (v2))]) hx hb dX7_leastToGo_45 hl (k := 3) rfl (by decide) (by decide) (fun _ => rfl) h ?_
  clear h hl; intro v3_1 h ls hl
  refine lv_goto (tgt := 5) hx hb dX7_leastToGo_48 (by decide) ?_
  exact hk5 v0 h0 v1 v2 v3_1 h _ _ _ hW (lv_sub hl [1, 2, 3, 0] rfl)
set_option maxRecDepth 20000 in
set_option maxHeartbeats 4000000 in
theorem bl_X7_leastToGo_L5 {σ : St} (X : Cx G p R s m args c cells slots cX7_leastToGo 4 RX7 3) {r : Int32} (hret : R_I G p l e R s m args below meth c cells slots Q cX7_leastToGo r σ) :
    ∀ (n : Nat), ∀ (v0 : Nat) (h0 : kd v0 = 6) (v1 : Int32) (v2 : Int32) (v3 : Int32) (_ : pf_X7_leastToGo_L5 σ n v0 v1 v2 v3 = some r) (H : Heap) (locs : List Loc) (ls : Array Slot) (_ : GW G σ s H locs) (_ : lv_has ls 4 [(0, .ref (gz G + (v0))), (1, .int (v1)), (2, .int (v2)), (3, .int (v3))]), W p l e R s m args below meth c H locs cells slots Q (F0 m 5 ls []) := by
  have hx := X.1.1
  have hb := X.1.2.1
  intro n
  induction n with
  | zero => intro v0 h0 v1 v2 v3 h H locs ls hW hl; cases h
  | succ n ih =>
    intro v0 h0 v1 v2 v3 h H locs ls hW hl
    rw [pf_X7_leastToGo_L5.eq_2] at h
    refine lv_iload_n hx hb dX7_leastToGo_5 rfl (lv_at hl 3 rfl) ?_
    refine lv_bipush (v := 6) hx hb dX7_leastToGo_6 (by decide) ?_
    refine lv_icmp_ge (tgt := 51) hx hb dX7_leastToGo_8 (by decide) (fun hc => ?_) (fun hc => ?_)
    · replace h := if_t hc h
      refine lv_iload_n hx hb dX7_leastToGo_51 rfl (lv_at hl 2 rfl) ?_
      exact ri_end0 hret h dX7_leastToGo_52 hW
    · replace h := if_f hc h
      refine lv_aload_n hx hb dX7_leastToGo_11 rfl (lv_at hl 0 rfl) ?_
      refine gf_X7_stepsToTry X hW h0 m_2_38 dX7_leastToGo_12 ?_
      refine lv_iload_n hx hb dX7_leastToGo_15 rfl (lv_at hl 1 rfl) ?_
      obtain ⟨r_1, hcl, h⟩ := bind_el h
      refine call_SN1 X hW m_2_187 m_2_178 mv_X10_at (c_X10_at (kf_X7_stepsToTry h0) hcl) (by decide) rfl rfl (Nat.le_of_ble_eq_true rfl) hl.1 dX7_leastToGo_16 ?_
      clear hW hcl; intro H locs hW
      refine lv_iload_n hx hb dX7_leastToGo_19 rfl (lv_at hl 3 rfl) ?_
      refine w_iushr hx hb dX7_leastToGo_20 ?_
      refine lv_iconst (v := 1) hx hb dX7_leastToGo_21 (by decide) ?_
      refine lv_iand hx hb dX7_leastToGo_22 ?_
      refine lv_if_eq (tgt := 45) hx hb dX7_leastToGo_23 (by decide) (fun hc => ?_) (fun hc => ?_)
      · replace h := if_t hc h
        exact bl_X7_leastToGo_b45 X hret ih v0 h0 v1 v2 v3 h _ _ _ hW (lv_sub hl [0, 1, 2, 3] rfl)
      · replace h := if_f hc h
        refine lv_iload_n hx hb dX7_leastToGo_26 rfl (lv_at hl 2 rfl) ?_
        refine lv_aload_n hx hb dX7_leastToGo_27 rfl (lv_at hl 0 rfl) ?_
        refine gf_X7_toGo X hW h0 m_2_39 dX7_leastToGo_28 ?_
        refine lv_iload_n hx hb dX7_leastToGo_31 rfl (lv_at hl 1 rfl) ?_
        refine lv_iconst (v := 1) hx hb dX7_leastToGo_32 (by decide) ?_
        refine lv_iload_n hx hb dX7_leastToGo_33 rfl (lv_at hl 3 rfl) ?_
        refine w_ishl hx hb dX7_leastToGo_34 ?_
        refine lv_ior hx hb dX7_leastToGo_35 ?_
        obtain ⟨r_2, hcl, h⟩ := bind_el h
        refine call_SN1 X hW m_2_187 m_2_178 mv_X10_at (c_X10_at (kf_X7_toGo h0) hcl) (by decide) rfl rfl (Nat.le_of_ble_eq_true rfl) hl.1 dX7_leastToGo_36 ?_
        clear hW hcl; intro H locs hW
        refine lv_iconst (v := 1) hx hb dX7_leastToGo_39 (by decide) ?_
        refine lv_iadd hx hb dX7_leastToGo_40 ?_
        obtain ⟨r_3, hcl, h⟩ := bind_el h
        refine call_S1 X hW m_2_226 m_2_227 mv_J9_min_7cf53 (c_J9_min_7cf53 hcl) (by decide) rfl rfl (Nat.le_of_ble_eq_true rfl) hl.1 dX7_leastToGo_41 ?_
        clear hW hcl; intro H locs hW
        refine lv_istore_n (lv' := [(2, .int (r_3)), (0, .ref (gz G + (v0))), (1, .int (v1)), (3, .int (v3))]) hx hb dX7_leastToGo_44 rfl hl (by decide) rfl ?_
        clear hl; intro ls hl
        exact bl_X7_leastToGo_b45 X hret ih v0 h0 v1 r_3 v3 h _ _ _ hW (lv_sub hl [1, 2, 0, 3] rfl)
set_option maxRecDepth 20000 in
set_option maxHeartbeats 4000000 in
theorem c_X7_leastToGo {G : Gt} {l : Launch} {v0 : Nat} (h0 : kd v0 = 6) {v1 : Int32} {σ : St} {r : Int32} (hf : pf_X7_leastToGo v0 v1 σ = some r) : Ct G l yX7_leastToGo cX7_leastToGo 4 (some .int) 3 [.ref (gz G + (v0)), .int (v1)] σ (some (.int r)) σ := by
  refine met_i (by decide +kernel) (Nat.le_of_ble_eq_true rfl) rfl ?_
  intro p e s m args below meth c Q ls X hW hret hl
  have hx := X.1.1
  have hb := X.1.2.1
  have hl : lv_has ls 4 [(0, .ref (gz G + (v0))), (1, .int (v1))] := hl
  have h := hf
  clear hf
  unfold pf_X7_leastToGo at h
  refine lv_bipush (v := 99) hx hb dX7_leastToGo_0 (by decide) ?_
  refine lv_istore_n (lv' := [(2, .int (99)), (0, .ref (gz G + (v0))), (1, .int (v1))]) hx hb dX7_leastToGo_2 rfl hl (by decide) rfl ?_
  clear hl; intro ls hl
  refine lv_iconst (v := 0) hx hb dX7_leastToGo_3 (by decide) ?_
  refine lv_istore_n (lv' := [(3, .int (0)), (2, .int (99)), (0, .ref (gz G + (v0))), (1, .int (v1))]) hx hb dX7_leastToGo_4 rfl hl (by decide) rfl ?_
  clear hl; intro ls hl
  exact bl_X7_leastToGo_L5 X hret FU v0 h0 v1 99 0 h _ _ _ hW (lv_sub hl [2, 3, 1, 0] rfl)
set_option maxRecDepth 20000 in
set_option maxHeartbeats 4000000 in
theorem bl_X7_measureBackward_b38 (X : Cx G p R s m args c cells slots cX7_measureBackward 3 RX7 4) {σ' : St} (hret : R_V G p l e R s m args below meth c cells slots Q cX7_measureBackward σ') {k3 : Nat → Nat → Int32 → St → (Option St)}
    (hk3 : ∀ (v0 : Nat) (h0 : kd v0 = 6) (v1 : Nat) (h1 : kd v1 = 3) (v2 : Int32) (σ : St) (_ : k3 v0 v1 v2 σ = some σ') (H : Heap) (locs : List Loc) (ls : Array Slot) (_ : GW G σ s H locs) (_ : lv_has ls 3 [(0, .ref (gz G + (v0))), (1, .ref (gz G + (v1))), (2, .int (v2))]), W p l e R s m args below meth c H locs cells slots Q (F0 m 3 ls [])) :
    ∀ (v0 : Nat) (h0 : kd v0 = 6) (v1 : Nat) (h1 : kd v1 = 3) (v2 : Int32) (σ : St) (_ : pf_X7_measureBackward_b38 k3 v0 v1 v2 σ = some σ') (H : Heap) (locs : List Loc) (ls : Array Slot) (_ : GW G σ s H locs) (_ : lv_has ls 3 [(0, .ref (gz G + (v0))), (1, .ref (gz G + (v1))), (2, .int (v2))]), W p l e R s m args below meth c H locs cells slots Q (F0 m 38 ls []) := by
  have hx := X.1.1
  have hb := X.1.2.1
  intro v0 h0 v1 h1 v2 σ h H locs ls hW hl
  unfold pf_X7_measureBackward_b38 at h
  refine w_iinc (v := (-1)) (lv' := fun y => [(2, .int (y)), (0, .ref (gz G + (v0))), (1, .ref (gz G + (v1)))]) hx hb dX7_measureBackward_38 hl (k := 2) rfl (by decide) (by decide) (fun _ => rfl) h ?_
  clear h hl; intro v2_1 h ls hl
  refine lv_goto (tgt := 3) hx hb dX7_measureBackward_41 (by decide) ?_
  exact hk3 v0 h0 v1 h1 v2_1 σ h _ _ _ hW (lv_sub hl [1, 2, 0] rfl)
set_option maxRecDepth 20000 in
set_option maxHeartbeats 4000000 in
theorem bl_X7_measureBackward_b37 (X : Cx G p R s m args c cells slots cX7_measureBackward 3 RX7 4) {σ' : St} (hret : R_V G p l e R s m args below meth c cells slots Q cX7_measureBackward σ') {k3 : Nat → Nat → Int32 → St → (Option St)}
    (hk3 : ∀ (v0 : Nat) (h0 : kd v0 = 6) (v1 : Nat) (h1 : kd v1 = 3) (v2 : Int32) (σ : St) (_ : k3 v0 v1 v2 σ = some σ') (H : Heap) (locs : List Loc) (ls : Array Slot) (_ : GW G σ s H locs) (_ : lv_has ls 3 [(0, .ref (gz G + (v0))), (1, .ref (gz G + (v1))), (2, .int (v2))]), W p l e R s m args below meth c H locs cells slots Q (F0 m 3 ls [])) :
    ∀ (v0 : Nat) (h0 : kd v0 = 6) (v1 : Nat) (h1 : kd v1 = 3) (v2 : Int32) (s0 : Nat) (hs0 : kd s0 = 11) (s1 : Int32) (s2 : Int32) (σ : St) (_ : pf_X7_measureBackward_b37 k3 v0 v1 v2 s0 s1 s2 σ = some σ') (H : Heap) (locs : List Loc) (ls : Array Slot) (_ : GW G σ s H locs) (_ : lv_has ls 3 [(0, .ref (gz G + (v0))), (1, .ref (gz G + (v1))), (2, .int (v2))]), W p l e R s m args below meth c H locs cells slots Q (F0 m 37 ls [.int (s2), .int (s1), .ref (gz G + (s0))]) := by
  have hx := X.1.1
  have hb := X.1.2.1
  intro v0 h0 v1 h1 v2 s0 hs0 s1 s2 σ h H locs ls hW hl
  unfold pf_X7_measureBackward_b37 at h
  obtain ⟨hi1, h⟩ := ckI_el h
  refine r_iast X hW hs0 hi1 dX7_measureBackward_37 ?_
  clear hW; intro H locs hW
  refine nm_s hW h ?_
  clear hW h; intro σ_2 hW h
  exact bl_X7_measureBackward_b38 X hret hk3 v0 h0 v1 h1 v2 σ_2 h _ _ _ hW (lv_sub hl [0, 1, 2] rfl)
set_option maxRecDepth 20000 in
set_option maxHeartbeats 4000000 in
theorem bl_X7_measureBackward_L3 (X : Cx G p R s m args c cells slots cX7_measureBackward 3 RX7 4) {σ' : St} (hret : R_V G p l e R s m args below meth c cells slots Q cX7_measureBackward σ') :
    ∀ (n : Nat), ∀ (v0 : Nat) (h0 : kd v0 = 6) (v1 : Nat) (h1 : kd v1 = 3) (v2 : Int32) (σ : St) (_ : pf_X7_measureBackward_L3 n v0 v1 v2 σ = some σ') (H : Heap) (locs : List Loc) (ls : Array Slot) (_ : GW G σ s H locs) (_ : lv_has ls 3 [(0, .ref (gz G + (v0))), (1, .ref (gz G + (v1))), (2, .int (v2))]), W p l e R s m args below meth c H locs cells slots Q (F0 m 3 ls []) := by
  have hx := X.1.1
  have hb := X.1.2.1
  intro n
  induction n with
  | zero => intro v0 h0 v1 h1 v2 σ h H locs ls hW hl; cases h
  | succ n ih =>
    intro v0 h0 v1 h1 v2 σ h H locs ls hW hl
    rw [pf_X7_measureBackward_L3.eq_2] at h
    refine lv_iload_n hx hb dX7_measureBackward_3 rfl (lv_at hl 2 rfl) ?_
    refine lv_if_lt (tgt := 44) hx hb dX7_measureBackward_4 (by decide) (fun hc => ?_) (fun hc => ?_)
    · replace h := if_t hc h
      exact rv_end hret h dX7_measureBackward_44 hW
    · replace h := if_f hc h
      refine lv_aload_n hx hb dX7_measureBackward_7 rfl (lv_at hl 0 rfl) ?_
      refine lv_iload_n hx hb dX7_measureBackward_8 rfl (lv_at hl 2 rfl) ?_
      obtain ⟨r_1, hcl, h⟩ := bind_el h
      refine call_V1 X hW (kC_X7 h0) m_2_195 m_2_197 m_0_3 mv_X7_isReached (c_X7_isReached h0 hcl) (by decide) rfl rfl (Nat.le_of_ble_eq_true rfl) hl.1 dX7_measureBackward_9 ?_
      clear hW hcl; intro H locs hW
      refine lv_if_eq (tgt := 38) hx hb dX7_measureBackward_12 (by decide) (fun hc => ?_) (fun hc => ?_)
      · replace h := if_t hc h
        exact bl_X7_measureBackward_b38 X hret ih v0 h0 v1 h1 v2 σ h _ _ _ hW (lv_sub hl [0, 1, 2] rfl)
      · replace h := if_f hc h
        refine lv_aload_n hx hb dX7_measureBackward_15 rfl (lv_at hl 0 rfl) ?_
        refine gf_X7_toGo X hW h0 m_2_39 dX7_measureBackward_16 ?_
        refine lv_iload_n hx hb dX7_measureBackward_19 rfl (lv_at hl 2 rfl) ?_
        refine lv_aload_n hx hb dX7_measureBackward_20 rfl (lv_at hl 1 rfl) ?_
        refine lv_iload_n hx hb dX7_measureBackward_21 rfl (lv_at hl 2 rfl) ?_
        obtain ⟨r_2, hcl, h⟩ := bind_el h
        refine call_V1 X hW (kC_X3 h1) m_2_199 m_2_200 m_2_201 mv_X3_goalHolds (c_X3_goalHolds h1 hcl) (by decide) rfl rfl (Nat.le_of_ble_eq_true rfl) hl.1 dX7_measureBackward_22 ?_
        clear hW hcl; intro H locs hW
        refine lv_if_eq (tgt := 32) hx hb dX7_measureBackward_25 (by decide) (fun hc => ?_) (fun hc => ?_)
        · replace h := if_t hc h
          refine lv_aload_n hx hb dX7_measureBackward_32 rfl (lv_at hl 0 rfl) ?_
          refine lv_iload_n hx hb dX7_measureBackward_33 rfl (lv_at hl 2 rfl) ?_
          obtain ⟨r_3, hcl, h⟩ := bind_el h
          refine call_V1 X hW (kC_X7 h0) m_2_222 m_2_224 m_0_7 mv_X7_leastToGo (c_X7_leastToGo h0 hcl) (by decide) rfl rfl (Nat.le_of_ble_eq_true rfl) hl.1 dX7_measureBackward_34 ?_
          clear hW hcl; intro H locs hW
          exact bl_X7_measureBackward_b37 X hret ih v0 h0 v1 h1 v2 (v0 + 3) (kf_X7_toGo h0) v2 r_3 σ h _ _ _ hW (lv_sub hl [0, 1, 2] rfl)
        · replace h := if_f hc h
          refine lv_iconst (v := 0) hx hb dX7_measureBackward_28 (by decide) ?_
          refine lv_goto (tgt := 37) hx hb dX7_measureBackward_29 (by decide) ?_
          exact bl_X7_measureBackward_b37 X hret ih v0 h0 v1 h1 v2 (v0 + 3) (kf_X7_toGo h0) v2 0 σ h _ _ _ hW (lv_sub hl [0, 1, 2] rfl)
set_option maxRecDepth 20000 in
set_option maxHeartbeats 4000000 in
theorem c_X7_measureBackward {G : Gt} {l : Launch} {v0 : Nat} (h0 : kd v0 = 6) {v1 : Nat} (h1 : kd v1 = 3) {σ : St} {σ' : St} (hf : pf_X7_measureBackward v0 v1 σ = some σ') : Ct G l yX7_measureBackward cX7_measureBackward 3 none 4 [.ref (gz G + (v0)), .ref (gz G + (v1))] σ none σ' := by
  refine met_v (by decide +kernel) (Nat.le_of_ble_eq_true rfl) rfl ?_
  intro p e s m args below meth c Q ls X hW hret hl
  have hx := X.1.1
  have hb := X.1.2.1
  have hl : lv_has ls 3 [(0, .ref (gz G + (v0))), (1, .ref (gz G + (v1)))] := hl
  have h := hf
  clear hf
  unfold pf_X7_measureBackward at h
  refine lv_bipush (v := 63) hx hb dX7_measureBackward_0 (by decide) ?_
  refine lv_istore_n (lv' := [(2, .int (63)), (0, .ref (gz G + (v0))), (1, .ref (gz G + (v1)))]) hx hb dX7_measureBackward_2 rfl hl (by decide) rfl ?_
  clear hl; intro ls hl
  exact bl_X7_measureBackward_L3 X hret FU v0 h0 v1 h1 63 σ h _ _ _ hW (lv_sub hl [1, 2, 0] rfl)
set_option maxRecDepth 20000 in
set_option maxHeartbeats 4000000 in
theorem bl_X7_explore_b66 (X : Cx G p R s m args c cells slots cX7_explore 4 RX7 6) {r : Int32} {σ' : St} (hret : R_Z G p l e R s m args below meth c cells slots Q cX7_explore r σ') :
    ∀ (v0 : Nat) (h0 : kd v0 = 6) (v1 : Nat) (h1 : kd v1 = 3) (σ : St) (_ : pf_X7_explore_b66 v0 v1 σ = some (r, σ')) (H : Heap) (locs : List Loc) (ls : Array Slot) (_ : GW G σ s H locs) (_ : lv_has ls 4 [(0, .ref (gz G + (v0))), (1, .ref (gz G + (v1)))]), W p l e R s m args below meth c H locs cells slots Q (F0 m 66 ls []) := by
  have hx := X.1.1
  have hb := X.1.2.1
  intro v0 h0 v1 h1 σ h H locs ls hW hl
  unfold pf_X7_explore_b66 at h
  refine lv_aload_n hx hb dX7_explore_66 rfl (lv_at hl 0 rfl) ?_
  refine lv_lconst (v := 1) hx hb dX7_explore_67 (by decide) ?_
  refine lv_aload_n hx hb dX7_explore_68 rfl (lv_at hl 1 rfl) ?_
  refine gf_X3_done X hW h1 m_1_69 dX7_explore_69 ?_
  refine w_lshl hx hb dX7_explore_72 ?_
  refine sf_X7_reached X hW h0 m_2_40 dX7_explore_73 ?_
  clear hW; intro H locs hW
  refine nm_s hW h ?_
  clear hW h; intro σ_1 hW h
  refine lv_aload_n hx hb dX7_explore_76 rfl (lv_at hl 0 rfl) ?_
  refine lv_aload_n hx hb dX7_explore_77 rfl (lv_at hl 1 rfl) ?_
  obtain ⟨σ_2, hcl, h⟩ := bind_el h
  refine call_V0 X hW (kC_X7 h0) m_2_191 m_2_193 m_0_2 mv_X7_goForward (c_X7_goForward h0 h1 hcl) (by decide) rfl rfl (Nat.le_of_ble_eq_true rfl) hl.1 dX7_explore_78 ?_
  clear hW hcl; intro H locs hW
  refine lv_aload_n hx hb dX7_explore_81 rfl (lv_at hl 0 rfl) ?_
  refine lv_aload_n hx hb dX7_explore_82 rfl (lv_at hl 1 rfl) ?_
  obtain ⟨σ_3, hcl, h⟩ := bind_el h
  refine call_V0 X hW (kC_X7 h0) m_2_218 m_2_220 m_0_6 mv_X7_measureBackward (c_X7_measureBackward h0 h1 hcl) (by decide) rfl rfl (Nat.le_of_ble_eq_true rfl) hl.1 dX7_explore_83 ?_
  clear hW hcl; intro H locs hW
  refine lv_aload_n hx hb dX7_explore_86 rfl (lv_at hl 0 rfl) ?_
  refine gf_X7_toGo X hW h0 m_2_39 dX7_explore_87 ?_
  refine lv_aload_n hx hb dX7_explore_90 rfl (lv_at hl 1 rfl) ?_
  refine gf_X3_done X hW h1 m_1_69 dX7_explore_91 ?_
  obtain ⟨r_4, hcl, h⟩ := bind_el h
  refine call_SN1 X hW m_2_187 m_2_178 mv_X10_at (c_X10_at (kf_X7_toGo h0) hcl) (by decide) rfl rfl (Nat.le_of_ble_eq_true rfl) hl.1 dX7_explore_94 ?_
  clear hW hcl; intro H locs hW
  refine lv_bipush (v := 99) hx hb dX7_explore_97 (by decide) ?_
  refine lv_icmp_ge (tgt := 106) hx hb dX7_explore_99 (by decide) (fun hc => ?_) (fun hc => ?_)
  · replace h := if_t hc h
    refine lv_iconst (v := 0) hx hb dX7_explore_106 (by decide) ?_
    exact rz_end hret h (by decide) dX7_explore_107 hW
  · replace h := if_f hc h
    refine lv_iconst (v := 1) hx hb dX7_explore_102 (by decide) ?_
    refine lv_goto (tgt := 107) hx hb dX7_explore_103 (by decide) ?_
    exact rz_end hret h (by decide) dX7_explore_107 hW
set_option maxRecDepth 20000 in
set_option maxHeartbeats 4000000 in
theorem bl_X7_explore_L33 (X : Cx G p R s m args c cells slots cX7_explore 4 RX7 6) {r : Int32} {σ' : St} (hret : R_Z G p l e R s m args below meth c cells slots Q cX7_explore r σ') {k66 : Nat → Nat → St → (Option (Int32 × St))}
    (hk66 : ∀ (v0 : Nat) (h0 : kd v0 = 6) (v1 : Nat) (h1 : kd v1 = 3) (σ : St) (_ : k66 v0 v1 σ = some (r, σ')) (H : Heap) (locs : List Loc) (ls : Array Slot) (_ : GW G σ s H locs) (_ : lv_has ls 4 [(0, .ref (gz G + (v0))), (1, .ref (gz G + (v1)))]), W p l e R s m args below meth c H locs cells slots Q (F0 m 66 ls [])) :
    ∀ (n : Nat), ∀ (v0 : Nat) (h0 : kd v0 = 6) (v1 : Nat) (h1 : kd v1 = 3) (v2 : Nat) (h2 : kd v2 = 11) (v3 : Int32) (σ : St) (_ : pf_X7_explore_L33 k66 n v0 v1 v2 v3 σ = some (r, σ')) (H : Heap) (locs : List Loc) (ls : Array Slot) (_ : GW G σ s H locs) (_ : lv_has ls 4 [(0, .ref (gz G + (v0))), (1, .ref (gz G + (v1))), (2, .ref (gz G + (v2))), (3, .int (v3))]), W p l e R s m args below meth c H locs cells slots Q (F0 m 33 ls []) := by
  have hx := X.1.1
  have hb := X.1.2.1
  intro n
  induction n with
  | zero => intro v0 h0 v1 h1 v2 h2 v3 σ h H locs ls hW hl; cases h
  | succ n ih =>
    intro v0 h0 v1 h1 v2 h2 v3 σ h H locs ls hW hl
    rw [pf_X7_explore_L33.eq_2] at h
    refine lv_iload_n hx hb dX7_explore_33 rfl (lv_at hl 3 rfl) ?_
    refine lv_bipush (v := 8) hx hb dX7_explore_34 (by decide) ?_
    refine lv_icmp_ge (tgt := 66) hx hb dX7_explore_36 (by decide) (fun hc => ?_) (fun hc => ?_)
    · replace h := if_t hc h
      exact hk66 v0 h0 v1 h1 σ h _ _ _ hW (lv_sub hl [0, 1] rfl)
    · replace h := if_f hc h
      refine lv_aload_n hx hb dX7_explore_39 rfl (lv_at hl 0 rfl) ?_
      refine gf_X7_stocks X hW h0 m_2_37 dX7_explore_40 ?_
      refine lv_aload_n hx hb dX7_explore_43 rfl (lv_at hl 1 rfl) ?_
      refine gf_X3_done X hW h1 m_1_69 dX7_explore_44 ?_
      refine lv_bipush (v := 8) hx hb dX7_explore_47 (by decide) ?_
      refine lv_imul hx hb dX7_explore_49 ?_
      refine lv_iload_n hx hb dX7_explore_50 rfl (lv_at hl 3 rfl) ?_
      refine lv_iadd hx hb dX7_explore_51 ?_
      refine lv_aload_n hx hb dX7_explore_52 rfl (lv_at hl 2 rfl) ?_
      refine lv_iload_n hx hb dX7_explore_53 rfl (lv_at hl 3 rfl) ?_
      obtain ⟨r_1, hcl, h⟩ := bind_el h
      refine call_SN1 X hW m_2_187 m_2_178 mv_X10_at (c_X10_at h2 hcl) (by decide) rfl rfl (Nat.le_of_ble_eq_true rfl) hl.1 dX7_explore_54 ?_
      clear hW hcl; intro H locs hW
      obtain ⟨σ_2, hcl, h⟩ := bind_el h
      refine call_SN0 X hW m_2_188 m_2_189 mv_X10_put (c_X10_put (kf_X7_stocks h0) hcl) (by decide) rfl rfl (Nat.le_of_ble_eq_true rfl) hl.1 dX7_explore_57 ?_
      clear hW hcl; intro H locs hW
      refine w_iinc (v := 1) (lv' := fun y => [(3, .int (y)), (0, .ref (gz G + (v0))), (1, .ref (gz G + (v1))), (2, .ref (gz G + (v2)))]) hx hb dX7_explore_60 hl (k := 3) rfl (by decide) (by decide) (fun _ => rfl) h ?_
      clear h hl; intro v3_3 h ls hl
      refine lv_goto (tgt := 33) hx hb dX7_explore_63 (by decide) ?_
      exact ih v0 h0 v1 h1 v2 h2 v3_3 σ_2 h _ _ _ hW (lv_sub hl [1, 2, 3, 0] rfl)
set_option maxRecDepth 20000 in
set_option maxHeartbeats 4000000 in
theorem c_X7_explore {G : Gt} {l : Launch} {v0 : Nat} (h0 : kd v0 = 6) {v1 : Nat} (h1 : kd v1 = 3) {v2 : Nat} (h2 : kd v2 = 11) {σ : St} {r : Int32} {σ' : St} (hf : pf_X7_explore v0 v1 v2 σ = some (r, σ')) : Ct G l yX7_explore cX7_explore 4 (some .boolean) 6 [.ref (gz G + (v0)), .ref (gz G + (v1)), .ref (gz G + (v2))] σ (some (.int r)) σ' := by
  refine met_z (by decide +kernel) (Nat.le_of_ble_eq_true rfl) rfl ?_
  intro p e s m args below meth c Q ls X hW hret hl
  have hx := X.1.1
  have hb := X.1.2.1
  have hl : lv_has ls 4 [(0, .ref (gz G + (v0))), (1, .ref (gz G + (v1))), (2, .ref (gz G + (v2)))] := hl
  have h := hf
  clear hf
  unfold pf_X7_explore at h
  refine lv_aload_n hx hb dX7_explore_0 rfl (lv_at hl 0 rfl) ?_
  refine lv_lconst (v := 0) hx hb dX7_explore_1 (by decide) ?_
  refine sf_X7_reached X hW h0 m_2_40 dX7_explore_2 ?_
  clear hW; intro H locs hW
  refine nm_s hW h ?_
  clear hW h; intro σ_1 hW h
  refine lv_aload_n hx hb dX7_explore_5 rfl (lv_at hl 0 rfl) ?_
  refine gf_X7_stepsToTry X hW h0 m_2_38 dX7_explore_6 ?_
  refine lv_iconst (v := 0) hx hb dX7_explore_9 (by decide) ?_
  obtain ⟨σ_2, hcl, h⟩ := bind_el h
  refine call_S0 X hW m_2_184 m_2_185 mv_J7_fill_53178 (c_J7_fill_53178 (kf_X7_stepsToTry h0) hcl) (by decide) rfl rfl (Nat.le_of_ble_eq_true rfl) hl.1 dX7_explore_10 ?_
  clear hW hcl; intro H locs hW
  refine lv_aload_n hx hb dX7_explore_13 rfl (lv_at hl 0 rfl) ?_
  refine gf_X7_toGo X hW h0 m_2_39 dX7_explore_14 ?_
  refine lv_bipush (v := 99) hx hb dX7_explore_17 (by decide) ?_
  obtain ⟨σ_3, hcl, h⟩ := bind_el h
  refine call_S0 X hW m_2_184 m_2_185 mv_J7_fill_53178 (c_J7_fill_53178 (kf_X7_toGo h0) hcl) (by decide) rfl rfl (Nat.le_of_ble_eq_true rfl) hl.1 dX7_explore_19 ?_
  clear hW hcl; intro H locs hW
  refine lv_aload_n hx hb dX7_explore_22 rfl (lv_at hl 1 rfl) ?_
  refine gf_X3_status X hW h1 m_1_65 dX7_explore_23 ?_
  refine lv_if_eq (tgt := 31) hx hb dX7_explore_26 (by decide) (fun hc => ?_) (fun hc => ?_)
  · replace h := if_t hc h
    refine lv_iconst (v := 0) hx hb dX7_explore_31 (by decide) ?_
    refine lv_istore_n (lv' := [(3, .int (0)), (0, .ref (gz G + (v0))), (1, .ref (gz G + (v1))), (2, .ref (gz G + (v2)))]) hx hb dX7_explore_32 rfl hl (by decide) rfl ?_
    clear hl; intro ls hl
    exact bl_X7_explore_L33 X hret (bl_X7_explore_b66 X hret) FU v0 h0 v1 h1 v2 h2 0 σ_3 h _ _ _ hW (lv_sub hl [1, 2, 3, 0] rfl)
  · replace h := if_f hc h
    refine lv_iconst (v := 0) hx hb dX7_explore_29 (by decide) ?_
    exact rz_end hret h (by decide) dX7_explore_30 hW
set_option maxRecDepth 20000 in
set_option maxHeartbeats 4000000 in
theorem c_X7_lengthOfPlan {G : Gt} {l : Launch} {v0 : Nat} (h0 : kd v0 = 6) {v1 : Nat} (h1 : kd v1 = 3) {σ : St} {r : Int32} (hf : pf_X7_lengthOfPlan v0 v1 σ = some r) : Ct G l yX7_lengthOfPlan cX7_lengthOfPlan 3 (some .int) 3 [.ref (gz G + (v0)), .ref (gz G + (v1))] σ (some (.int r)) σ := by
  refine met_i (by decide +kernel) (Nat.le_of_ble_eq_true rfl) rfl ?_
  intro p e s m args below meth c Q ls X hW hret hl
  have hx := X.1.1
  have hb := X.1.2.1
  have hl : lv_has ls 3 [(0, .ref (gz G + (v0))), (1, .ref (gz G + (v1)))] := hl
  have h := hf
  clear hf
  unfold pf_X7_lengthOfPlan at h
  refine lv_aload_n hx hb dX7_lengthOfPlan_0 rfl (lv_at hl 0 rfl) ?_
  refine gf_X7_toGo X hW h0 m_2_39 dX7_lengthOfPlan_1 ?_
  refine lv_aload_n hx hb dX7_lengthOfPlan_4 rfl (lv_at hl 1 rfl) ?_
  refine gf_X3_done X hW h1 m_1_69 dX7_lengthOfPlan_5 ?_
  obtain ⟨r_1, hcl, h⟩ := bind_el h
  refine call_SN1 X hW m_2_187 m_2_178 mv_X10_at (c_X10_at (kf_X7_toGo h0) hcl) (by decide) rfl rfl (Nat.le_of_ble_eq_true rfl) hl.1 dX7_lengthOfPlan_8 ?_
  clear hW hcl; intro H locs hW
  refine lv_istore_n (lv' := [(2, .int (r_1)), (0, .ref (gz G + (v0))), (1, .ref (gz G + (v1)))]) hx hb dX7_lengthOfPlan_11 rfl hl (by decide) rfl ?_
  clear hl; intro ls hl
  refine lv_iload_n hx hb dX7_lengthOfPlan_12 rfl (lv_at hl 0 rfl) ?_
  refine lv_bipush (v := 99) hx hb dX7_lengthOfPlan_13 (by decide) ?_
  refine lv_icmp_ge (tgt := 22) hx hb dX7_lengthOfPlan_15 (by decide) (fun hc => ?_) (fun hc => ?_)
  · replace h := if_t hc h
    refine lv_iconst (v := (-1)) hx hb dX7_lengthOfPlan_22 (by decide) ?_
    exact ri_end0 hret h dX7_lengthOfPlan_23 hW
  · replace h := if_f hc h
    refine lv_iload_n hx hb dX7_lengthOfPlan_18 rfl (lv_at hl 0 rfl) ?_
    refine lv_goto (tgt := 23) hx hb dX7_lengthOfPlan_19 (by decide) ?_
    exact ri_end0 hret h dX7_lengthOfPlan_23 hW
set_option maxRecDepth 20000 in
set_option maxHeartbeats 4000000 in
theorem bl_X7_nextOfPlan_b60 {σ : St} (X : Cx G p R s m args c cells slots cX7_nextOfPlan 4 RX7 3) {r : Int32} (hret : R_I G p l e R s m args below meth c cells slots Q cX7_nextOfPlan r σ) {k2 : Nat → Int32 → Int32 → (Option (Int32))}
    (hk2 : ∀ (v0 : Nat) (h0 : kd v0 = 6) (v1 : Int32) (v2 : Int32) (_ : k2 v0 v1 v2 = some r) (H : Heap) (locs : List Loc) (ls : Array Slot) (_ : GW G σ s H locs) (_ : lv_has ls 4 [(0, .ref (gz G + (v0))), (1, .int (v1)), (2, .int (v2))]), W p l e R s m args below meth c H locs cells slots Q (F0 m 2 ls [])) :
    ∀ (v0 : Nat) (h0 : kd v0 = 6) (v1 : Int32) (v2 : Int32) (_ : pf_X7_nextOfPlan_b60 σ k2 v0 v1 v2 = some r) (H : Heap) (locs : List Loc) (ls : Array Slot) (_ : GW G σ s H locs) (_ : lv_has ls 4 [(0, .ref (gz G + (v0))), (1, .int (v1)), (2, .int (v2))]), W p l e R s m args below meth c H locs cells slots Q (F0 m 60 ls []) := by
  have hx := X.1.1
  have hb := X.1.2.1
  intro v0 h0 v1 v2 h H locs ls hW hl
  unfold pf_X7_nextOfPlan_b60 at h
  refine w_iinc (v := 1) (lv' := fun y => [(2, .int (y)), (0, .ref (gz G + (v0))), (1, .int (v1))]) hx hb dX7_nextOfPlan_60 hl (k := 2) rfl (by decide) (by decide) (fun _ => rfl) h ?_
  clear h hl; intro v2_1 h ls hl
  refine lv_goto (tgt := 2) hx hb dX7_nextOfPlan_63 (by decide) ?_
  exact hk2 v0 h0 v1 v2_1 h _ _ _ hW (lv_sub hl [1, 2, 0] rfl)
set_option maxRecDepth 20000 in
set_option maxHeartbeats 4000000 in
theorem bl_X7_nextOfPlan_b28 {σ : St} (X : Cx G p R s m args c cells slots cX7_nextOfPlan 4 RX7 3) {r : Int32} (hret : R_I G p l e R s m args below meth c cells slots Q cX7_nextOfPlan r σ) {k2 : Nat → Int32 → Int32 → (Option (Int32))}
    (hk2 : ∀ (v0 : Nat) (h0 : kd v0 = 6) (v1 : Int32) (v2 : Int32) (_ : k2 v0 v1 v2 = some r) (H : Heap) (locs : List Loc) (ls : Array Slot) (_ : GW G σ s H locs) (_ : lv_has ls 4 [(0, .ref (gz G + (v0))), (1, .int (v1)), (2, .int (v2))]), W p l e R s m args below meth c H locs cells slots Q (F0 m 2 ls [])) :
    ∀ (v0 : Nat) (h0 : kd v0 = 6) (v1 : Int32) (v2 : Int32) (s0 : Int32) (_ : pf_X7_nextOfPlan_b28 σ k2 v0 v1 v2 s0 = some r) (H : Heap) (locs : List Loc) (ls : Array Slot) (_ : GW G σ s H locs) (_ : lv_has ls 4 [(0, .ref (gz G + (v0))), (1, .int (v1)), (2, .int (v2))]), W p l e R s m args below meth c H locs cells slots Q (F0 m 28 ls [.int (s0)]) := by
  have hx := X.1.1
  have hb := X.1.2.1
  intro v0 h0 v1 v2 s0 h H locs ls hW hl
  unfold pf_X7_nextOfPlan_b28 at h
  refine lv_istore_n (lv' := [(3, .int (s0)), (0, .ref (gz G + (v0))), (1, .int (v1)), (2, .int (v2))]) hx hb dX7_nextOfPlan_28 rfl hl (by decide) rfl ?_
  clear hl; intro ls hl
  refine lv_iload_n hx hb dX7_nextOfPlan_29 rfl (lv_at hl 0 rfl) ?_
  refine lv_if_eq (tgt := 60) hx hb dX7_nextOfPlan_30 (by decide) (fun hc => ?_) (fun hc => ?_)
  · replace h := if_t hc h
    exact bl_X7_nextOfPlan_b60 X hret hk2 v0 h0 v1 v2 h _ _ _ hW (lv_sub hl [1, 2, 3] rfl)
  · replace h := if_f hc h
    refine lv_aload_n hx hb dX7_nextOfPlan_33 rfl (lv_at hl 1 rfl) ?_
    refine gf_X7_toGo X hW h0 m_2_39 dX7_nextOfPlan_34 ?_
    refine lv_iload_n hx hb dX7_nextOfPlan_37 rfl (lv_at hl 2 rfl) ?_
    refine lv_iconst (v := 1) hx hb dX7_nextOfPlan_38 (by decide) ?_
    refine lv_iload_n hx hb dX7_nextOfPlan_39 rfl (lv_at hl 3 rfl) ?_
    refine w_ishl hx hb dX7_nextOfPlan_40 ?_
    refine lv_ior hx hb dX7_nextOfPlan_41 ?_
    obtain ⟨r_1, hcl, h⟩ := bind_el h
    refine call_SN1 X hW m_2_187 m_2_178 mv_X10_at (c_X10_at (kf_X7_toGo h0) hcl) (by decide) rfl rfl (Nat.le_of_ble_eq_true rfl) hl.1 dX7_nextOfPlan_42 ?_
    clear hW hcl; intro H locs hW
    refine lv_aload_n hx hb dX7_nextOfPlan_45 rfl (lv_at hl 1 rfl) ?_
    refine gf_X7_toGo X hW h0 m_2_39 dX7_nextOfPlan_46 ?_
    refine lv_iload_n hx hb dX7_nextOfPlan_49 rfl (lv_at hl 2 rfl) ?_
    obtain ⟨r_2, hcl, h⟩ := bind_el h
    refine call_SN1 X hW m_2_187 m_2_178 mv_X10_at (c_X10_at (kf_X7_toGo h0) hcl) (by decide) rfl rfl (Nat.le_of_ble_eq_true rfl) hl.1 dX7_nextOfPlan_50 ?_
    clear hW hcl; intro H locs hW
    refine lv_iconst (v := 1) hx hb dX7_nextOfPlan_53 (by decide) ?_
    refine lv_isub hx hb dX7_nextOfPlan_54 ?_
    refine lv_icmp_ne (tgt := 60) hx hb dX7_nextOfPlan_55 (by decide) (fun hc => ?_) (fun hc => ?_)
    · replace h := if_f hc h
      exact bl_X7_nextOfPlan_b60 X hret hk2 v0 h0 v1 v2 h _ _ _ hW (lv_sub hl [1, 2, 3] rfl)
    · replace h := if_t hc h
      refine lv_iload_n hx hb dX7_nextOfPlan_58 rfl (lv_at hl 3 rfl) ?_
      exact ri_end0 hret h dX7_nextOfPlan_59 hW
set_option maxRecDepth 20000 in
set_option maxHeartbeats 4000000 in
theorem bl_X7_nextOfPlan_L2 {σ : St} (X : Cx G p R s m args c cells slots cX7_nextOfPlan 4 RX7 3) {r : Int32} (hret : R_I G p l e R s m args below meth c cells slots Q cX7_nextOfPlan r σ) :
    ∀ (n : Nat), ∀ (v0 : Nat) (h0 : kd v0 = 6) (v1 : Int32) (v2 : Int32) (_ : pf_X7_nextOfPlan_L2 σ n v0 v1 v2 = some r) (H : Heap) (locs : List Loc) (ls : Array Slot) (_ : GW G σ s H locs) (_ : lv_has ls 4 [(0, .ref (gz G + (v0))), (1, .int (v1)), (2, .int (v2))]), W p l e R s m args below meth c H locs cells slots Q (F0 m 2 ls []) := by
  have hx := X.1.1
  have hb := X.1.2.1
  intro n
  induction n with
  | zero => intro v0 h0 v1 v2 h H locs ls hW hl; cases h
  | succ n ih =>
    intro v0 h0 v1 v2 h H locs ls hW hl
    rw [pf_X7_nextOfPlan_L2.eq_2] at h
    refine lv_iload_n hx hb dX7_nextOfPlan_2 rfl (lv_at hl 2 rfl) ?_
    refine lv_bipush (v := 6) hx hb dX7_nextOfPlan_3 (by decide) ?_
    refine lv_icmp_ge (tgt := 66) hx hb dX7_nextOfPlan_5 (by decide) (fun hc => ?_) (fun hc => ?_)
    · replace h := if_t hc h
      refine lv_iconst (v := 0) hx hb dX7_nextOfPlan_66 (by decide) ?_
      exact ri_end0 hret h dX7_nextOfPlan_67 hW
    · replace h := if_f hc h
      refine lv_aload_n hx hb dX7_nextOfPlan_8 rfl (lv_at hl 0 rfl) ?_
      refine gf_X7_stepsToTry X hW h0 m_2_38 dX7_nextOfPlan_9 ?_
      refine lv_iload_n hx hb dX7_nextOfPlan_12 rfl (lv_at hl 1 rfl) ?_
      obtain ⟨r_1, hcl, h⟩ := bind_el h
      refine call_SN1 X hW m_2_187 m_2_178 mv_X10_at (c_X10_at (kf_X7_stepsToTry h0) hcl) (by decide) rfl rfl (Nat.le_of_ble_eq_true rfl) hl.1 dX7_nextOfPlan_13 ?_
      clear hW hcl; intro H locs hW
      refine lv_iload_n hx hb dX7_nextOfPlan_16 rfl (lv_at hl 2 rfl) ?_
      refine w_iushr hx hb dX7_nextOfPlan_17 ?_
      refine lv_iconst (v := 1) hx hb dX7_nextOfPlan_18 (by decide) ?_
      refine lv_iand hx hb dX7_nextOfPlan_19 ?_
      refine lv_if_eq (tgt := 27) hx hb dX7_nextOfPlan_20 (by decide) (fun hc => ?_) (fun hc => ?_)
      · replace h := if_t hc h
        refine lv_iconst (v := 0) hx hb dX7_nextOfPlan_27 (by decide) ?_
        exact bl_X7_nextOfPlan_b28 X hret ih v0 h0 v1 v2 0 h _ _ _ hW (lv_sub hl [0, 1, 2] rfl)
      · replace h := if_f hc h
        refine lv_iconst (v := 1) hx hb dX7_nextOfPlan_23 (by decide) ?_
        refine lv_goto (tgt := 28) hx hb dX7_nextOfPlan_24 (by decide) ?_
        exact bl_X7_nextOfPlan_b28 X hret ih v0 h0 v1 v2 1 h _ _ _ hW (lv_sub hl [0, 1, 2] rfl)
set_option maxRecDepth 20000 in
set_option maxHeartbeats 4000000 in
theorem c_X7_nextOfPlan {G : Gt} {l : Launch} {v0 : Nat} (h0 : kd v0 = 6) {v1 : Int32} {σ : St} {r : Int32} (hf : pf_X7_nextOfPlan v0 v1 σ = some r) : Ct G l yX7_nextOfPlan cX7_nextOfPlan 4 (some .int) 3 [.ref (gz G + (v0)), .int (v1)] σ (some (.int r)) σ := by
  refine met_i (by decide +kernel) (Nat.le_of_ble_eq_true rfl) rfl ?_
  intro p e s m args below meth c Q ls X hW hret hl
  have hx := X.1.1
  have hb := X.1.2.1
  have hl : lv_has ls 4 [(0, .ref (gz G + (v0))), (1, .int (v1))] := hl
  have h := hf
  clear hf
  unfold pf_X7_nextOfPlan at h
  refine lv_iconst (v := 0) hx hb dX7_nextOfPlan_0 (by decide) ?_
  refine lv_istore_n (lv' := [(2, .int (0)), (0, .ref (gz G + (v0))), (1, .int (v1))]) hx hb dX7_nextOfPlan_1 rfl hl (by decide) rfl ?_
  clear hl; intro ls hl
  exact bl_X7_nextOfPlan_L2 X hret FU v0 h0 v1 0 h _ _ _ hW (lv_sub hl [1, 2, 0] rfl)
set_option maxRecDepth 20000 in
set_option maxHeartbeats 4000000 in
theorem bl_X7_setBehindPlan_L8 {σ : St} (X : Cx G p R s m args c cells slots cX7_setBehindPlan 5 RX7 4) {r : Int32} (hret : R_I G p l e R s m args below meth c cells slots Q cX7_setBehindPlan r σ) :
    ∀ (n : Nat), ∀ (v0 : Nat) (h0 : kd v0 = 6) (v2 : Int32) (v3 : Int32) (v4 : Int32) (_ : pf_X7_setBehindPlan_L8 σ n v0 v2 v3 v4 = some r) (H : Heap) (locs : List Loc) (ls : Array Slot) (_ : GW G σ s H locs) (_ : lv_has ls 5 [(0, .ref (gz G + (v0))), (2, .int (v2)), (3, .int (v3)), (4, .int (v4))]), W p l e R s m args below meth c H locs cells slots Q (F0 m 8 ls []) := by
  have hx := X.1.1
  have hb := X.1.2.1
  intro n
  induction n with
  | zero => intro v0 h0 v2 v3 v4 h H locs ls hW hl; cases h
  | succ n ih =>
    intro v0 h0 v2 v3 v4 h H locs ls hW hl
    rw [pf_X7_setBehindPlan_L8.eq_2] at h
    refine lv_iload hx hb dX7_setBehindPlan_8 (lv_at hl 3 rfl) ?_
    refine lv_iload_n hx hb dX7_setBehindPlan_10 rfl (lv_at hl 1 rfl) ?_
    refine lv_icmp_ge (tgt := 30) hx hb dX7_setBehindPlan_11 (by decide) (fun hc => ?_) (fun hc => ?_)
    · replace h := if_t hc h
      refine lv_iload_n hx hb dX7_setBehindPlan_30 rfl (lv_at hl 2 rfl) ?_
      exact ri_end0 hret h dX7_setBehindPlan_31 hW
    · replace h := if_f hc h
      refine lv_iload_n hx hb dX7_setBehindPlan_14 rfl (lv_at hl 2 rfl) ?_
      refine lv_iconst (v := 1) hx hb dX7_setBehindPlan_15 (by decide) ?_
      refine lv_aload_n hx hb dX7_setBehindPlan_16 rfl (lv_at hl 0 rfl) ?_
      refine lv_iload_n hx hb dX7_setBehindPlan_17 rfl (lv_at hl 2 rfl) ?_
      obtain ⟨r_1, hcl, h⟩ := bind_el h
      refine call_V1 X hW (kC_X7 h0) m_4_218 m_4_219 m_4_220 mv_X7_nextOfPlan (c_X7_nextOfPlan h0 hcl) (by decide) rfl rfl (Nat.le_of_ble_eq_true rfl) hl.1 dX7_setBehindPlan_18 ?_
      clear hW hcl; intro H locs hW
      refine w_ishl hx hb dX7_setBehindPlan_21 ?_
      refine lv_ior hx hb dX7_setBehindPlan_22 ?_
      refine nm_i h ?_
      clear h; intro v3_2 h
      refine lv_istore_n (lv' := [(3, .int (v3_2)), (0, .ref (gz G + (v0))), (2, .int (v2)), (4, .int (v4))]) hx hb dX7_setBehindPlan_23 rfl hl (by decide) rfl ?_
      clear hl; intro ls hl
      refine w_iinc (v := 1) (lv' := fun y => [(4, .int (y)), (3, .int (v3_2)), (0, .ref (gz G + (v0))), (2, .int (v2))]) hx hb dX7_setBehindPlan_24 hl (k := 3) rfl (by decide) (by decide) (fun _ => rfl) h ?_
      clear h hl; intro v4_3 h ls hl
      refine lv_goto (tgt := 8) hx hb dX7_setBehindPlan_27 (by decide) ?_
      exact ih v0 h0 v2 v3_2 v4_3 h _ _ _ hW (lv_sub hl [2, 3, 1, 0] rfl)
set_option maxRecDepth 20000 in
set_option maxHeartbeats 4000000 in
theorem c_X7_setBehindPlan {G : Gt} {l : Launch} {v0 : Nat} (h0 : kd v0 = 6) {v1 : Nat} (h1 : kd v1 = 3) {v2 : Int32} {σ : St} {r : Int32} (hf : pf_X7_setBehindPlan v0 v1 v2 σ = some r) : Ct G l yX7_setBehindPlan cX7_setBehindPlan 5 (some .int) 4 [.ref (gz G + (v0)), .ref (gz G + (v1)), .int (v2)] σ (some (.int r)) σ := by
  refine met_i (by decide +kernel) (Nat.le_of_ble_eq_true rfl) rfl ?_
  intro p e s m args below meth c Q ls X hW hret hl
  have hx := X.1.1
  have hb := X.1.2.1
  have hl : lv_has ls 5 [(0, .ref (gz G + (v0))), (1, .ref (gz G + (v1))), (2, .int (v2))] := hl
  have h := hf
  clear hf
  unfold pf_X7_setBehindPlan at h
  refine lv_aload_n hx hb dX7_setBehindPlan_0 rfl (lv_at hl 1 rfl) ?_
  refine gf_X3_done X hW h1 m_1_69 dX7_setBehindPlan_1 ?_
  refine nm_i h ?_
  clear h; intro v3_1 h
  refine lv_istore_n (lv' := [(3, .int (v3_1)), (0, .ref (gz G + (v0))), (1, .ref (gz G + (v1))), (2, .int (v2))]) hx hb dX7_setBehindPlan_4 rfl hl (by decide) rfl ?_
  clear hl; intro ls hl
  refine lv_iconst (v := 0) hx hb dX7_setBehindPlan_5 (by decide) ?_
  refine lv_istore (lv' := [(4, .int (0)), (3, .int (v3_1)), (0, .ref (gz G + (v0))), (1, .ref (gz G + (v1))), (2, .int (v2))]) hx hb dX7_setBehindPlan_6 hl (by decide) rfl ?_
  clear hl; intro ls hl
  exact bl_X7_setBehindPlan_L8 X hret FU v0 h0 v2 v3_1 0 h _ _ _ hW (lv_sub hl [2, 4, 1, 0] rfl)
set_option maxRecDepth 20000 in
set_option maxHeartbeats 4000000 in
theorem c_X7_riskOfPlan {G : Gt} {l : Launch} {v0 : Nat} (h0 : kd v0 = 6) {v1 : Nat} (h1 : kd v1 = 3) {σ : St} {r : Int32} (hf : pf_X7_riskOfPlan v0 v1 σ = some r) : Ct G l yX7_riskOfPlan cX7_riskOfPlan 2 (some .int) 5 [.ref (gz G + (v0)), .ref (gz G + (v1))] σ (some (.int r)) σ := by
  refine met_i (by decide +kernel) (Nat.le_of_ble_eq_true rfl) rfl ?_
  intro p e s m args below meth c Q ls X hW hret hl
  have hx := X.1.1
  have hb := X.1.2.1
  have hl : lv_has ls 2 [(0, .ref (gz G + (v0))), (1, .ref (gz G + (v1)))] := hl
  have h := hf
  clear hf
  unfold pf_X7_riskOfPlan at h
  refine lv_aload_n hx hb dX7_riskOfPlan_0 rfl (lv_at hl 1 rfl) ?_
  refine lv_aload_n hx hb dX7_riskOfPlan_1 rfl (lv_at hl 0 rfl) ?_
  refine lv_aload_n hx hb dX7_riskOfPlan_2 rfl (lv_at hl 1 rfl) ?_
  refine lv_aload_n hx hb dX7_riskOfPlan_3 rfl (lv_at hl 0 rfl) ?_
  refine lv_aload_n hx hb dX7_riskOfPlan_4 rfl (lv_at hl 1 rfl) ?_
  obtain ⟨r_1, hcl, h⟩ := bind_el h
  refine call_V1 X hW (kC_X7 h0) m_4_213 m_4_180 m_4_181 mv_X7_lengthOfPlan (c_X7_lengthOfPlan h0 h1 hcl) (by decide) rfl rfl (Nat.le_of_ble_eq_true rfl) hl.1 dX7_riskOfPlan_5 ?_
  clear hW hcl; intro H locs hW
  obtain ⟨r_2, hcl, h⟩ := bind_el h
  refine call_V1 X hW (kC_X7 h0) m_4_214 m_4_215 m_4_216 mv_X7_setBehindPlan (c_X7_setBehindPlan h0 h1 hcl) (by decide) rfl rfl (Nat.le_of_ble_eq_true rfl) hl.1 dX7_riskOfPlan_8 ?_
  clear hW hcl; intro H locs hW
  refine lv_aload_n hx hb dX7_riskOfPlan_11 rfl (lv_at hl 1 rfl) ?_
  refine gf_X3_done X hW h1 m_1_69 dX7_riskOfPlan_12 ?_
  refine lv_iconst (v := (-1)) hx hb dX7_riskOfPlan_15 (by decide) ?_
  refine lv_ixor hx hb dX7_riskOfPlan_16 ?_
  refine lv_iand hx hb dX7_riskOfPlan_17 ?_
  obtain ⟨r_3, hcl, h⟩ := bind_el h
  refine call_V1 X hW (kC_X3 h1) m_4_191 m_4_192 m_4_193 mv_X3_riskOf (c_X3_riskOf h1 hcl) (by decide) rfl rfl (Nat.le_of_ble_eq_true rfl) hl.1 dX7_riskOfPlan_18 ?_
  clear hW hcl; intro H locs hW
  exact ri_end0 hret h dX7_riskOfPlan_21 hW
set_option maxRecDepth 20000 in
set_option maxHeartbeats 4000000 in
theorem bl_X7_smallestRisk_b56 {σ : St} (X : Cx G p R s m args c cells slots cX7_smallestRisk 5 RX7 4) {r : Int32} (hret : R_I G p l e R s m args below meth c cells slots Q cX7_smallestRisk r σ) {k4 : Nat → Nat → Int32 → Int32 → (Option (Int32))}
    (hk4 : ∀ (v0 : Nat) (h0 : kd v0 = 6) (v1 : Nat) (h1 : kd v1 = 3) (v2 : Int32) (v3 : Int32) (_ : k4 v0 v1 v2 v3 = some r) (H : Heap) (locs : List Loc) (ls : Array Slot) (_ : GW G σ s H locs) (_ : lv_has ls 5 [(0, .ref (gz G + (v0))), (1, .ref (gz G + (v1))), (2, .int (v2)), (3, .int (v3))]), W p l e R s m args below meth c H locs cells slots Q (F0 m 4 ls [])) :
    ∀ (v0 : Nat) (h0 : kd v0 = 6) (v1 : Nat) (h1 : kd v1 = 3) (v2 : Int32) (v3 : Int32) (_ : pf_X7_smallestRisk_b56 σ k4 v0 v1 v2 v3 = some r) (H : Heap) (locs : List Loc) (ls : Array Slot) (_ : GW G σ s H locs) (_ : lv_has ls 5 [(0, .ref (gz G + (v0))), (1, .ref (gz G + (v1))), (2, .int (v2)), (3, .int (v3))]), W p l e R s m args below meth c H locs cells slots Q (F0 m 56 ls []) := by
  have hx := X.1.1
  have hb := X.1.2.1
  intro v0 h0 v1 h1 v2 v3 h H locs ls hW hl
  unfold pf_X7_smallestRisk_b56 at h
  refine w_iinc (v := 1) (lv' := fun y => [(3, .int (y)), (0, .ref (gz G + (v0))), (1, .ref (gz G + (v1))), (2, .int (v2))]) hx hb dX7_smallestRisk_56 hl (k := 3) rfl (by decide) (by decide) (fun _ => rfl) h ?_
  clear h hl; intro v3_1 h ls hl
  refine lv_goto (tgt := 4) hx hb dX7_smallestRisk_59 (by decide) ?_
  exact hk4 v0 h0 v1 h1 v2 v3_1 h _ _ _ hW (lv_sub hl [1, 2, 3, 0] rfl)
set_option maxRecDepth 20000 in
set_option maxHeartbeats 4000000 in
theorem bl_X7_smallestRisk_b55 {σ : St} (X : Cx G p R s m args c cells slots cX7_smallestRisk 5 RX7 4) {r : Int32} (hret : R_I G p l e R s m args below meth c cells slots Q cX7_smallestRisk r σ) {k4 : Nat → Nat → Int32 → Int32 → (Option (Int32))}
    (hk4 : ∀ (v0 : Nat) (h0 : kd v0 = 6) (v1 : Nat) (h1 : kd v1 = 3) (v2 : Int32) (v3 : Int32) (_ : k4 v0 v1 v2 v3 = some r) (H : Heap) (locs : List Loc) (ls : Array Slot) (_ : GW G σ s H locs) (_ : lv_has ls 5 [(0, .ref (gz G + (v0))), (1, .ref (gz G + (v1))), (2, .int (v2)), (3, .int (v3))]), W p l e R s m args below meth c H locs cells slots Q (F0 m 4 ls [])) :
    ∀ (v0 : Nat) (h0 : kd v0 = 6) (v1 : Nat) (h1 : kd v1 = 3) (v3 : Int32) (s0 : Int32) (_ : pf_X7_smallestRisk_b55 σ k4 v0 v1 v3 s0 = some r) (H : Heap) (locs : List Loc) (ls : Array Slot) (_ : GW G σ s H locs) (_ : lv_has ls 5 [(0, .ref (gz G + (v0))), (1, .ref (gz G + (v1))), (3, .int (v3))]), W p l e R s m args below meth c H locs cells slots Q (F0 m 55 ls [.int (s0)]) := by
  have hx := X.1.1
  have hb := X.1.2.1
  intro v0 h0 v1 h1 v3 s0 h H locs ls hW hl
  unfold pf_X7_smallestRisk_b55 at h
  refine lv_istore_n (lv' := [(2, .int (s0)), (0, .ref (gz G + (v0))), (1, .ref (gz G + (v1))), (3, .int (v3))]) hx hb dX7_smallestRisk_55 rfl hl (by decide) rfl ?_
  clear hl; intro ls hl
  exact bl_X7_smallestRisk_b56 X hret hk4 v0 h0 v1 h1 s0 v3 h _ _ _ hW (lv_sub hl [1, 2, 0, 3] rfl)
set_option maxRecDepth 20000 in
set_option maxHeartbeats 4000000 in
theorem bl_X7_smallestRisk_L4 {σ : St} (X : Cx G p R s m args c cells slots cX7_smallestRisk 5 RX7 4) {r : Int32} (hret : R_I G p l e R s m args below meth c cells slots Q cX7_smallestRisk r σ) :
    ∀ (n : Nat), ∀ (v0 : Nat) (h0 : kd v0 = 6) (v1 : Nat) (h1 : kd v1 = 3) (v2 : Int32) (v3 : Int32) (_ : pf_X7_smallestRisk_L4 σ n v0 v1 v2 v3 = some r) (H : Heap) (locs : List Loc) (ls : Array Slot) (_ : GW G σ s H locs) (_ : lv_has ls 5 [(0, .ref (gz G + (v0))), (1, .ref (gz G + (v1))), (2, .int (v2)), (3, .int (v3))]), W p l e R s m args below meth c H locs cells slots Q (F0 m 4 ls []) := by
  have hx := X.1.1
  have hb := X.1.2.1
  intro n
  induction n with
  | zero => intro v0 h0 v1 h1 v2 v3 h H locs ls hW hl; cases h
  | succ n ih =>
    intro v0 h0 v1 h1 v2 v3 h H locs ls hW hl
    rw [pf_X7_smallestRisk_L4.eq_2] at h
    refine lv_iload_n hx hb dX7_smallestRisk_4 rfl (lv_at hl 3 rfl) ?_
    refine lv_bipush (v := 64) hx hb dX7_smallestRisk_5 (by decide) ?_
    refine lv_icmp_ge (tgt := 62) hx hb dX7_smallestRisk_7 (by decide) (fun hc => ?_) (fun hc => ?_)
    · replace h := if_t hc h
      refine lv_iload_n hx hb dX7_smallestRisk_62 rfl (lv_at hl 2 rfl) ?_
      exact ri_end0 hret h dX7_smallestRisk_63 hW
    · replace h := if_f hc h
      refine lv_aload_n hx hb dX7_smallestRisk_10 rfl (lv_at hl 0 rfl) ?_
      refine lv_iload_n hx hb dX7_smallestRisk_11 rfl (lv_at hl 3 rfl) ?_
      obtain ⟨r_1, hcl, h⟩ := bind_el h
      refine call_V1 X hW (kC_X7 h0) m_2_195 m_2_197 m_0_3 mv_X7_isReached (c_X7_isReached h0 hcl) (by decide) rfl rfl (Nat.le_of_ble_eq_true rfl) hl.1 dX7_smallestRisk_12 ?_
      clear hW hcl; intro H locs hW
      refine lv_if_eq (tgt := 56) hx hb dX7_smallestRisk_15 (by decide) (fun hc => ?_) (fun hc => ?_)
      · replace h := if_t hc h
        exact bl_X7_smallestRisk_b56 X hret ih v0 h0 v1 h1 v2 v3 h _ _ _ hW (lv_sub hl [0, 1, 2, 3] rfl)
      · replace h := if_f hc h
        refine lv_aload_n hx hb dX7_smallestRisk_18 rfl (lv_at hl 1 rfl) ?_
        refine lv_iload_n hx hb dX7_smallestRisk_19 rfl (lv_at hl 3 rfl) ?_
        obtain ⟨r_2, hcl, h⟩ := bind_el h
        refine call_V1 X hW (kC_X3 h1) m_2_199 m_2_200 m_2_201 mv_X3_goalHolds (c_X3_goalHolds h1 hcl) (by decide) rfl rfl (Nat.le_of_ble_eq_true rfl) hl.1 dX7_smallestRisk_20 ?_
        clear hW hcl; intro H locs hW
        refine lv_if_eq (tgt := 56) hx hb dX7_smallestRisk_23 (by decide) (fun hc => ?_) (fun hc => ?_)
        · replace h := if_t hc h
          exact bl_X7_smallestRisk_b56 X hret ih v0 h0 v1 h1 v2 v3 h _ _ _ hW (lv_sub hl [0, 1, 2, 3] rfl)
        · replace h := if_f hc h
          refine lv_aload_n hx hb dX7_smallestRisk_26 rfl (lv_at hl 1 rfl) ?_
          refine lv_iload_n hx hb dX7_smallestRisk_27 rfl (lv_at hl 3 rfl) ?_
          refine lv_aload_n hx hb dX7_smallestRisk_28 rfl (lv_at hl 1 rfl) ?_
          refine gf_X3_done X hW h1 m_1_69 dX7_smallestRisk_29 ?_
          refine lv_iconst (v := (-1)) hx hb dX7_smallestRisk_32 (by decide) ?_
          refine lv_ixor hx hb dX7_smallestRisk_33 ?_
          refine lv_iand hx hb dX7_smallestRisk_34 ?_
          obtain ⟨r_3, hcl, h⟩ := bind_el h
          refine call_V1 X hW (kC_X3 h1) m_4_191 m_4_192 m_4_193 mv_X3_riskOf (c_X3_riskOf h1 hcl) (by decide) rfl rfl (Nat.le_of_ble_eq_true rfl) hl.1 dX7_smallestRisk_35 ?_
          clear hW hcl; intro H locs hW
          refine lv_istore (lv' := [(4, .int (r_3)), (0, .ref (gz G + (v0))), (1, .ref (gz G + (v1))), (2, .int (v2)), (3, .int (v3))]) hx hb dX7_smallestRisk_38 hl (by decide) rfl ?_
          clear hl; intro ls hl
          refine lv_iload_n hx hb dX7_smallestRisk_40 rfl (lv_at hl 3 rfl) ?_
          refine lv_if_ge (tgt := 49) hx hb dX7_smallestRisk_41 (by decide) (fun hc => ?_) (fun hc => ?_)
          · replace h := if_t hc h
            refine lv_iload_n hx hb dX7_smallestRisk_49 rfl (lv_at hl 3 rfl) ?_
            refine lv_iload hx hb dX7_smallestRisk_50 (lv_at hl 0 rfl) ?_
            obtain ⟨r_4, hcl, h⟩ := bind_el h
            refine call_S1 X hW m_2_226 m_2_227 mv_J9_min_7cf53 (c_J9_min_7cf53 hcl) (by decide) rfl rfl (Nat.le_of_ble_eq_true rfl) hl.1 dX7_smallestRisk_52 ?_
            clear hW hcl; intro H locs hW
            exact bl_X7_smallestRisk_b55 X hret ih v0 h0 v1 h1 v3 r_4 h _ _ _ hW (lv_sub hl [1, 2, 4] rfl)
          · replace h := if_f hc h
            refine lv_iload hx hb dX7_smallestRisk_44 (lv_at hl 0 rfl) ?_
            refine lv_goto (tgt := 55) hx hb dX7_smallestRisk_46 (by decide) ?_
            exact bl_X7_smallestRisk_b55 X hret ih v0 h0 v1 h1 v3 r_3 h _ _ _ hW (lv_sub hl [1, 2, 4] rfl)
set_option maxRecDepth 20000 in
set_option maxHeartbeats 4000000 in
theorem c_X7_smallestRisk {G : Gt} {l : Launch} {v0 : Nat} (h0 : kd v0 = 6) {v1 : Nat} (h1 : kd v1 = 3) {σ : St} {r : Int32} (hf : pf_X7_smallestRisk v0 v1 σ = some r) : Ct G l yX7_smallestRisk cX7_smallestRisk 5 (some .int) 4 [.ref (gz G + (v0)), .ref (gz G + (v1))] σ (some (.int r)) σ := by
  refine met_i (by decide +kernel) (Nat.le_of_ble_eq_true rfl) rfl ?_
  intro p e s m args below meth c Q ls X hW hret hl
  have hx := X.1.1
  have hb := X.1.2.1
  have hl : lv_has ls 5 [(0, .ref (gz G + (v0))), (1, .ref (gz G + (v1)))] := hl
  have h := hf
  clear hf
  unfold pf_X7_smallestRisk at h
  refine lv_iconst (v := (-1)) hx hb dX7_smallestRisk_0 (by decide) ?_
  refine lv_istore_n (lv' := [(2, .int ((-1))), (0, .ref (gz G + (v0))), (1, .ref (gz G + (v1)))]) hx hb dX7_smallestRisk_1 rfl hl (by decide) rfl ?_
  clear hl; intro ls hl
  refine lv_iconst (v := 0) hx hb dX7_smallestRisk_2 (by decide) ?_
  refine lv_istore_n (lv' := [(3, .int (0)), (2, .int ((-1))), (0, .ref (gz G + (v0))), (1, .ref (gz G + (v1)))]) hx hb dX7_smallestRisk_3 rfl hl (by decide) rfl ?_
  clear hl; intro ls hl
  exact bl_X7_smallestRisk_L4 X hret FU v0 h0 v1 h1 (-1) 0 h _ _ _ hW (lv_sub hl [2, 3, 1, 0] rfl)
set_option maxRecDepth 20000 in
set_option maxHeartbeats 4000000 in
theorem c_J13_bitCount_95d88 {G : Gt} {l : Launch} {v0 : Int64} {σ : St} {r : Int32} (hf : pf_J13_bitCount_95d88 v0 σ = some r) : Ct G l yJ13_bitCount_95d88 cJ13_bitCount_95d88 2 (some .int) 2 [.long (v0)] σ (some (.int r)) σ := by
  refine met_i (by decide +kernel) (Nat.le_of_ble_eq_true rfl) rfl ?_
  intro p e s m args below meth c Q ls X hW hret hl
  have hx := X.1.1
  have hb := X.1.2.1
  have hl : lv_has ls 2 [(0, .long (v0))] := hl
  have h := hf
  clear hf
  unfold pf_J13_bitCount_95d88 at h
  refine lv_lload_n hx hb dJ13_bitCount_95d88_0 rfl (lv_at hl 0 rfl) ?_
  refine lv_lload_n hx hb dJ13_bitCount_95d88_1 rfl (lv_at hl 0 rfl) ?_
  refine lv_iconst (v := 1) hx hb dJ13_bitCount_95d88_2 (by decide) ?_
  refine w_lushr hx hb dJ13_bitCount_95d88_3 ?_
  refine lv_ldc2 (v := 6148914691236517205) hx hb X.1.2.2.2.1 (X.1.2.2.2.2 _ m_5_17) dJ13_bitCount_95d88_4 ?_
  refine lv_land hx hb dJ13_bitCount_95d88_7 ?_
  refine lv_lsub hx hb dJ13_bitCount_95d88_8 ?_
  refine nm_l h ?_
  clear h; intro v0_1 h
  refine lv_lstore_n (lv' := [(0, .long (v0_1))]) hx hb dJ13_bitCount_95d88_9 rfl hl (by decide) rfl ?_
  clear hl; intro ls hl
  refine lv_lload_n hx hb dJ13_bitCount_95d88_10 rfl (lv_at hl 0 rfl) ?_
  refine lv_ldc2 (v := 3689348814741910323) hx hb X.1.2.2.2.1 (X.1.2.2.2.2 _ m_5_18) dJ13_bitCount_95d88_11 ?_
  refine lv_land hx hb dJ13_bitCount_95d88_14 ?_
  refine lv_lload_n hx hb dJ13_bitCount_95d88_15 rfl (lv_at hl 0 rfl) ?_
  refine lv_iconst (v := 2) hx hb dJ13_bitCount_95d88_16 (by decide) ?_
  refine w_lushr hx hb dJ13_bitCount_95d88_17 ?_
  refine lv_ldc2 (v := 3689348814741910323) hx hb X.1.2.2.2.1 (X.1.2.2.2.2 _ m_5_18) dJ13_bitCount_95d88_18 ?_
  refine lv_land hx hb dJ13_bitCount_95d88_21 ?_
  refine lv_ladd hx hb dJ13_bitCount_95d88_22 ?_
  refine nm_l h ?_
  clear h; intro v0_2 h
  refine lv_lstore_n (lv' := [(0, .long (v0_2))]) hx hb dJ13_bitCount_95d88_23 rfl hl (by decide) rfl ?_
  clear hl; intro ls hl
  refine lv_lload_n hx hb dJ13_bitCount_95d88_24 rfl (lv_at hl 0 rfl) ?_
  refine lv_lload_n hx hb dJ13_bitCount_95d88_25 rfl (lv_at hl 0 rfl) ?_
  refine lv_iconst (v := 4) hx hb dJ13_bitCount_95d88_26 (by decide) ?_
  refine w_lushr hx hb dJ13_bitCount_95d88_27 ?_
  refine lv_ladd hx hb dJ13_bitCount_95d88_28 ?_
  refine lv_ldc2 (v := 1085102592571150095) hx hb X.1.2.2.2.1 (X.1.2.2.2.2 _ m_5_19) dJ13_bitCount_95d88_29 ?_
  refine lv_land hx hb dJ13_bitCount_95d88_32 ?_
  refine nm_l h ?_
  clear h; intro v0_3 h
  refine lv_lstore_n (lv' := [(0, .long (v0_3))]) hx hb dJ13_bitCount_95d88_33 rfl hl (by decide) rfl ?_
  clear hl; intro ls hl
  refine lv_lload_n hx hb dJ13_bitCount_95d88_34 rfl (lv_at hl 0 rfl) ?_
  refine lv_lload_n hx hb dJ13_bitCount_95d88_35 rfl (lv_at hl 0 rfl) ?_
  refine lv_bipush (v := 8) hx hb dJ13_bitCount_95d88_36 (by decide) ?_
  refine w_lushr hx hb dJ13_bitCount_95d88_38 ?_
  refine lv_ladd hx hb dJ13_bitCount_95d88_39 ?_
  refine nm_l h ?_
  clear h; intro v0_4 h
  refine lv_lstore_n (lv' := [(0, .long (v0_4))]) hx hb dJ13_bitCount_95d88_40 rfl hl (by decide) rfl ?_
  clear hl; intro ls hl
  refine lv_lload_n hx hb dJ13_bitCount_95d88_41 rfl (lv_at hl 0 rfl) ?_
  refine lv_lload_n hx hb dJ13_bitCount_95d88_42 rfl (lv_at hl 0 rfl) ?_
  refine lv_bipush (v := 16) hx hb dJ13_bitCount_95d88_43 (by decide) ?_
  refine w_lushr hx hb dJ13_bitCount_95d88_45 ?_
  refine lv_ladd hx hb dJ13_bitCount_95d88_46 ?_
  refine nm_l h ?_
  clear h; intro v0_5 h
  refine lv_lstore_n (lv' := [(0, .long (v0_5))]) hx hb dJ13_bitCount_95d88_47 rfl hl (by decide) rfl ?_
  clear hl; intro ls hl
  refine lv_lload_n hx hb dJ13_bitCount_95d88_48 rfl (lv_at hl 0 rfl) ?_
  refine lv_lload_n hx hb dJ13_bitCount_95d88_49 rfl (lv_at hl 0 rfl) ?_
  refine lv_bipush (v := 32) hx hb dJ13_bitCount_95d88_50 (by decide) ?_
  refine w_lushr hx hb dJ13_bitCount_95d88_52 ?_
  refine lv_ladd hx hb dJ13_bitCount_95d88_53 ?_
  refine nm_l h ?_
  clear h; intro v0_6 h
  refine lv_lstore_n (lv' := [(0, .long (v0_6))]) hx hb dJ13_bitCount_95d88_54 rfl hl (by decide) rfl ?_
  clear hl; intro ls hl
  refine lv_lload_n hx hb dJ13_bitCount_95d88_55 rfl (lv_at hl 0 rfl) ?_
  refine lv_l2i hx hb dJ13_bitCount_95d88_56 rfl ?_
  refine lv_bipush (v := 127) hx hb dJ13_bitCount_95d88_57 (by decide) ?_
  refine lv_iand hx hb dJ13_bitCount_95d88_59 ?_
  exact ri_end0 hret h dJ13_bitCount_95d88_60 hW
end
