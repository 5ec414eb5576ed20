section
variable {G : Gt} {p : Program} {l : Launch} {e : Env} {R : Room} {s : State} {m : MethodId} {args : Array Value} {below : List Frame} {meth : Method} {c : Code} {cells slots : Nat} {Q : State → Prop}
set_option maxRecDepth 20000 in
set_option maxHeartbeats 4000000 in
theorem c_X10_worth {G : Gt} {l : Launch} {v0 : Nat} (h0 : kd v0 = 9) {v1 : Int32} {σ : St} {r : Int32} {σ' : St} (hf : pf_X10_worth v0 v1 σ = some (.inr r, σ')) : Ct G l yX10_worth cX10_worth 2 (some .int) 8 [.ref (gz G + (v0)), .int (v1)] σ (some (.int r)) σ' := by
  refine met_i (by decide +kernel) (Nat.le_of_ble_eq_true rfl) rfl ?_
  intro p e s m args below meth c Q ls X hW hret hl
  have hx := X.1.1
  have hb := X.1.2.1
  have hl : lv_has ls 2 [(0, .ref (gz G + (v0))), (1, .int (v1))] := hl
  have h := hf
  clear hf
  unfold pf_X10_worth at h
  refine lv_aload_n hx hb dX10_worth_0 rfl (lv_at hl 0 rfl) ?_
  refine lv_aload_n hx hb dX10_worth_1 rfl (lv_at hl 0 rfl) ?_
  refine lv_iload_n hx hb dX10_worth_2 rfl (lv_at hl 1 rfl) ?_
  obtain ⟨r_1, hcl, h⟩ := bndX0W_n h
  refine call_V1 X hW (kC_X10 h0) m_3_113 m_3_115 m_0_15 mv_X10_questAt (c_X10_questAt h0 hcl) (by decide) rfl rfl (Nat.le_of_ble_eq_true rfl) hl.1 dX10_worth_3 ?_
  clear hW hcl; intro H locs hW
  obtain ⟨hk2, h⟩ := ckK_el h
  refine lv_iload_n hx hb dX10_worth_6 rfl (lv_at hl 1 rfl) ?_
  obtain ⟨r_3, σ_3, hcl, h⟩ := bnd2_el h
  refine call_V1 X hW (kC_X10 h0) m_2_197 m_2_199 m_0_9 mv_X10_worthOf (c_X10_worthOf h0 hk2 hcl) (by decide) rfl rfl (Nat.le_of_ble_eq_true rfl) hl.1 dX10_worth_7 ?_
  clear hW hcl; intro H locs hW
  replace h := xr_el h
  exact ri_end hret h dX10_worth_10 hW
set_option maxRecDepth 20000 in
set_option maxHeartbeats 4000000 in
theorem x_X10_worth {G : Gt} {l : Launch} {v0 : Nat} (h0 : kd v0 = 9) {v1 : Int32} {σ : St} {r : Nat} {σ' : St} (hf : pf_X10_worth v0 v1 σ = some (.inl r, σ')) : CtT G l yX10_worth cX10_worth 2 (some .int) 8 [.ref (gz G + (v0)), .int (v1)] σ r σ' := by
  refine met_t (by decide +kernel) (Nat.le_of_ble_eq_true rfl) (by decide) ?_
  intro p e s m args below meth c Q ls X hW hthr hpr hl
  have hx := X.1.1
  have hb := X.1.2.1
  have hl : lv_has ls 2 [(0, .ref (gz G + (v0))), (1, .int (v1))] := hl
  have h := hf
  clear hf
  unfold pf_X10_worth at h
  refine lv_aload_n hx hb dX10_worth_0 rfl (lv_at hl 0 rfl) ?_
  refine lv_aload_n hx hb dX10_worth_1 rfl (lv_at hl 0 rfl) ?_
  refine lv_iload_n hx hb dX10_worth_2 rfl (lv_at hl 1 rfl) ?_
  rcases bndX0W_t h with ⟨hcl, rfl⟩ | ⟨r_1, hcl, h⟩
  · exact tcall_V X hW (kC_X10 h0) m_3_113 m_3_115 m_0_15 mv_X10_questAt (x_X10_questAt h0 hcl) (by decide) rfl rfl (Nat.le_of_ble_eq_true rfl) hl.1 dX10_worth_3 hpr
  refine call_V1 X hW (kC_X10 h0) m_3_113 m_3_115 m_0_15 mv_X10_questAt (c_X10_questAt h0 hcl) (by decide) rfl rfl (Nat.le_of_ble_eq_true rfl) hl.1 dX10_worth_3 ?_
  clear hW hcl; intro H locs hW
  obtain ⟨hk2, h⟩ := ckK_el h
  refine lv_iload_n hx hb dX10_worth_6 rfl (lv_at hl 1 rfl) ?_
  obtain ⟨r_3, σ_3, hcl, h⟩ := bnd2_el h
  refine call_V1 X hW (kC_X10 h0) m_2_197 m_2_199 m_0_9 mv_X10_worthOf (c_X10_worthOf h0 hk2 hcl) (by decide) rfl rfl (Nat.le_of_ble_eq_true rfl) hl.1 dX10_worth_7 ?_
  clear hW hcl; intro H locs hW
  cases h
set_option maxRecDepth 20000 in
set_option maxHeartbeats 4000000 in
theorem bl_X10_best_b77 (X : Cx G p R s m args c cells slots cX10_best 6 RX10 8) {r : Int32} {σ' : St} (hret : R_I G p l e R s m args below meth c cells slots Q cX10_best r σ') {k6 : Nat → Int32 → Int32 → Int32 → St → (Option (Int32 × St))}
    (hk6 : ∀ (v0 : Nat) (h0 : kd v0 = 9) (v1 : Int32) (v2 : Int32) (v3 : Int32) (σ : St) (_ : k6 v0 v1 v2 v3 σ = some (r, σ')) (H : Heap) (locs : List Loc) (ls : Array Slot) (_ : GW G σ s H locs) (_ : lv_has ls 6 [(0, .ref (gz G + (v0))), (1, .int (v1)), (2, .int (v2)), (3, .int (v3))]), W p l e R s m args below meth c H locs cells slots Q (F0 m 6 ls [])) :
    ∀ (v0 : Nat) (h0 : kd v0 = 9) (v1 : Int32) (v2 : Int32) (v3 : Int32) (σ : St) (_ : pf_X10_best_b77 k6 v0 v1 v2 v3 σ = some (r, σ')) (H : Heap) (locs : List Loc) (ls : Array Slot) (_ : GW G σ s H locs) (_ : lv_has ls 6 [(0, .ref (gz G + (v0))), (1, .int (v1)), (2, .int (v2)), (3, .int (v3))]), W p l e R s m args below meth c H locs cells slots Q (F0 m 77 ls []) := by
  have hx := X.1.1
  have hb := X.1.2.1
  intro v0 h0 v1 v2 v3 σ h H locs ls hW hl
  unfold pf_X10_best_b77 at h
  refine w_iinc (v := 1) (lv' := fun y => [(3, .int (y)), (0, .ref (gz G + (v0))), (1, .int (v1)), (2, .int (v2))]) hx hb dX10_best_77 hl (k := 3) rfl (by decide) (by decide) (fun _ => rfl) h ?_
  clear h hl; intro v3_1 h ls hl
  refine lv_goto (tgt := 6) hx hb dX10_best_80 (by decide) ?_
  exact hk6 v0 h0 v1 v2 v3_1 σ h _ _ _ hW (lv_sub hl [1, 2, 3, 0] rfl)
set_option maxRecDepth 20000 in
set_option maxHeartbeats 4000000 in
theorem bl_X10_best_b72 (X : Cx G p R s m args c cells slots cX10_best 6 RX10 8) {r : Int32} {σ' : St} (hret : R_I G p l e R s m args below meth c cells slots Q cX10_best r σ') {k6 : Nat → Int32 → Int32 → Int32 → St → (Option (Int32 × St))}
    (hk6 : ∀ (v0 : Nat) (h0 : kd v0 = 9) (v1 : Int32) (v2 : Int32) (v3 : Int32) (σ : St) (_ : k6 v0 v1 v2 v3 σ = some (r, σ')) (H : Heap) (locs : List Loc) (ls : Array Slot) (_ : GW G σ s H locs) (_ : lv_has ls 6 [(0, .ref (gz G + (v0))), (1, .int (v1)), (2, .int (v2)), (3, .int (v3))]), W p l e R s m args below meth c H locs cells slots Q (F0 m 6 ls [])) :
    ∀ (v0 : Nat) (h0 : kd v0 = 9) (v3 : Int32) (v5 : Int32) (σ : St) (_ : pf_X10_best_b72 k6 v0 v3 v5 σ = some (r, σ')) (H : Heap) (locs : List Loc) (ls : Array Slot) (_ : GW G σ s H locs) (_ : lv_has ls 6 [(0, .ref (gz G + (v0))), (3, .int (v3)), (5, .int (v5))]), W p l e R s m args below meth c H locs cells slots Q (F0 m 72 ls []) := by
  have hx := X.1.1
  have hb := X.1.2.1
  intro v0 h0 v3 v5 σ h H locs ls hW hl
  unfold pf_X10_best_b72 at h
  refine lv_iload_n hx hb dX10_best_72 rfl (lv_at hl 1 rfl) ?_
  refine lv_istore_n (lv' := [(1, .int (v3)), (0, .ref (gz G + (v0))), (3, .int (v3)), (5, .int (v5))]) hx hb dX10_best_73 rfl hl (by decide) rfl ?_
  clear hl; intro ls hl
  refine lv_iload hx hb dX10_best_74 (lv_at hl 3 rfl) ?_
  refine lv_istore_n (lv' := [(2, .int (v5)), (1, .int (v3)), (0, .ref (gz G + (v0))), (3, .int (v3)), (5, .int (v5))]) hx hb dX10_best_76 rfl hl (by decide) rfl ?_
  clear hl; intro ls hl
  exact bl_X10_best_b77 X hret hk6 v0 h0 v3 v5 v3 σ h _ _ _ hW (lv_sub hl [2, 1, 0, 3] rfl)
set_option maxRecDepth 20000 in
set_option maxHeartbeats 4000000 in
theorem bl_X10_best_L6 (X : Cx G p R s m args c cells slots cX10_best 6 RX10 8) {r : Int32} {σ' : St} (hret : R_I G p l e R s m args below meth c cells slots Q cX10_best r σ') :
    ∀ (n : Nat), ∀ (v0 : Nat) (h0 : kd v0 = 9) (v1 : Int32) (v2 : Int32) (v3 : Int32) (σ : St) (_ : pf_X10_best_L6 n v0 v1 v2 v3 σ = some (r, σ')) (H : Heap) (locs : List Loc) (ls : Array Slot) (_ : GW G σ s H locs) (_ : lv_has ls 6 [(0, .ref (gz G + (v0))), (1, .int (v1)), (2, .int (v2)), (3, .int (v3))]), W p l e R s m args below meth c H locs cells slots Q (F0 m 6 ls []) := by
  have hx := X.1.1
  have hb := X.1.2.1
  intro n
  induction n with
  | zero => intro v0 h0 v1 v2 v3 σ h H locs ls hW hl; cases h
  | succ n ih =>
    intro v0 h0 v1 v2 v3 σ h H locs ls hW hl
    rw [pf_X10_best_L6.eq_2] at h
    refine lv_iload_n hx hb dX10_best_6 rfl (lv_at hl 3 rfl) ?_
    refine lv_aload_n hx hb dX10_best_7 rfl (lv_at hl 0 rfl) ?_
    refine gf_X10_now X hW h0 m_2_64 dX10_best_8 ?_
    refine gf_X2_questCount X hW (kf_X10_now h0) m_1_147 dX10_best_11 ?_
    refine lv_icmp_ge (tgt := 83) hx hb dX10_best_14 (by decide) (fun hc => ?_) (fun hc => ?_)
    · replace h := if_t hc h
      refine lv_iload_n hx hb dX10_best_83 rfl (lv_at hl 1 rfl) ?_
      exact ri_end hret h dX10_best_84 hW
    · replace h := if_f hc h
      refine lv_iload_n hx hb dX10_best_17 rfl (lv_at hl 3 rfl) ?_
      refine lv_bipush (v := 6) hx hb dX10_best_18 (by decide) ?_
      refine lv_icmp_ge (tgt := 83) hx hb dX10_best_20 (by decide) (fun hc => ?_) (fun hc => ?_)
      · replace h := if_t hc h
        refine lv_iload_n hx hb dX10_best_83 rfl (lv_at hl 1 rfl) ?_
        exact ri_end hret h dX10_best_84 hW
      · replace h := if_f hc h
        refine lv_aload_n hx hb dX10_best_23 rfl (lv_at hl 0 rfl) ?_
        refine gf_X10_now X hW h0 m_2_64 dX10_best_24 ?_
        refine gf_X2_quests X hW (kf_X10_now h0) m_1_144 dX10_best_27 ?_
        refine lv_iload_n hx hb dX10_best_30 rfl (lv_at hl 3 rfl) ?_
        obtain ⟨hi1, h⟩ := ckI_el h
        refine r_qald X hW (kf_X2_quests (kf_X10_now h0)) hi1 dX10_best_31 ?_
        refine lv_astore (lv' := [(4, .ref (gz G + (v0 + 2 + 3 + 2 + 9 * (v3).toNatClampNeg))), (0, .ref (gz G + (v0))), (1, .int (v1)), (2, .int (v2)), (3, .int (v3))]) hx hb dX10_best_32 hl (by decide) rfl ?_
        clear hl; intro ls hl
        refine lv_aload_n hx hb dX10_best_34 rfl (lv_at hl 1 rfl) ?_
        refine gf_X10_ways X hW h0 m_2_68 dX10_best_35 ?_
        refine lv_aload hx hb dX10_best_38 (lv_at hl 0 rfl) ?_
        refine lv_aload_n hx hb dX10_best_40 rfl (lv_at hl 1 rfl) ?_
        refine gf_X10_now X hW h0 m_2_64 dX10_best_41 ?_
        refine gf_X2_stock X hW (kf_X10_now h0) m_1_136 dX10_best_44 ?_
        obtain ⟨r_2, σ_2, hcl, h⟩ := bnd2_el h
        refine call_V1 X hW (kC_X7 (kf_X10_ways h0)) m_2_124 m_2_125 m_2_126 mv_X7_explore (c_X7_explore (kf_X10_ways h0) (kq_16 (kf_X2_quests (kf_X10_now h0)) (vp_lt hi1)) (kf_X2_stock (kf_X10_now h0)) hcl) (by decide) rfl rfl (Nat.le_of_ble_eq_true rfl) hl.1 dX10_best_47 ?_
        clear hW hcl; intro H locs hW
        refine lv_if_eq (tgt := 77) hx hb dX10_best_50 (by decide) (fun hc => ?_) (fun hc => ?_)
        · replace h := if_t hc h
          exact bl_X10_best_b77 X hret ih v0 h0 v1 v2 v3 σ_2 h _ _ _ hW (lv_sub hl [1, 2, 3, 4] rfl)
        · replace h := if_f hc h
          refine lv_aload_n hx hb dX10_best_53 rfl (lv_at hl 1 rfl) ?_
          refine lv_aload hx hb dX10_best_54 (lv_at hl 0 rfl) ?_
          refine lv_iload_n hx hb dX10_best_56 rfl (lv_at hl 4 rfl) ?_
          obtain ⟨r_3, σ_3, hcl, h⟩ := bnd2_el h
          refine call_V1 X hW (kC_X10 h0) m_2_197 m_2_199 m_0_9 mv_X10_worthOf (c_X10_worthOf h0 (kq_16 (kf_X2_quests (kf_X10_now h0)) (vp_lt hi1)) hcl) (by decide) rfl rfl (Nat.le_of_ble_eq_true rfl) hl.1 dX10_best_57 ?_
          clear hW hcl; intro H locs hW
          refine lv_istore (lv' := [(5, .int (r_3)), (4, .ref (gz G + (v0 + 2 + 3 + 2 + 9 * (v3).toNatClampNeg))), (0, .ref (gz G + (v0))), (1, .int (v1)), (2, .int (v2)), (3, .int (v3))]) hx hb dX10_best_60 hl (by decide) rfl ?_
          clear hl; intro ls hl
          refine lv_iload_n hx hb dX10_best_62 rfl (lv_at hl 3 rfl) ?_
          refine lv_if_lt (tgt := 72) hx hb dX10_best_63 (by decide) (fun hc => ?_) (fun hc => ?_)
          · replace h := if_t hc h
            exact bl_X10_best_b72 X hret ih v0 h0 v3 r_3 σ_3 h _ _ _ hW (lv_sub hl [2, 5, 0] rfl)
          · replace h := if_f hc h
            refine lv_iload hx hb dX10_best_66 (lv_at hl 0 rfl) ?_
            refine lv_iload_n hx hb dX10_best_68 rfl (lv_at hl 4 rfl) ?_
            refine lv_icmp_le (tgt := 77) hx hb dX10_best_69 (by decide) (fun hc => ?_) (fun hc => ?_)
            · replace h := if_t hc h
              exact bl_X10_best_b77 X hret ih v0 h0 v1 v2 v3 σ_3 h _ _ _ hW (lv_sub hl [2, 3, 4, 5] rfl)
            · replace h := if_f hc h
              exact bl_X10_best_b72 X hret ih v0 h0 v3 r_3 σ_3 h _ _ _ hW (lv_sub hl [2, 5, 0] rfl)
set_option maxRecDepth 20000 in
set_option maxHeartbeats 4000000 in
theorem c_X10_best {G : Gt} {l : Launch} {v0 : Nat} (h0 : kd v0 = 9) {σ : St} {r : Int32} {σ' : St} (hf : pf_X10_best v0 σ = some (r, σ')) : Ct G l yX10_best cX10_best 6 (some .int) 8 [.ref (gz G + (v0))] σ (some (.int r)) σ' := by
  refine met_i (by decide +kernel) (Nat.le_of_ble_eq_true rfl) rfl ?_
  intro p e s m args below meth c Q ls X hW hret hl
  have hx := X.1.1
  have hb := X.1.2.1
  have hl : lv_has ls 6 [(0, .ref (gz G + (v0)))] := hl
  have h := hf
  clear hf
  unfold pf_X10_best at h
  refine lv_iconst (v := (-1)) hx hb dX10_best_0 (by decide) ?_
  refine lv_istore_n (lv' := [(1, .int ((-1))), (0, .ref (gz G + (v0)))]) hx hb dX10_best_1 rfl hl (by decide) rfl ?_
  clear hl; intro ls hl
  refine lv_iconst (v := 0) hx hb dX10_best_2 (by decide) ?_
  refine lv_istore_n (lv' := [(2, .int (0)), (1, .int ((-1))), (0, .ref (gz G + (v0)))]) hx hb dX10_best_3 rfl hl (by decide) rfl ?_
  clear hl; intro ls hl
  refine lv_iconst (v := 0) hx hb dX10_best_4 (by decide) ?_
  refine lv_istore_n (lv' := [(3, .int (0)), (2, .int (0)), (1, .int ((-1))), (0, .ref (gz G + (v0)))]) hx hb dX10_best_5 rfl hl (by decide) rfl ?_
  clear hl; intro ls hl
  exact bl_X10_best_L6 X hret FU v0 h0 (-1) 0 0 σ h _ _ _ hW (lv_sub hl [3, 2, 1, 0] rfl)
set_option maxRecDepth 20000 in
set_option maxHeartbeats 4000000 in
theorem bl_X10_chance_b100 (X : Cx G p R s m args c cells slots cX10_chance 9 RX10 8) {r : UInt64} {σ' : St} (hret : R_D G p l e R s m args below meth c cells slots Q cX10_chance r σ') :
    ∀ (v3 : UInt64) (σ : St) (_ : pf_X10_chance_b100 v3 σ = some (.inr r, σ')) (H : Heap) (locs : List Loc) (ls : Array Slot) (_ : GW G σ s H locs) (_ : lv_has ls 9 [(3, .double (v3))]), W p l e R s m args below meth c H locs cells slots Q (F0 m 100 ls []) := by
  have hx := X.1.1
  have hb := X.1.2.1
  intro v3 σ h H locs ls hW hl
  unfold pf_X10_chance_b100 at h
  refine lv_dload_n hx hb dX10_chance_100 rfl (lv_at hl 0 rfl) ?_
  replace h := xr_el h
  exact rd_end hret h dX10_chance_101 hW
set_option maxRecDepth 20000 in
set_option maxHeartbeats 4000000 in
theorem bl_X10_chance_L47 (X : Cx G p R s m args c cells slots cX10_chance 9 RX10 8) {r : UInt64} {σ' : St} (hret : R_D G p l e R s m args below meth c cells slots Q cX10_chance r σ') {k100 : UInt64 → St → (Option ((Nat ⊕ (UInt64)) × St))}
    (hk100 : ∀ (v3 : UInt64) (σ : St) (_ : k100 v3 σ = some (.inr r, σ')) (H : Heap) (locs : List Loc) (ls : Array Slot) (_ : GW G σ s H locs) (_ : lv_has ls 9 [(3, .double (v3))]), W p l e R s m args below meth c H locs cells slots Q (F0 m 100 ls [])) :
    ∀ (n : Nat), ∀ (v0 : Nat) (h0 : kd v0 = 9) (v2 : Nat) (h2 : kd v2 = 3) (v3 : UInt64) (v5 : Int32) (v6 : Int32) (v7 : Int32) (σ : St) (_ : pf_X10_chance_L47 k100 n v0 v2 v3 v5 v6 v7 σ = some (.inr r, σ')) (H : Heap) (locs : List Loc) (ls : Array Slot) (_ : GW G σ s H locs) (_ : lv_has ls 9 [(0, .ref (gz G + (v0))), (2, .ref (gz G + (v2))), (3, .double (v3)), (5, .int (v5)), (6, .int (v6)), (7, .int (v7))]), W p l e R s m args below meth c H locs cells slots Q (F0 m 47 ls []) := by
  have hx := X.1.1
  have hb := X.1.2.1
  intro n
  induction n with
  | zero => intro v0 h0 v2 h2 v3 v5 v6 v7 σ h H locs ls hW hl; cases h
  | succ n ih =>
    intro v0 h0 v2 h2 v3 v5 v6 v7 σ h H locs ls hW hl
    rw [pf_X10_chance_L47.eq_2] at h
    refine lv_iload hx hb dX10_chance_47 (lv_at hl 5 rfl) ?_
    refine lv_iload hx hb dX10_chance_49 (lv_at hl 4 rfl) ?_
    refine lv_icmp_ge (tgt := 100) hx hb dX10_chance_51 (by decide) (fun hc => ?_) (fun hc => ?_)
    · replace h := if_t hc h
      exact hk100 v3 σ h _ _ _ hW (lv_sub hl [2] rfl)
    · replace h := if_f hc h
      refine lv_aload_n hx hb dX10_chance_54 rfl (lv_at hl 0 rfl) ?_
      refine gf_X10_ways X hW h0 m_2_68 dX10_chance_55 ?_
      refine lv_iload hx hb dX10_chance_58 (lv_at hl 3 rfl) ?_
      obtain ⟨r_1, hcl, h⟩ := bind_el h
      refine call_V1 X hW (kC_X7 (kf_X10_ways h0)) m_2_178 m_2_179 m_2_180 mv_X7_nextOfPlan (c_X7_nextOfPlan (kf_X10_ways h0) hcl) (by decide) rfl rfl (Nat.le_of_ble_eq_true rfl) hl.1 dX10_chance_60 ?_
      clear hW hcl; intro H locs hW
      refine lv_istore (lv' := [(8, .int (r_1)), (0, .ref (gz G + (v0))), (2, .ref (gz G + (v2))), (3, .double (v3)), (5, .int (v5)), (6, .int (v6)), (7, .int (v7))]) hx hb dX10_chance_63 hl (by decide) rfl ?_
      clear hl; intro ls hl
      refine lv_dload_n hx hb dX10_chance_65 rfl (lv_at hl 3 rfl) ?_
      refine lv_bipush (v := 100) hx hb dX10_chance_66 (by decide) ?_
      refine lv_aload_n hx hb dX10_chance_68 rfl (lv_at hl 2 rfl) ?_
      refine gf_X3_risk X hW h2 m_1_77 dX10_chance_69 ?_
      refine lv_iload hx hb dX10_chance_72 (lv_at hl 0 rfl) ?_
      obtain ⟨r_2, hcl, h⟩ := bind_el h
      refine call_S1 X hW m_3_104 m_2_132 mv_X10_at (c_X10_at (kf_X3_risk h2) hcl) (by decide) rfl rfl (Nat.le_of_ble_eq_true rfl) hl.1 dX10_chance_74 ?_
      clear hW hcl; intro H locs hW
      refine lv_isub hx hb dX10_chance_77 ?_
      refine lv_i2d hx hb dX10_chance_78 ?_
      refine lv_ldc2d (v := 4636737291354636288) hx hb X.1.2.2.2.1 (X.1.2.2.2.2 _ m_5_136) dX10_chance_79 ?_
      obtain ⟨hnn, h⟩ := ckD_el h
      refine lv_ddiv hx hb dX10_chance_82 hnn ?_
      obtain ⟨hnn, h⟩ := ckD_el h
      refine lv_dmul hx hb dX10_chance_83 hnn ?_
      refine nm_d h ?_
      clear h; intro v3_3 h
      refine lv_dstore_n (lv' := [(3, .double (v3_3)), (8, .int (r_1)), (0, .ref (gz G + (v0))), (2, .ref (gz G + (v2))), (5, .int (v5)), (6, .int (v6)), (7, .int (v7))]) hx hb dX10_chance_84 rfl hl (by decide) rfl ?_
      clear hl; intro ls hl
      refine lv_iload hx hb dX10_chance_85 (lv_at hl 4 rfl) ?_
      refine lv_iconst (v := 1) hx hb dX10_chance_87 (by decide) ?_
      refine lv_iload hx hb dX10_chance_88 (lv_at hl 1 rfl) ?_
      refine w_ishl hx hb dX10_chance_90 ?_
      refine lv_ior hx hb dX10_chance_91 ?_
      refine nm_i h ?_
      clear h; intro v5_4 h
      refine lv_istore (lv' := [(5, .int (v5_4)), (3, .double (v3_3)), (8, .int (r_1)), (0, .ref (gz G + (v0))), (2, .ref (gz G + (v2))), (6, .int (v6)), (7, .int (v7))]) hx hb dX10_chance_92 hl (by decide) rfl ?_
      clear hl; intro ls hl
      refine w_iinc (v := 1) (lv' := fun y => [(7, .int (y)), (5, .int (v5_4)), (3, .double (v3_3)), (8, .int (r_1)), (0, .ref (gz G + (v0))), (2, .ref (gz G + (v2))), (6, .int (v6))]) hx hb dX10_chance_94 hl (k := 6) rfl (by decide) (by decide) (fun _ => rfl) h ?_
      clear h hl; intro v7_5 h ls hl
      refine lv_goto (tgt := 47) hx hb dX10_chance_97 (by decide) ?_
      exact ih v0 h0 v2 h2 v3_3 v5_4 v6 v7_5 σ h _ _ _ hW (lv_sub hl [4, 5, 2, 1, 6, 0] rfl)
set_option maxRecDepth 20000 in
set_option maxHeartbeats 4000000 in
theorem c_X10_chance {G : Gt} {l : Launch} {v0 : Nat} (h0 : kd v0 = 9) {v1 : Int32} {σ : St} {r : UInt64} {σ' : St} (hf : pf_X10_chance v0 v1 σ = some (.inr r, σ')) : Ct G l yX10_chance cX10_chance 9 (some .double) 8 [.ref (gz G + (v0)), .int (v1)] σ (some (.double r)) σ' := by
  refine met_d (by decide +kernel) (Nat.le_of_ble_eq_true rfl) rfl ?_
  intro p e s m args below meth c Q ls X hW hret hl
  have hx := X.1.1
  have hb := X.1.2.1
  have hl : lv_has ls 9 [(0, .ref (gz G + (v0))), (1, .int (v1))] := hl
  have h := hf
  clear hf
  unfold pf_X10_chance at h
  refine lv_aload_n hx hb dX10_chance_0 rfl (lv_at hl 0 rfl) ?_
  refine lv_iload_n hx hb dX10_chance_1 rfl (lv_at hl 1 rfl) ?_
  obtain ⟨r_1, hcl, h⟩ := bndX0W_n h
  refine call_V1 X hW (kC_X10 h0) m_3_113 m_3_115 m_0_15 mv_X10_questAt (c_X10_questAt h0 hcl) (by decide) rfl rfl (Nat.le_of_ble_eq_true rfl) hl.1 dX10_chance_2 ?_
  clear hW hcl; intro H locs hW
  obtain ⟨hk2, h⟩ := ckK_el h
  refine lv_astore_n (lv' := [(2, .ref (gz G + (r_1))), (0, .ref (gz G + (v0))), (1, .int (v1))]) hx hb dX10_chance_5 rfl hl (by decide) rfl ?_
  clear hl; intro ls hl
  refine lv_aload_n hx hb dX10_chance_6 rfl (lv_at hl 1 rfl) ?_
  refine gf_X10_ways X hW h0 m_2_68 dX10_chance_7 ?_
  refine lv_aload_n hx hb dX10_chance_10 rfl (lv_at hl 0 rfl) ?_
  refine lv_aload_n hx hb dX10_chance_11 rfl (lv_at hl 1 rfl) ?_
  refine gf_X10_now X hW h0 m_2_64 dX10_chance_12 ?_
  refine gf_X2_stock X hW (kf_X10_now h0) m_1_136 dX10_chance_15 ?_
  obtain ⟨r_3, σ_3, hcl, h⟩ := bnd2_el h
  refine call_V1 X hW (kC_X7 (kf_X10_ways h0)) m_2_124 m_2_125 m_2_126 mv_X7_explore (c_X7_explore (kf_X10_ways h0) hk2 (kf_X2_stock (kf_X10_now h0)) hcl) (by decide) rfl rfl (Nat.le_of_ble_eq_true rfl) hl.1 dX10_chance_18 ?_
  clear hW hcl; intro H locs hW
  refine lv_if_ne (tgt := 26) hx hb dX10_chance_21 (by decide) (fun hc => ?_) (fun hc => ?_)
  · replace h := if_f hc h
    refine lv_dconst1 hx hb dX10_chance_26 ?_
    refine lv_dstore_n (lv' := [(3, .double (FP.dconst1)), (2, .ref (gz G + (r_1))), (0, .ref (gz G + (v0))), (1, .int (v1))]) hx hb dX10_chance_27 rfl hl (by decide) rfl ?_
    clear hl; intro ls hl
    refine lv_aload_n hx hb dX10_chance_28 rfl (lv_at hl 1 rfl) ?_
    refine gf_X3_done X hW hk2 m_1_61 dX10_chance_29 ?_
    refine nm_i h ?_
    clear h; intro v5_4 h
    refine lv_istore (lv' := [(5, .int (v5_4)), (3, .double (FP.dconst1)), (2, .ref (gz G + (r_1))), (0, .ref (gz G + (v0))), (1, .int (v1))]) hx hb dX10_chance_32 hl (by decide) rfl ?_
    clear hl; intro ls hl
    refine lv_aload_n hx hb dX10_chance_34 rfl (lv_at hl 3 rfl) ?_
    refine gf_X10_ways X hW h0 m_2_68 dX10_chance_35 ?_
    refine lv_aload_n hx hb dX10_chance_38 rfl (lv_at hl 2 rfl) ?_
    obtain ⟨r_5, hcl, h⟩ := bind_el h
    refine call_V1 X hW (kC_X7 (kf_X10_ways h0)) m_2_174 m_2_175 m_2_176 mv_X7_lengthOfPlan (c_X7_lengthOfPlan (kf_X10_ways h0) hk2 hcl) (by decide) rfl rfl (Nat.le_of_ble_eq_true rfl) hl.1 dX10_chance_39 ?_
    clear hW hcl; intro H locs hW
    refine lv_istore (lv' := [(6, .int (r_5)), (5, .int (v5_4)), (3, .double (FP.dconst1)), (2, .ref (gz G + (r_1))), (0, .ref (gz G + (v0))), (1, .int (v1))]) hx hb dX10_chance_42 hl (by decide) rfl ?_
    clear hl; intro ls hl
    refine lv_iconst (v := 0) hx hb dX10_chance_44 (by decide) ?_
    refine lv_istore (lv' := [(7, .int (0)), (6, .int (r_5)), (5, .int (v5_4)), (3, .double (FP.dconst1)), (2, .ref (gz G + (r_1))), (0, .ref (gz G + (v0))), (1, .int (v1))]) hx hb dX10_chance_45 hl (by decide) rfl ?_
    clear hl; intro ls hl
    exact bl_X10_chance_L47 X hret (bl_X10_chance_b100 X hret) FU v0 h0 r_1 hk2 (FP.dconst1) v5_4 r_5 0 σ_3 h _ _ _ hW (lv_sub hl [5, 4, 3, 2, 1, 0] rfl)
  · replace h := if_t hc h
    refine lv_dconst0 hx hb dX10_chance_24 ?_
    replace h := xr_el h
    exact rd_end hret h dX10_chance_25 hW
set_option maxRecDepth 20000 in
set_option maxHeartbeats 4000000 in
theorem xl_X10_chance_b100 (X : Cx G p R s m args c cells slots cX10_chance 9 RX10 8) {r : Nat} {σ' : St} (hthr : R_X G p l e R s m args below meth c cells slots Q cX10_chance 9 RX10 r σ') (hpr : R_P G p l e R s m args below meth c cells slots Q r σ') :
    ∀ (v3 : UInt64) (σ : St) (_ : pf_X10_chance_b100 v3 σ = some (.inl r, σ')) (H : Heap) (locs : List Loc) (ls : Array Slot) (_ : GW G σ s H locs) (_ : lv_has ls 9 [(3, .double (v3))]), W p l e R s m args below meth c H locs cells slots Q (F0 m 100 ls []) := by
  have hx := X.1.1
  have hb := X.1.2.1
  intro v3 σ h H locs ls hW hl
  unfold pf_X10_chance_b100 at h
  refine lv_dload_n hx hb dX10_chance_100 rfl (lv_at hl 0 rfl) ?_
  cases h
set_option maxRecDepth 20000 in
set_option maxHeartbeats 4000000 in
theorem xl_X10_chance_L47 (X : Cx G p R s m args c cells slots cX10_chance 9 RX10 8) {r : Nat} {σ' : St} (hthr : R_X G p l e R s m args below meth c cells slots Q cX10_chance 9 RX10 r σ') (hpr : R_P G p l e R s m args below meth c cells slots Q r σ') {k100 : UInt64 → St → (Option ((Nat ⊕ (UInt64)) × St))}
    (hk100 : ∀ (v3 : UInt64) (σ : St) (_ : k100 v3 σ = some (.inl r, σ')) (H : Heap) (locs : List Loc) (ls : Array Slot) (_ : GW G σ s H locs) (_ : lv_has ls 9 [(3, .double (v3))]), W p l e R s m args below meth c H locs cells slots Q (F0 m 100 ls [])) :
    ∀ (n : Nat), ∀ (v0 : Nat) (h0 : kd v0 = 9) (v2 : Nat) (h2 : kd v2 = 3) (v3 : UInt64) (v5 : Int32) (v6 : Int32) (v7 : Int32) (σ : St) (_ : pf_X10_chance_L47 k100 n v0 v2 v3 v5 v6 v7 σ = some (.inl r, σ')) (H : Heap) (locs : List Loc) (ls : Array Slot) (_ : GW G σ s H locs) (_ : lv_has ls 9 [(0, .ref (gz G + (v0))), (2, .ref (gz G + (v2))), (3, .double (v3)), (5, .int (v5)), (6, .int (v6)), (7, .int (v7))]), W p l e R s m args below meth c H locs cells slots Q (F0 m 47 ls []) := by
  have hx := X.1.1
  have hb := X.1.2.1
  intro n
  induction n with
  | zero => intro v0 h0 v2 h2 v3 v5 v6 v7 σ h H locs ls hW hl; cases h
  | succ n ih =>
    intro v0 h0 v2 h2 v3 v5 v6 v7 σ h H locs ls hW hl
    rw [pf_X10_chance_L47.eq_2] at h
    refine lv_iload hx hb dX10_chance_47 (lv_at hl 5 rfl) ?_
    refine lv_iload hx hb dX10_chance_49 (lv_at hl 4 rfl) ?_
    refine lv_icmp_ge (tgt := 100) hx hb dX10_chance_51 (by decide) (fun hc => ?_) (fun hc => ?_)
    · replace h := if_t hc h
      exact hk100 v3 σ h _ _ _ hW (lv_sub hl [2] rfl)
    · replace h := if_f hc h
      refine lv_aload_n hx hb dX10_chance_54 rfl (lv_at hl 0 rfl) ?_
      refine gf_X10_ways X hW h0 m_2_68 dX10_chance_55 ?_
      refine lv_iload hx hb dX10_chance_58 (lv_at hl 3 rfl) ?_
      obtain ⟨r_1, hcl, h⟩ := bind_el h
      refine call_V1 X hW (kC_X7 (kf_X10_ways h0)) m_2_178 m_2_179 m_2_180 mv_X7_nextOfPlan (c_X7_nextOfPlan (kf_X10_ways h0) hcl) (by decide) rfl rfl (Nat.le_of_ble_eq_true rfl) hl.1 dX10_chance_60 ?_
      clear hW hcl; intro H locs hW
      refine lv_istore (lv' := [(8, .int (r_1)), (0, .ref (gz G + (v0))), (2, .ref (gz G + (v2))), (3, .double (v3)), (5, .int (v5)), (6, .int (v6)), (7, .int (v7))]) hx hb dX10_chance_63 hl (by decide) rfl ?_
      clear hl; intro ls hl
      refine lv_dload_n hx hb dX10_chance_65 rfl (lv_at hl 3 rfl) ?_
      refine lv_bipush (v := 100) hx hb dX10_chance_66 (by decide) ?_
      refine lv_aload_n hx hb dX10_chance_68 rfl (lv_at hl 2 rfl) ?_
      refine gf_X3_risk X hW h2 m_1_77 dX10_chance_69 ?_
      refine lv_iload hx hb dX10_chance_72 (lv_at hl 0 rfl) ?_
      obtain ⟨r_2, hcl, h⟩ := bind_el h
      refine call_S1 X hW m_3_104 m_2_132 mv_X10_at (c_X10_at (kf_X3_risk h2) hcl) (by decide) rfl rfl (Nat.le_of_ble_eq_true rfl) hl.1 dX10_chance_74 ?_
      clear hW hcl; intro H locs hW
      refine lv_isub hx hb dX10_chance_77 ?_
      refine lv_i2d hx hb dX10_chance_78 ?_
      refine lv_ldc2d (v := 4636737291354636288) hx hb X.1.2.2.2.1 (X.1.2.2.2.2 _ m_5_136) dX10_chance_79 ?_
      obtain ⟨hnn, h⟩ := ckD_el h
      refine lv_ddiv hx hb dX10_chance_82 hnn ?_
      obtain ⟨hnn, h⟩ := ckD_el h
      refine lv_dmul hx hb dX10_chance_83 hnn ?_
      refine nm_d h ?_
      clear h; intro v3_3 h
      refine lv_dstore_n (lv' := [(3, .double (v3_3)), (8, .int (r_1)), (0, .ref (gz G + (v0))), (2, .ref (gz G + (v2))), (5, .int (v5)), (6, .int (v6)), (7, .int (v7))]) hx hb dX10_chance_84 rfl hl (by decide) rfl ?_
      clear hl; intro ls hl
      refine lv_iload hx hb dX10_chance_85 (lv_at hl 4 rfl) ?_
      refine lv_iconst (v := 1) hx hb dX10_chance_87 (by decide) ?_
      refine lv_iload hx hb dX10_chance_88 (lv_at hl 1 rfl) ?_
      refine w_ishl hx hb dX10_chance_90 ?_
      refine lv_ior hx hb dX10_chance_91 ?_
      refine nm_i h ?_
      clear h; intro v5_4 h
      refine lv_istore (lv' := [(5, .int (v5_4)), (3, .double (v3_3)), (8, .int (r_1)), (0, .ref (gz G + (v0))), (2, .ref (gz G + (v2))), (6, .int (v6)), (7, .int (v7))]) hx hb dX10_chance_92 hl (by decide) rfl ?_
      clear hl; intro ls hl
      refine w_iinc (v := 1) (lv' := fun y => [(7, .int (y)), (5, .int (v5_4)), (3, .double (v3_3)), (8, .int (r_1)), (0, .ref (gz G + (v0))), (2, .ref (gz G + (v2))), (6, .int (v6))]) hx hb dX10_chance_94 hl (k := 6) rfl (by decide) (by decide) (fun _ => rfl) h ?_
      clear h hl; intro v7_5 h ls hl
      refine lv_goto (tgt := 47) hx hb dX10_chance_97 (by decide) ?_
      exact ih v0 h0 v2 h2 v3_3 v5_4 v6 v7_5 σ h _ _ _ hW (lv_sub hl [4, 5, 2, 1, 6, 0] rfl)
set_option maxRecDepth 20000 in
set_option maxHeartbeats 4000000 in
theorem x_X10_chance {G : Gt} {l : Launch} {v0 : Nat} (h0 : kd v0 = 9) {v1 : Int32} {σ : St} {r : Nat} {σ' : St} (hf : pf_X10_chance v0 v1 σ = some (.inl r, σ')) : CtT G l yX10_chance cX10_chance 9 (some .double) 8 [.ref (gz G + (v0)), .int (v1)] σ r σ' := by
  refine met_t (by decide +kernel) (Nat.le_of_ble_eq_true rfl) (by decide) ?_
  intro p e s m args below meth c Q ls X hW hthr hpr hl
  have hx := X.1.1
  have hb := X.1.2.1
  have hl : lv_has ls 9 [(0, .ref (gz G + (v0))), (1, .int (v1))] := hl
  have h := hf
  clear hf
  unfold pf_X10_chance at h
  refine lv_aload_n hx hb dX10_chance_0 rfl (lv_at hl 0 rfl) ?_
  refine lv_iload_n hx hb dX10_chance_1 rfl (lv_at hl 1 rfl) ?_
  rcases bndX0W_t h with ⟨hcl, rfl⟩ | ⟨r_1, hcl, h⟩
  · exact tcall_V X hW (kC_X10 h0) m_3_113 m_3_115 m_0_15 mv_X10_questAt (x_X10_questAt h0 hcl) (by decide) rfl rfl (Nat.le_of_ble_eq_true rfl) hl.1 dX10_chance_2 hpr
  refine call_V1 X hW (kC_X10 h0) m_3_113 m_3_115 m_0_15 mv_X10_questAt (c_X10_questAt h0 hcl) (by decide) rfl rfl (Nat.le_of_ble_eq_true rfl) hl.1 dX10_chance_2 ?_
  clear hW hcl; intro H locs hW
  obtain ⟨hk2, h⟩ := ckK_el h
  refine lv_astore_n (lv' := [(2, .ref (gz G + (r_1))), (0, .ref (gz G + (v0))), (1, .int (v1))]) hx hb dX10_chance_5 rfl hl (by decide) rfl ?_
  clear hl; intro ls hl
  refine lv_aload_n hx hb dX10_chance_6 rfl (lv_at hl 1 rfl) ?_
  refine gf_X10_ways X hW h0 m_2_68 dX10_chance_7 ?_
  refine lv_aload_n hx hb dX10_chance_10 rfl (lv_at hl 0 rfl) ?_
  refine lv_aload_n hx hb dX10_chance_11 rfl (lv_at hl 1 rfl) ?_
  refine gf_X10_now X hW h0 m_2_64 dX10_chance_12 ?_
  refine gf_X2_stock X hW (kf_X10_now h0) m_1_136 dX10_chance_15 ?_
  obtain ⟨r_3, σ_3, hcl, h⟩ := bnd2_el h
  refine call_V1 X hW (kC_X7 (kf_X10_ways h0)) m_2_124 m_2_125 m_2_126 mv_X7_explore (c_X7_explore (kf_X10_ways h0) hk2 (kf_X2_stock (kf_X10_now h0)) hcl) (by decide) rfl rfl (Nat.le_of_ble_eq_true rfl) hl.1 dX10_chance_18 ?_
  clear hW hcl; intro H locs hW
  refine lv_if_ne (tgt := 26) hx hb dX10_chance_21 (by decide) (fun hc => ?_) (fun hc => ?_)
  · replace h := if_f hc h
    refine lv_dconst1 hx hb dX10_chance_26 ?_
    refine lv_dstore_n (lv' := [(3, .double (FP.dconst1)), (2, .ref (gz G + (r_1))), (0, .ref (gz G + (v0))), (1, .int (v1))]) hx hb dX10_chance_27 rfl hl (by decide) rfl ?_
    clear hl; intro ls hl
    refine lv_aload_n hx hb dX10_chance_28 rfl (lv_at hl 1 rfl) ?_
    refine gf_X3_done X hW hk2 m_1_61 dX10_chance_29 ?_
    refine nm_i h ?_
    clear h; intro v5_4 h
    refine lv_istore (lv' := [(5, .int (v5_4)), (3, .double (FP.dconst1)), (2, .ref (gz G + (r_1))), (0, .ref (gz G + (v0))), (1, .int (v1))]) hx hb dX10_chance_32 hl (by decide) rfl ?_
    clear hl; intro ls hl
    refine lv_aload_n hx hb dX10_chance_34 rfl (lv_at hl 3 rfl) ?_
    refine gf_X10_ways X hW h0 m_2_68 dX10_chance_35 ?_
    refine lv_aload_n hx hb dX10_chance_38 rfl (lv_at hl 2 rfl) ?_
    obtain ⟨r_5, hcl, h⟩ := bind_el h
    refine call_V1 X hW (kC_X7 (kf_X10_ways h0)) m_2_174 m_2_175 m_2_176 mv_X7_lengthOfPlan (c_X7_lengthOfPlan (kf_X10_ways h0) hk2 hcl) (by decide) rfl rfl (Nat.le_of_ble_eq_true rfl) hl.1 dX10_chance_39 ?_
    clear hW hcl; intro H locs hW
    refine lv_istore (lv' := [(6, .int (r_5)), (5, .int (v5_4)), (3, .double (FP.dconst1)), (2, .ref (gz G + (r_1))), (0, .ref (gz G + (v0))), (1, .int (v1))]) hx hb dX10_chance_42 hl (by decide) rfl ?_
    clear hl; intro ls hl
    refine lv_iconst (v := 0) hx hb dX10_chance_44 (by decide) ?_
    refine lv_istore (lv' := [(7, .int (0)), (6, .int (r_5)), (5, .int (v5_4)), (3, .double (FP.dconst1)), (2, .ref (gz G + (r_1))), (0, .ref (gz G + (v0))), (1, .int (v1))]) hx hb dX10_chance_45 hl (by decide) rfl ?_
    clear hl; intro ls hl
    exact xl_X10_chance_L47 X hthr hpr (xl_X10_chance_b100 X hthr hpr) FU v0 h0 r_1 hk2 (FP.dconst1) v5_4 r_5 0 σ_3 h _ _ _ hW (lv_sub hl [5, 4, 3, 2, 1, 0] rfl)
  · replace h := if_t hc h
    refine lv_dconst0 hx hb dX10_chance_24 ?_
    cases h
set_option maxRecDepth 20000 in
set_option maxHeartbeats 4000000 in
theorem c_X10_progress {G : Gt} {l : Launch} {v0 : Nat} (h0 : kd v0 = 9) {σ : St} {r : UInt32} {σ' : St} (hf : pf_X10_progress v0 σ = some (.inr r, σ')) : Ct G l yX10_progress cX10_progress 2 (some .float) 9 [.ref (gz G + (v0))] σ (some (.float r)) σ' := by
  refine met_f (by decide +kernel) (Nat.le_of_ble_eq_true rfl) rfl ?_
  intro p e s m args below meth c Q ls X hW hret hl
  have hx := X.1.1
  have hb := X.1.2.1
  have hl : lv_has ls 2 [(0, .ref (gz G + (v0)))] := hl
  have h := hf
  clear hf
  unfold pf_X10_progress at h
  refine lv_aload_n hx hb dX10_progress_0 rfl (lv_at hl 0 rfl) ?_
  refine lv_iconst (v := 1) hx hb dX10_progress_1 (by decide) ?_
  obtain ⟨r_1, σ_1, hcl, h⟩ := bndXW_n h
  refine call_V1 X hW (kC_X10 h0) m_3_18 m_3_19 m_3_20 mv_X10_state (c_X10_state h0 hcl) (by decide) rfl rfl (Nat.le_of_ble_eq_true rfl) hl.1 dX10_progress_2 ?_
  clear hW hcl; intro H locs hW
  refine lv_istore_n (lv' := [(1, .int (r_1)), (0, .ref (gz G + (v0)))]) hx hb dX10_progress_5 rfl hl (by decide) rfl ?_
  clear hl; intro ls hl
  refine lv_iload_n hx hb dX10_progress_6 rfl (lv_at hl 0 rfl) ?_
  refine lv_if_gt (tgt := 12) hx hb dX10_progress_7 (by decide) (fun hc => ?_) (fun hc => ?_)
  · replace h := if_t hc h
    refine lv_aload_n hx hb dX10_progress_12 rfl (lv_at hl 1 rfl) ?_
    refine lv_iconst (v := 4) hx hb dX10_progress_13 (by decide) ?_
    obtain ⟨r_2, σ_2, hcl, h⟩ := bndXW_n h
    refine call_V1 X hW (kC_X10 h0) m_3_18 m_3_19 m_3_20 mv_X10_state (c_X10_state h0 hcl) (by decide) rfl rfl (Nat.le_of_ble_eq_true rfl) hl.1 dX10_progress_14 ?_
    clear hW hcl; intro H locs hW
    refine lv_i2f hx hb dX10_progress_17 ?_
    refine lv_iload_n hx hb dX10_progress_18 rfl (lv_at hl 0 rfl) ?_
    refine lv_i2f hx hb dX10_progress_19 ?_
    obtain ⟨hnn, h⟩ := ckF_el h
    refine lv_fdiv hx hb dX10_progress_20 hnn ?_
    replace h := xr_el h
    exact rf_end hret h dX10_progress_21 hW
  · replace h := if_f hc h
    refine lv_fconst0 hx hb dX10_progress_10 ?_
    replace h := xr_el h
    exact rf_end hret h dX10_progress_11 hW
set_option maxRecDepth 20000 in
set_option maxHeartbeats 4000000 in
theorem x_X10_progress {G : Gt} {l : Launch} {v0 : Nat} (h0 : kd v0 = 9) {σ : St} {r : Nat} {σ' : St} (hf : pf_X10_progress v0 σ = some (.inl r, σ')) : CtT G l yX10_progress cX10_progress 2 (some .float) 9 [.ref (gz G + (v0))] σ r σ' := by
  refine met_t (by decide +kernel) (Nat.le_of_ble_eq_true rfl) (by decide) ?_
  intro p e s m args below meth c Q ls X hW hthr hpr hl
  have hx := X.1.1
  have hb := X.1.2.1
  have hl : lv_has ls 2 [(0, .ref (gz G + (v0)))] := hl
  have h := hf
  clear hf
  unfold pf_X10_progress at h
  refine lv_aload_n hx hb dX10_progress_0 rfl (lv_at hl 0 rfl) ?_
  refine lv_iconst (v := 1) hx hb dX10_progress_1 (by decide) ?_
  rcases bndXW_t h with hcl | ⟨r_1, σ_1, hcl, h⟩
  · exact tcall_V X hW (kC_X10 h0) m_3_18 m_3_19 m_3_20 mv_X10_state (x_X10_state h0 hcl) (by decide) rfl rfl (Nat.le_of_ble_eq_true rfl) hl.1 dX10_progress_2 hpr
  refine call_V1 X hW (kC_X10 h0) m_3_18 m_3_19 m_3_20 mv_X10_state (c_X10_state h0 hcl) (by decide) rfl rfl (Nat.le_of_ble_eq_true rfl) hl.1 dX10_progress_2 ?_
  clear hW hcl; intro H locs hW
  refine lv_istore_n (lv' := [(1, .int (r_1)), (0, .ref (gz G + (v0)))]) hx hb dX10_progress_5 rfl hl (by decide) rfl ?_
  clear hl; intro ls hl
  refine lv_iload_n hx hb dX10_progress_6 rfl (lv_at hl 0 rfl) ?_
  refine lv_if_gt (tgt := 12) hx hb dX10_progress_7 (by decide) (fun hc => ?_) (fun hc => ?_)
  · replace h := if_t hc h
    refine lv_aload_n hx hb dX10_progress_12 rfl (lv_at hl 1 rfl) ?_
    refine lv_iconst (v := 4) hx hb dX10_progress_13 (by decide) ?_
    rcases bndXW_t h with hcl | ⟨r_2, σ_2, hcl, h⟩
    · exact tcall_V X hW (kC_X10 h0) m_3_18 m_3_19 m_3_20 mv_X10_state (x_X10_state h0 hcl) (by decide) rfl rfl (Nat.le_of_ble_eq_true rfl) hl.1 dX10_progress_14 hpr
    refine call_V1 X hW (kC_X10 h0) m_3_18 m_3_19 m_3_20 mv_X10_state (c_X10_state h0 hcl) (by decide) rfl rfl (Nat.le_of_ble_eq_true rfl) hl.1 dX10_progress_14 ?_
    clear hW hcl; intro H locs hW
    refine lv_i2f hx hb dX10_progress_17 ?_
    refine lv_iload_n hx hb dX10_progress_18 rfl (lv_at hl 0 rfl) ?_
    refine lv_i2f hx hb dX10_progress_19 ?_
    obtain ⟨hnn, h⟩ := ckF_el h
    refine lv_fdiv hx hb dX10_progress_20 hnn ?_
    cases h
  · replace h := if_f hc h
    refine lv_fconst0 hx hb dX10_progress_10 ?_
    cases h
set_option maxRecDepth 20000 in
set_option maxHeartbeats 4000000 in
theorem bl_X10_tell_b20 (X : Cx G p R s m args c cells slots cX10_tell 3 RX10 7) {r : Int32} {σ' : St} (hret : R_I G p l e R s m args below meth c cells slots Q cX10_tell r σ') :
    ∀ (σ : St) (_ : pf_X10_tell_b20 σ = some (.inr r, σ')) (H : Heap) (locs : List Loc) (ls : Array Slot) (_ : GW G σ s H locs) (_ : lv_has ls 3 []), W p l e R s m args below meth c H locs cells slots Q (F0 m 20 ls []) := by
  have hx := X.1.1
  have hb := X.1.2.1
  intro σ h H locs ls hW hl
  unfold pf_X10_tell_b20 at h
  cases h
set_option maxRecDepth 20000 in
set_option maxHeartbeats 4000000 in
theorem c_X10_tell {G : Gt} {l : Launch} {v0 : Nat} (h0 : kd v0 = 9) {v1 : Int32} {v2 : Int32} {σ : St} {r : Int32} {σ' : St} (hf : pf_X10_tell v0 v1 v2 σ = some (.inr r, σ')) : Ct G l yX10_tell cX10_tell 3 (some .int) 7 [.ref (gz G + (v0)), .int (v1), .int (v2)] σ (some (.int r)) σ' := by
  refine met_i (by decide +kernel) (Nat.le_of_ble_eq_true rfl) rfl ?_
  intro p e s m args below meth c Q ls X hW hret hl
  have hx := X.1.1
  have hb := X.1.2.1
  have hl : lv_has ls 3 [(0, .ref (gz G + (v0))), (1, .int (v1)), (2, .int (v2))] := hl
  have h := hf
  clear hf
  unfold pf_X10_tell at h
  refine lv_iload_n hx hb dX10_tell_0 rfl (lv_at hl 1 rfl) ?_
  refine lv_if_lt (tgt := 20) hx hb dX10_tell_1 (by decide) (fun hc => ?_) (fun hc => ?_)
  · replace h := if_t hc h
    exact bl_X10_tell_b20 X hret σ h _ _ _ hW (lv_sub hl [] rfl)
  · replace h := if_f hc h
    refine lv_iload_n hx hb dX10_tell_4 rfl (lv_at hl 1 rfl) ?_
    refine lv_bipush (v := 99) hx hb dX10_tell_5 (by decide) ?_
    refine lv_icmp_gt (tgt := 20) hx hb dX10_tell_7 (by decide) (fun hc => ?_) (fun hc => ?_)
    · replace h := if_t hc h
      exact bl_X10_tell_b20 X hret σ h _ _ _ hW (lv_sub hl [] rfl)
    · replace h := if_f hc h
      refine lv_iload_n hx hb dX10_tell_10 rfl (lv_at hl 2 rfl) ?_
      refine lv_if_lt (tgt := 20) hx hb dX10_tell_11 (by decide) (fun hc => ?_) (fun hc => ?_)
      · replace h := if_t hc h
        exact bl_X10_tell_b20 X hret σ h _ _ _ hW (lv_sub hl [] rfl)
      · replace h := if_f hc h
        refine lv_iload_n hx hb dX10_tell_14 rfl (lv_at hl 2 rfl) ?_
        refine lv_bipush (v := 99) hx hb dX10_tell_15 (by decide) ?_
        refine lv_icmp_le (tgt := 28) hx hb dX10_tell_17 (by decide) (fun hc => ?_) (fun hc => ?_)
        · replace h := if_t hc h
          refine lv_aload_n hx hb dX10_tell_28 rfl (lv_at hl 0 rfl) ?_
          refine gf_X10_now X hW h0 m_2_64 dX10_tell_29 ?_
          refine gf_X2_queueLength X hW (kf_X10_now h0) m_1_139 dX10_tell_32 ?_
          refine lv_iconst (v := 2) hx hb dX10_tell_35 (by decide) ?_
          refine lv_iadd hx hb dX10_tell_36 ?_
          refine lv_bipush (v := 40) hx hb dX10_tell_37 (by decide) ?_
          refine lv_icmp_le (tgt := 50) hx hb dX10_tell_39 (by decide) (fun hc => ?_) (fun hc => ?_)
          · replace h := if_t hc h
            refine lv_aload_n hx hb dX10_tell_50 rfl (lv_at hl 0 rfl) ?_
            refine gf_X10_history X hW h0 m_2_66 dX10_tell_51 ?_
            refine lv_aload_n hx hb dX10_tell_54 rfl (lv_at hl 0 rfl) ?_
            refine gf_X10_now X hW h0 m_2_64 dX10_tell_55 ?_
            obtain ⟨σ_1, hcl, h⟩ := bind_el h
            refine call_V0 X hW (kC_X1 (kf_X10_history h0)) m_4_234 m_4_235 m_4_236 mv_X1_remember (c_X1_remember (kf_X10_history h0) (kf_X10_now h0) hcl) (by decide) rfl rfl (Nat.le_of_ble_eq_true rfl) hl.1 dX10_tell_58 ?_
            clear hW hcl; intro H locs hW
            refine lv_aload_n hx hb dX10_tell_61 rfl (lv_at hl 0 rfl) ?_
            refine gf_X10_now X hW h0 m_2_64 dX10_tell_62 ?_
            refine lv_iload_n hx hb dX10_tell_65 rfl (lv_at hl 1 rfl) ?_
            obtain ⟨σ_2, hcl, h⟩ := bind_el h
            refine call_V0 X hW (kC_X2 (kf_X10_now h0)) m_5_160 m_5_161 m_5_162 mv_X2_enqueue (c_X2_enqueue (kf_X10_now h0) hcl) (by decide) rfl rfl (Nat.le_of_ble_eq_true rfl) hl.1 dX10_tell_66 ?_
            clear hW hcl; intro H locs hW
            refine lv_aload_n hx hb dX10_tell_69 rfl (lv_at hl 0 rfl) ?_
            refine gf_X10_now X hW h0 m_2_64 dX10_tell_70 ?_
            refine lv_iload_n hx hb dX10_tell_73 rfl (lv_at hl 2 rfl) ?_
            obtain ⟨σ_3, hcl, h⟩ := bind_el h
            refine call_V0 X hW (kC_X2 (kf_X10_now h0)) m_5_160 m_5_161 m_5_162 mv_X2_enqueue (c_X2_enqueue (kf_X10_now h0) hcl) (by decide) rfl rfl (Nat.le_of_ble_eq_true rfl) hl.1 dX10_tell_74 ?_
            clear hW hcl; intro H locs hW
            refine lv_aload_n hx hb dX10_tell_77 rfl (lv_at hl 0 rfl) ?_
            refine gf_X10_now X hW h0 m_2_64 dX10_tell_78 ?_
            refine gf_X2_queueLength X hW (kf_X10_now h0) m_1_139 dX10_tell_81 ?_
            replace h := xr_el h
            exact ri_end hret h dX10_tell_84 hW
          · replace h := if_f hc h
            cases h
        · replace h := if_f hc h
          exact bl_X10_tell_b20 X hret σ h _ _ _ hW (lv_sub hl [] rfl)
set_option maxRecDepth 20000 in
set_option maxHeartbeats 4000000 in
theorem xl_X10_tell_b20 (X : Cx G p R s m args c cells slots cX10_tell 3 RX10 7) {r : Nat} {σ' : St} (hthr : R_X G p l e R s m args below meth c cells slots Q cX10_tell 3 RX10 r σ') (hpr : R_P G p l e R s m args below meth c cells slots Q r σ') :
    ∀ (σ : St) (_ : pf_X10_tell_b20 σ = some (.inl r, σ')) (H : Heap) (locs : List Loc) (ls : Array Slot) (_ : GW G σ s H locs) (_ : lv_has ls 3 []), W p l e R s m args below meth c H locs cells slots Q (F0 m 20 ls []) := by
  have hx := X.1.1
  have hb := X.1.2.1
  intro σ h H locs ls hW hl
  unfold pf_X10_tell_b20 at h
  exact thr_end hthr h dX10_tell_20 dX10_tell_23 dX10_tell_24 dX10_tell_27 exw_1_66 hW (Nat.le_of_ble_eq_true rfl) hl.1
set_option maxRecDepth 20000 in
set_option maxHeartbeats 4000000 in
theorem x_X10_tell {G : Gt} {l : Launch} {v0 : Nat} (h0 : kd v0 = 9) {v1 : Int32} {v2 : Int32} {σ : St} {r : Nat} {σ' : St} (hf : pf_X10_tell v0 v1 v2 σ = some (.inl r, σ')) : CtT G l yX10_tell cX10_tell 3 (some .int) 7 [.ref (gz G + (v0)), .int (v1), .int (v2)] σ r σ' := by
  refine met_t (by decide +kernel) (Nat.le_of_ble_eq_true rfl) (by decide) ?_
  intro p e s m args below meth c Q ls X hW hthr hpr hl
  have hx := X.1.1
  have hb := X.1.2.1
  have hl : lv_has ls 3 [(0, .ref (gz G + (v0))), (1, .int (v1)), (2, .int (v2))] := hl
  have h := hf
  clear hf
  unfold pf_X10_tell at h
  refine lv_iload_n hx hb dX10_tell_0 rfl (lv_at hl 1 rfl) ?_
  refine lv_if_lt (tgt := 20) hx hb dX10_tell_1 (by decide) (fun hc => ?_) (fun hc => ?_)
  · replace h := if_t hc h
    exact xl_X10_tell_b20 X hthr hpr σ h _ _ _ hW (lv_sub hl [] rfl)
  · replace h := if_f hc h
    refine lv_iload_n hx hb dX10_tell_4 rfl (lv_at hl 1 rfl) ?_
    refine lv_bipush (v := 99) hx hb dX10_tell_5 (by decide) ?_
    refine lv_icmp_gt (tgt := 20) hx hb dX10_tell_7 (by decide) (fun hc => ?_) (fun hc => ?_)
    · replace h := if_t hc h
      exact xl_X10_tell_b20 X hthr hpr σ h _ _ _ hW (lv_sub hl [] rfl)
    · replace h := if_f hc h
      refine lv_iload_n hx hb dX10_tell_10 rfl (lv_at hl 2 rfl) ?_
      refine lv_if_lt (tgt := 20) hx hb dX10_tell_11 (by decide) (fun hc => ?_) (fun hc => ?_)
      · replace h := if_t hc h
        exact xl_X10_tell_b20 X hthr hpr σ h _ _ _ hW (lv_sub hl [] rfl)
      · replace h := if_f hc h
        refine lv_iload_n hx hb dX10_tell_14 rfl (lv_at hl 2 rfl) ?_
        refine lv_bipush (v := 99) hx hb dX10_tell_15 (by decide) ?_
        refine lv_icmp_le (tgt := 28) hx hb dX10_tell_17 (by decide) (fun hc => ?_) (fun hc => ?_)
        · replace h := if_t hc h
          refine lv_aload_n hx hb dX10_tell_28 rfl (lv_at hl 0 rfl) ?_
          refine gf_X10_now X hW h0 m_2_64 dX10_tell_29 ?_
          refine gf_X2_queueLength X hW (kf_X10_now h0) m_1_139 dX10_tell_32 ?_
          refine lv_iconst (v := 2) hx hb dX10_tell_35 (by decide) ?_
          refine lv_iadd hx hb dX10_tell_36 ?_
          refine lv_bipush (v := 40) hx hb dX10_tell_37 (by decide) ?_
          refine lv_icmp_le (tgt := 50) hx hb dX10_tell_39 (by decide) (fun hc => ?_) (fun hc => ?_)
          · replace h := if_t hc h
            refine lv_aload_n hx hb dX10_tell_50 rfl (lv_at hl 0 rfl) ?_
            refine gf_X10_history X hW h0 m_2_66 dX10_tell_51 ?_
            refine lv_aload_n hx hb dX10_tell_54 rfl (lv_at hl 0 rfl) ?_
            refine gf_X10_now X hW h0 m_2_64 dX10_tell_55 ?_
            obtain ⟨σ_1, hcl, h⟩ := bind_el h
            refine call_V0 X hW (kC_X1 (kf_X10_history h0)) m_4_234 m_4_235 m_4_236 mv_X1_remember (c_X1_remember (kf_X10_history h0) (kf_X10_now h0) hcl) (by decide) rfl rfl (Nat.le_of_ble_eq_true rfl) hl.1 dX10_tell_58 ?_
            clear hW hcl; intro H locs hW
            refine lv_aload_n hx hb dX10_tell_61 rfl (lv_at hl 0 rfl) ?_
            refine gf_X10_now X hW h0 m_2_64 dX10_tell_62 ?_
            refine lv_iload_n hx hb dX10_tell_65 rfl (lv_at hl 1 rfl) ?_
            obtain ⟨σ_2, hcl, h⟩ := bind_el h
            refine call_V0 X hW (kC_X2 (kf_X10_now h0)) m_5_160 m_5_161 m_5_162 mv_X2_enqueue (c_X2_enqueue (kf_X10_now h0) hcl) (by decide) rfl rfl (Nat.le_of_ble_eq_true rfl) hl.1 dX10_tell_66 ?_
            clear hW hcl; intro H locs hW
            refine lv_aload_n hx hb dX10_tell_69 rfl (lv_at hl 0 rfl) ?_
            refine gf_X10_now X hW h0 m_2_64 dX10_tell_70 ?_
            refine lv_iload_n hx hb dX10_tell_73 rfl (lv_at hl 2 rfl) ?_
            obtain ⟨σ_3, hcl, h⟩ := bind_el h
            refine call_V0 X hW (kC_X2 (kf_X10_now h0)) m_5_160 m_5_161 m_5_162 mv_X2_enqueue (c_X2_enqueue (kf_X10_now h0) hcl) (by decide) rfl rfl (Nat.le_of_ble_eq_true rfl) hl.1 dX10_tell_74 ?_
            clear hW hcl; intro H locs hW
            refine lv_aload_n hx hb dX10_tell_77 rfl (lv_at hl 0 rfl) ?_
            refine gf_X10_now X hW h0 m_2_64 dX10_tell_78 ?_
            refine gf_X2_queueLength X hW (kf_X10_now h0) m_1_139 dX10_tell_81 ?_
            cases h
          · replace h := if_f hc h
            exact thr_end hthr h dX10_tell_42 dX10_tell_45 dX10_tell_46 dX10_tell_49 exw_3_246 hW (Nat.le_of_ble_eq_true rfl) hl.1
        · replace h := if_f hc h
          exact xl_X10_tell_b20 X hthr hpr σ h _ _ _ hW (lv_sub hl [] rfl)
set_option maxRecDepth 20000 in
set_option maxHeartbeats 4000000 in
theorem c_X10_attempt {G : Gt} {l : Launch} {v0 : Nat} (h0 : kd v0 = 9) {v1 : Int32} {v2 : Int32} {σ : St} {r : Int32} {σ' : St} (hf : pf_X10_attempt v0 v1 v2 σ = some (.inr r, σ')) : Ct G l yX10_attempt cX10_attempt 4 (some .int) 9 [.ref (gz G + (v0)), .int (v1), .int (v2)] σ (some (.int r)) σ' := by
  refine met_i (by decide +kernel) (Nat.le_of_ble_eq_true rfl) rfl ?_
  intro p e s m args below meth c Q ls X hW hret hl
  have hx := X.1.1
  have hb := X.1.2.1
  have hl : lv_has ls 4 [(0, .ref (gz G + (v0))), (1, .int (v1)), (2, .int (v2))] := hl
  have h := hf
  clear hf
  unfold pf_X10_attempt at h
  refine lv_aload_n hx hb dX10_attempt_0 rfl (lv_at hl 0 rfl) ?_
  refine lv_iload_n hx hb dX10_attempt_1 rfl (lv_at hl 1 rfl) ?_
  refine lv_iload_n hx hb dX10_attempt_2 rfl (lv_at hl 2 rfl) ?_
  obtain ⟨r_1, hcl, h⟩ := bndX0W_n h
  refine call_V1 X hW (kC_X10 h0) m_3_149 m_3_151 m_0_16 mv_X10_questWithStep (c_X10_questWithStep h0 hcl) (by decide) rfl rfl (Nat.le_of_ble_eq_true rfl) hl.1 dX10_attempt_3 ?_
  clear hW hcl; intro H locs hW
  obtain ⟨hk2, h⟩ := ckK_el h
  refine lv_astore_n (lv' := [(3, .ref (gz G + (r_1))), (0, .ref (gz G + (v0))), (1, .int (v1)), (2, .int (v2))]) hx hb dX10_attempt_6 rfl hl (by decide) rfl ?_
  clear hl; intro ls hl
  refine lv_aload_n hx hb dX10_attempt_7 rfl (lv_at hl 0 rfl) ?_
  refine lv_iload_n hx hb dX10_attempt_8 rfl (lv_at hl 3 rfl) ?_
  refine lv_aload_n hx hb dX10_attempt_9 rfl (lv_at hl 1 rfl) ?_
  refine gf_X10_now X hW h0 m_2_64 dX10_attempt_10 ?_
  refine gf_X2_stock X hW (kf_X10_now h0) m_1_136 dX10_attempt_13 ?_
  obtain ⟨r_3, hcl, h⟩ := bind_el h
  refine call_V1 X hW (kC_X3 hk2) m_5_36 m_3_141 m_3_142 mv_X3_hindrance (c_X3_hindrance hk2 (kf_X2_stock (kf_X10_now h0)) hcl) (by decide) rfl rfl (Nat.le_of_ble_eq_true rfl) hl.1 dX10_attempt_16 ?_
  clear hW hcl; intro H locs hW
  refine lv_if_eq (tgt := 30) hx hb dX10_attempt_19 (by decide) (fun hc => ?_) (fun hc => ?_)
  · replace h := if_t hc h
    refine lv_aload_n hx hb dX10_attempt_30 rfl (lv_at hl 1 rfl) ?_
    refine gf_X10_history X hW h0 m_2_66 dX10_attempt_31 ?_
    refine lv_aload_n hx hb dX10_attempt_34 rfl (lv_at hl 1 rfl) ?_
    refine gf_X10_now X hW h0 m_2_64 dX10_attempt_35 ?_
    obtain ⟨σ_4, hcl, h⟩ := bind_el h
    refine call_V0 X hW (kC_X1 (kf_X10_history h0)) m_4_234 m_4_235 m_4_236 mv_X1_remember (c_X1_remember (kf_X10_history h0) (kf_X10_now h0) hcl) (by decide) rfl rfl (Nat.le_of_ble_eq_true rfl) hl.1 dX10_attempt_38 ?_
    clear hW hcl; intro H locs hW
    refine lv_aload_n hx hb dX10_attempt_41 rfl (lv_at hl 1 rfl) ?_
    refine gf_X10_now X hW h0 m_2_64 dX10_attempt_42 ?_
    refine lv_aload_n hx hb dX10_attempt_45 rfl (lv_at hl 0 rfl) ?_
    refine lv_iload_n hx hb dX10_attempt_46 rfl (lv_at hl 3 rfl) ?_
    obtain ⟨r_5, σ_5, hcl, h⟩ := bnd2_el h
    refine call_V1 X hW (kC_X2 (kf_X10_now h0)) m_5_171 m_5_172 m_5_173 mv_X2_tryStep (c_X2_tryStep (kf_X10_now h0) hk2 hcl) (by decide) rfl rfl (Nat.le_of_ble_eq_true rfl) hl.1 dX10_attempt_47 ?_
    clear hW hcl; intro H locs hW
    replace h := xr_el h
    exact ri_end hret h dX10_attempt_50 hW
  · replace h := if_f hc h
    cases h
set_option maxRecDepth 20000 in
set_option maxHeartbeats 4000000 in
theorem x_X10_attempt {G : Gt} {l : Launch} {v0 : Nat} (h0 : kd v0 = 9) {v1 : Int32} {v2 : Int32} {σ : St} {r : Nat} {σ' : St} (hf : pf_X10_attempt v0 v1 v2 σ = some (.inl r, σ')) : CtT G l yX10_attempt cX10_attempt 4 (some .int) 9 [.ref (gz G + (v0)), .int (v1), .int (v2)] σ r σ' := by
  refine met_t (by decide +kernel) (Nat.le_of_ble_eq_true rfl) (by decide) ?_
  intro p e s m args below meth c Q ls X hW hthr hpr hl
  have hx := X.1.1
  have hb := X.1.2.1
  have hl : lv_has ls 4 [(0, .ref (gz G + (v0))), (1, .int (v1)), (2, .int (v2))] := hl
  have h := hf
  clear hf
  unfold pf_X10_attempt at h
  refine lv_aload_n hx hb dX10_attempt_0 rfl (lv_at hl 0 rfl) ?_
  refine lv_iload_n hx hb dX10_attempt_1 rfl (lv_at hl 1 rfl) ?_
  refine lv_iload_n hx hb dX10_attempt_2 rfl (lv_at hl 2 rfl) ?_
  rcases bndX0W_t h with ⟨hcl, rfl⟩ | ⟨r_1, hcl, h⟩
  · exact tcall_V X hW (kC_X10 h0) m_3_149 m_3_151 m_0_16 mv_X10_questWithStep (x_X10_questWithStep h0 hcl) (by decide) rfl rfl (Nat.le_of_ble_eq_true rfl) hl.1 dX10_attempt_3 hpr
  refine call_V1 X hW (kC_X10 h0) m_3_149 m_3_151 m_0_16 mv_X10_questWithStep (c_X10_questWithStep h0 hcl) (by decide) rfl rfl (Nat.le_of_ble_eq_true rfl) hl.1 dX10_attempt_3 ?_
  clear hW hcl; intro H locs hW
  obtain ⟨hk2, h⟩ := ckK_el h
  refine lv_astore_n (lv' := [(3, .ref (gz G + (r_1))), (0, .ref (gz G + (v0))), (1, .int (v1)), (2, .int (v2))]) hx hb dX10_attempt_6 rfl hl (by decide) rfl ?_
  clear hl; intro ls hl
  refine lv_aload_n hx hb dX10_attempt_7 rfl (lv_at hl 0 rfl) ?_
  refine lv_iload_n hx hb dX10_attempt_8 rfl (lv_at hl 3 rfl) ?_
  refine lv_aload_n hx hb dX10_attempt_9 rfl (lv_at hl 1 rfl) ?_
  refine gf_X10_now X hW h0 m_2_64 dX10_attempt_10 ?_
  refine gf_X2_stock X hW (kf_X10_now h0) m_1_136 dX10_attempt_13 ?_
  obtain ⟨r_3, hcl, h⟩ := bind_el h
  refine call_V1 X hW (kC_X3 hk2) m_5_36 m_3_141 m_3_142 mv_X3_hindrance (c_X3_hindrance hk2 (kf_X2_stock (kf_X10_now h0)) hcl) (by decide) rfl rfl (Nat.le_of_ble_eq_true rfl) hl.1 dX10_attempt_16 ?_
  clear hW hcl; intro H locs hW
  refine lv_if_eq (tgt := 30) hx hb dX10_attempt_19 (by decide) (fun hc => ?_) (fun hc => ?_)
  · replace h := if_t hc h
    refine lv_aload_n hx hb dX10_attempt_30 rfl (lv_at hl 1 rfl) ?_
    refine gf_X10_history X hW h0 m_2_66 dX10_attempt_31 ?_
    refine lv_aload_n hx hb dX10_attempt_34 rfl (lv_at hl 1 rfl) ?_
    refine gf_X10_now X hW h0 m_2_64 dX10_attempt_35 ?_
    obtain ⟨σ_4, hcl, h⟩ := bind_el h
    refine call_V0 X hW (kC_X1 (kf_X10_history h0)) m_4_234 m_4_235 m_4_236 mv_X1_remember (c_X1_remember (kf_X10_history h0) (kf_X10_now h0) hcl) (by decide) rfl rfl (Nat.le_of_ble_eq_true rfl) hl.1 dX10_attempt_38 ?_
    clear hW hcl; intro H locs hW
    refine lv_aload_n hx hb dX10_attempt_41 rfl (lv_at hl 1 rfl) ?_
    refine gf_X10_now X hW h0 m_2_64 dX10_attempt_42 ?_
    refine lv_aload_n hx hb dX10_attempt_45 rfl (lv_at hl 0 rfl) ?_
    refine lv_iload_n hx hb dX10_attempt_46 rfl (lv_at hl 3 rfl) ?_
    obtain ⟨r_5, σ_5, hcl, h⟩ := bnd2_el h
    refine call_V1 X hW (kC_X2 (kf_X10_now h0)) m_5_171 m_5_172 m_5_173 mv_X2_tryStep (c_X2_tryStep (kf_X10_now h0) hk2 hcl) (by decide) rfl rfl (Nat.le_of_ble_eq_true rfl) hl.1 dX10_attempt_47 ?_
    clear hW hcl; intro H locs hW
    cases h
  · replace h := if_f hc h
    exact thr_end hthr h dX10_attempt_22 dX10_attempt_25 dX10_attempt_26 dX10_attempt_29 exw_3_246 hW (Nat.le_of_ble_eq_true rfl) hl.1
set_option maxRecDepth 20000 in
set_option maxHeartbeats 4000000 in
theorem bl_X10_play_L19 (X : Cx G p R s m args c cells slots cX10_play 4 RX10 8) {r : Int32} {σ' : St} (hret : R_I G p l e R s m args below meth c cells slots Q cX10_play r σ') :
    ∀ (n : Nat), ∀ (v0 : Nat) (h0 : kd v0 = 9) (v2 : Nat) (h2 : kd v2 = 3) (v3 : Int32) (σ : St) (_ : pf_X10_play_L19 n v0 v2 v3 σ = some (.inr r, σ')) (H : Heap) (locs : List Loc) (ls : Array Slot) (_ : GW G σ s H locs) (_ : lv_has ls 4 [(0, .ref (gz G + (v0))), (2, .ref (gz G + (v2))), (3, .int (v3))]), W p l e R s m args below meth c H locs cells slots Q (F0 m 19 ls []) := by
  have hx := X.1.1
  have hb := X.1.2.1
  intro n
  induction n with
  | zero => intro v0 h0 v2 h2 v3 σ h H locs ls hW hl; cases h
  | succ n ih =>
    intro v0 h0 v2 h2 v3 σ h H locs ls hW hl
    rw [pf_X10_play_L19.eq_2] at h
    refine lv_iload_n hx hb dX10_play_19 rfl (lv_at hl 2 rfl) ?_
    refine lv_ldc (v := 100000) hx hb X.1.2.2.2.1 (X.1.2.2.2.2 _ m_5_198) dX10_play_20 ?_
    refine lv_icmp_ge (tgt := 69) hx hb dX10_play_22 (by decide) (fun hc => ?_) (fun hc => ?_)
    · replace h := if_t hc h
      refine lv_iload_n hx hb dX10_play_69 rfl (lv_at hl 2 rfl) ?_
      replace h := xr_el h
      exact ri_end hret h dX10_play_70 hW
    · replace h := if_f hc h
      refine lv_aload_n hx hb dX10_play_25 rfl (lv_at hl 0 rfl) ?_
      refine gf_X10_ways X hW h0 m_2_68 dX10_play_26 ?_
      refine lv_aload_n hx hb dX10_play_29 rfl (lv_at hl 1 rfl) ?_
      refine lv_aload_n hx hb dX10_play_30 rfl (lv_at hl 0 rfl) ?_
      refine gf_X10_now X hW h0 m_2_64 dX10_play_31 ?_
      refine gf_X2_stock X hW (kf_X10_now h0) m_1_136 dX10_play_34 ?_
      obtain ⟨r_1, σ_1, hcl, h⟩ := bnd2_el h
      refine call_V1 X hW (kC_X7 (kf_X10_ways h0)) m_2_124 m_2_125 m_2_126 mv_X7_explore (c_X7_explore (kf_X10_ways h0) h2 (kf_X2_stock (kf_X10_now h0)) hcl) (by decide) rfl rfl (Nat.le_of_ble_eq_true rfl) hl.1 dX10_play_37 ?_
      clear hW hcl; intro H locs hW
      refine lv_if_eq (tgt := 69) hx hb dX10_play_40 (by decide) (fun hc => ?_) (fun hc => ?_)
      · replace h := if_t hc h
        refine lv_iload_n hx hb dX10_play_69 rfl (lv_at hl 2 rfl) ?_
        replace h := xr_el h
        exact ri_end hret h dX10_play_70 hW
      · replace h := if_f hc h
        refine lv_aload_n hx hb dX10_play_43 rfl (lv_at hl 0 rfl) ?_
        refine gf_X10_now X hW h0 m_2_64 dX10_play_44 ?_
        refine lv_aload_n hx hb dX10_play_47 rfl (lv_at hl 1 rfl) ?_
        refine lv_aload_n hx hb dX10_play_48 rfl (lv_at hl 0 rfl) ?_
        refine gf_X10_ways X hW h0 m_2_68 dX10_play_49 ?_
        refine lv_aload_n hx hb dX10_play_52 rfl (lv_at hl 1 rfl) ?_
        refine gf_X3_done X hW h2 m_1_61 dX10_play_53 ?_
        obtain ⟨r_2, hcl, h⟩ := bind_el h
        refine call_V1 X hW (kC_X7 (kf_X10_ways h0)) m_2_178 m_2_179 m_2_180 mv_X7_nextOfPlan (c_X7_nextOfPlan (kf_X10_ways h0) hcl) (by decide) rfl rfl (Nat.le_of_ble_eq_true rfl) hl.1 dX10_play_56 ?_
        clear hW hcl; intro H locs hW
        obtain ⟨r_3, σ_3, hcl, h⟩ := bnd2_el h
        refine call_V1 X hW (kC_X2 (kf_X10_now h0)) m_5_171 m_5_172 m_5_173 mv_X2_tryStep (c_X2_tryStep (kf_X10_now h0) h2 hcl) (by decide) rfl rfl (Nat.le_of_ble_eq_true rfl) hl.1 dX10_play_59 ?_
        clear hW hcl; intro H locs hW
        refine lv_pop hx hb dX10_play_62 rfl ?_
        refine w_iinc (v := 1) (lv' := fun y => [(3, .int (y)), (0, .ref (gz G + (v0))), (2, .ref (gz G + (v2)))]) hx hb dX10_play_63 hl (k := 2) rfl (by decide) (by decide) (fun _ => rfl) h ?_
        clear h hl; intro v3_4 h ls hl
        refine lv_goto (tgt := 19) hx hb dX10_play_66 (by decide) ?_
        exact ih v0 h0 v2 h2 v3_4 σ_3 h _ _ _ hW (lv_sub hl [1, 2, 0] rfl)
set_option maxRecDepth 20000 in
set_option maxHeartbeats 4000000 in
theorem c_X10_play {G : Gt} {l : Launch} {v0 : Nat} (h0 : kd v0 = 9) {v1 : Int32} {σ : St} {r : Int32} {σ' : St} (hf : pf_X10_play v0 v1 σ = some (.inr r, σ')) : Ct G l yX10_play cX10_play 4 (some .int) 8 [.ref (gz G + (v0)), .int (v1)] σ (some (.int r)) σ' := by
  refine met_i (by decide +kernel) (Nat.le_of_ble_eq_true rfl) rfl ?_
  intro p e s m args below meth c Q ls X hW hret hl
  have hx := X.1.1
  have hb := X.1.2.1
  have hl : lv_has ls 4 [(0, .ref (gz G + (v0))), (1, .int (v1))] := hl
  have h := hf
  clear hf
  unfold pf_X10_play at h
  refine lv_aload_n hx hb dX10_play_0 rfl (lv_at hl 0 rfl) ?_
  refine lv_iload_n hx hb dX10_play_1 rfl (lv_at hl 1 rfl) ?_
  obtain ⟨r_1, hcl, h⟩ := bndX0W_n h
  refine call_V1 X hW (kC_X10 h0) m_3_113 m_3_115 m_0_15 mv_X10_questAt (c_X10_questAt h0 hcl) (by decide) rfl rfl (Nat.le_of_ble_eq_true rfl) hl.1 dX10_play_2 ?_
  clear hW hcl; intro H locs hW
  obtain ⟨hk2, h⟩ := ckK_el h
  refine lv_astore_n (lv' := [(2, .ref (gz G + (r_1))), (0, .ref (gz G + (v0))), (1, .int (v1))]) hx hb dX10_play_5 rfl hl (by decide) rfl ?_
  clear hl; intro ls hl
  refine lv_aload_n hx hb dX10_play_6 rfl (lv_at hl 1 rfl) ?_
  refine gf_X10_history X hW h0 m_2_66 dX10_play_7 ?_
  refine lv_aload_n hx hb dX10_play_10 rfl (lv_at hl 1 rfl) ?_
  refine gf_X10_now X hW h0 m_2_64 dX10_play_11 ?_
  obtain ⟨σ_3, hcl, h⟩ := bind_el h
  refine call_V0 X hW (kC_X1 (kf_X10_history h0)) m_4_234 m_4_235 m_4_236 mv_X1_remember (c_X1_remember (kf_X10_history h0) (kf_X10_now h0) hcl) (by decide) rfl rfl (Nat.le_of_ble_eq_true rfl) hl.1 dX10_play_14 ?_
  clear hW hcl; intro H locs hW
  refine lv_iconst (v := 0) hx hb dX10_play_17 (by decide) ?_
  refine lv_istore_n (lv' := [(3, .int (0)), (2, .ref (gz G + (r_1))), (0, .ref (gz G + (v0))), (1, .int (v1))]) hx hb dX10_play_18 rfl hl (by decide) rfl ?_
  clear hl; intro ls hl
  exact bl_X10_play_L19 X hret FU v0 h0 r_1 hk2 0 σ_3 h _ _ _ hW (lv_sub hl [2, 1, 0] rfl)
set_option maxRecDepth 20000 in
set_option maxHeartbeats 4000000 in
theorem xl_X10_play_L19 (X : Cx G p R s m args c cells slots cX10_play 4 RX10 8) {r : Nat} {σ' : St} (hthr : R_X G p l e R s m args below meth c cells slots Q cX10_play 4 RX10 r σ') (hpr : R_P G p l e R s m args below meth c cells slots Q r σ') :
    ∀ (n : Nat), ∀ (v0 : Nat) (h0 : kd v0 = 9) (v2 : Nat) (h2 : kd v2 = 3) (v3 : Int32) (σ : St) (_ : pf_X10_play_L19 n v0 v2 v3 σ = some (.inl r, σ')) (H : Heap) (locs : List Loc) (ls : Array Slot) (_ : GW G σ s H locs) (_ : lv_has ls 4 [(0, .ref (gz G + (v0))), (2, .ref (gz G + (v2))), (3, .int (v3))]), W p l e R s m args below meth c H locs cells slots Q (F0 m 19 ls []) := by
  have hx := X.1.1
  have hb := X.1.2.1
  intro n
  induction n with
  | zero => intro v0 h0 v2 h2 v3 σ h H locs ls hW hl; cases h
  | succ n ih =>
    intro v0 h0 v2 h2 v3 σ h H locs ls hW hl
    rw [pf_X10_play_L19.eq_2] at h
    refine lv_iload_n hx hb dX10_play_19 rfl (lv_at hl 2 rfl) ?_
    refine lv_ldc (v := 100000) hx hb X.1.2.2.2.1 (X.1.2.2.2.2 _ m_5_198) dX10_play_20 ?_
    refine lv_icmp_ge (tgt := 69) hx hb dX10_play_22 (by decide) (fun hc => ?_) (fun hc => ?_)
    · replace h := if_t hc h
      refine lv_iload_n hx hb dX10_play_69 rfl (lv_at hl 2 rfl) ?_
      cases h
    · replace h := if_f hc h
      refine lv_aload_n hx hb dX10_play_25 rfl (lv_at hl 0 rfl) ?_
      refine gf_X10_ways X hW h0 m_2_68 dX10_play_26 ?_
      refine lv_aload_n hx hb dX10_play_29 rfl (lv_at hl 1 rfl) ?_
      refine lv_aload_n hx hb dX10_play_30 rfl (lv_at hl 0 rfl) ?_
      refine gf_X10_now X hW h0 m_2_64 dX10_play_31 ?_
      refine gf_X2_stock X hW (kf_X10_now h0) m_1_136 dX10_play_34 ?_
      obtain ⟨r_1, σ_1, hcl, h⟩ := bnd2_el h
      refine call_V1 X hW (kC_X7 (kf_X10_ways h0)) m_2_124 m_2_125 m_2_126 mv_X7_explore (c_X7_explore (kf_X10_ways h0) h2 (kf_X2_stock (kf_X10_now h0)) hcl) (by decide) rfl rfl (Nat.le_of_ble_eq_true rfl) hl.1 dX10_play_37 ?_
      clear hW hcl; intro H locs hW
      refine lv_if_eq (tgt := 69) hx hb dX10_play_40 (by decide) (fun hc => ?_) (fun hc => ?_)
      · replace h := if_t hc h
        refine lv_iload_n hx hb dX10_play_69 rfl (lv_at hl 2 rfl) ?_
        cases h
      · replace h := if_f hc h
        refine lv_aload_n hx hb dX10_play_43 rfl (lv_at hl 0 rfl) ?_
        refine gf_X10_now X hW h0 m_2_64 dX10_play_44 ?_
        refine lv_aload_n hx hb dX10_play_47 rfl (lv_at hl 1 rfl) ?_
        refine lv_aload_n hx hb dX10_play_48 rfl (lv_at hl 0 rfl) ?_
        refine gf_X10_ways X hW h0 m_2_68 dX10_play_49 ?_
        refine lv_aload_n hx hb dX10_play_52 rfl (lv_at hl 1 rfl) ?_
        refine gf_X3_done X hW h2 m_1_61 dX10_play_53 ?_
        obtain ⟨r_2, hcl, h⟩ := bind_el h
        refine call_V1 X hW (kC_X7 (kf_X10_ways h0)) m_2_178 m_2_179 m_2_180 mv_X7_nextOfPlan (c_X7_nextOfPlan (kf_X10_ways h0) hcl) (by decide) rfl rfl (Nat.le_of_ble_eq_true rfl) hl.1 dX10_play_56 ?_
        clear hW hcl; intro H locs hW
        obtain ⟨r_3, σ_3, hcl, h⟩ := bnd2_el h
        refine call_V1 X hW (kC_X2 (kf_X10_now h0)) m_5_171 m_5_172 m_5_173 mv_X2_tryStep (c_X2_tryStep (kf_X10_now h0) h2 hcl) (by decide) rfl rfl (Nat.le_of_ble_eq_true rfl) hl.1 dX10_play_59 ?_
        clear hW hcl; intro H locs hW
        refine lv_pop hx hb dX10_play_62 rfl ?_
        refine w_iinc (v := 1) (lv' := fun y => [(3, .int (y)), (0, .ref (gz G + (v0))), (2, .ref (gz G + (v2)))]) hx hb dX10_play_63 hl (k := 2) rfl (by decide) (by decide) (fun _ => rfl) h ?_
        clear h hl; intro v3_4 h ls hl
        refine lv_goto (tgt := 19) hx hb dX10_play_66 (by decide) ?_
        exact ih v0 h0 v2 h2 v3_4 σ_3 h _ _ _ hW (lv_sub hl [1, 2, 0] rfl)
set_option maxRecDepth 20000 in
set_option maxHeartbeats 4000000 in
theorem x_X10_play {G : Gt} {l : Launch} {v0 : Nat} (h0 : kd v0 = 9) {v1 : Int32} {σ : St} {r : Nat} {σ' : St} (hf : pf_X10_play v0 v1 σ = some (.inl r, σ')) : CtT G l yX10_play cX10_play 4 (some .int) 8 [.ref (gz G + (v0)), .int (v1)] σ r σ' := by
  refine met_t (by decide +kernel) (Nat.le_of_ble_eq_true rfl) (by decide) ?_
  intro p e s m args below meth c Q ls X hW hthr hpr hl
  have hx := X.1.1
  have hb := X.1.2.1
  have hl : lv_has ls 4 [(0, .ref (gz G + (v0))), (1, .int (v1))] := hl
  have h := hf
  clear hf
  unfold pf_X10_play at h
  refine lv_aload_n hx hb dX10_play_0 rfl (lv_at hl 0 rfl) ?_
  refine lv_iload_n hx hb dX10_play_1 rfl (lv_at hl 1 rfl) ?_
  rcases bndX0W_t h with ⟨hcl, rfl⟩ | ⟨r_1, hcl, h⟩
  · exact tcall_V X hW (kC_X10 h0) m_3_113 m_3_115 m_0_15 mv_X10_questAt (x_X10_questAt h0 hcl) (by decide) rfl rfl (Nat.le_of_ble_eq_true rfl) hl.1 dX10_play_2 hpr
  refine call_V1 X hW (kC_X10 h0) m_3_113 m_3_115 m_0_15 mv_X10_questAt (c_X10_questAt h0 hcl) (by decide) rfl rfl (Nat.le_of_ble_eq_true rfl) hl.1 dX10_play_2 ?_
  clear hW hcl; intro H locs hW
  obtain ⟨hk2, h⟩ := ckK_el h
  refine lv_astore_n (lv' := [(2, .ref (gz G + (r_1))), (0, .ref (gz G + (v0))), (1, .int (v1))]) hx hb dX10_play_5 rfl hl (by decide) rfl ?_
  clear hl; intro ls hl
  refine lv_aload_n hx hb dX10_play_6 rfl (lv_at hl 1 rfl) ?_
  refine gf_X10_history X hW h0 m_2_66 dX10_play_7 ?_
  refine lv_aload_n hx hb dX10_play_10 rfl (lv_at hl 1 rfl) ?_
  refine gf_X10_now X hW h0 m_2_64 dX10_play_11 ?_
  obtain ⟨σ_3, hcl, h⟩ := bind_el h
  refine call_V0 X hW (kC_X1 (kf_X10_history h0)) m_4_234 m_4_235 m_4_236 mv_X1_remember (c_X1_remember (kf_X10_history h0) (kf_X10_now h0) hcl) (by decide) rfl rfl (Nat.le_of_ble_eq_true rfl) hl.1 dX10_play_14 ?_
  clear hW hcl; intro H locs hW
  refine lv_iconst (v := 0) hx hb dX10_play_17 (by decide) ?_
  refine lv_istore_n (lv' := [(3, .int (0)), (2, .ref (gz G + (r_1))), (0, .ref (gz G + (v0))), (1, .int (v1))]) hx hb dX10_play_18 rfl hl (by decide) rfl ?_
  clear hl; intro ls hl
  exact xl_X10_play_L19 X hthr hpr FU v0 h0 r_1 hk2 0 σ_3 h _ _ _ hW (lv_sub hl [2, 1, 0] rfl)
set_option maxRecDepth 20000 in
set_option maxHeartbeats 4000000 in
theorem bl_X10_checkChange_b12 {σ : St} (X : Cx G p R s m args c cells slots cX10_checkChange 1 RX10 7)  (hret : R_V G p l e R s m args below meth c cells slots Q cX10_checkChange σ) :
    ∀ (_ : pf_X10_checkChange_b12 σ = some (.inr ())) (H : Heap) (locs : List Loc) (ls : Array Slot) (_ : GW G σ s H locs) (_ : lv_has ls 1 []), W p l e R s m args below meth c H locs cells slots Q (F0 m 12 ls []) := by
  have hx := X.1.1
  have hb := X.1.2.1
  intro h H locs ls hW hl
  unfold pf_X10_checkChange_b12 at h
  cases h
set_option maxRecDepth 20000 in
set_option maxHeartbeats 4000000 in
theorem c_X10_checkChange {G : Gt} {l : Launch} {v0 : Int32} {σ : St} (hf : pf_X10_checkChange v0 σ = some (.inr ())) : Ct G l yX10_checkChange cX10_checkChange 1 none 7 [.int (v0)] σ none σ := by
  refine met_v (by decide +kernel) (Nat.le_of_ble_eq_true rfl) rfl ?_
  intro p e s m args below meth c Q ls X hW hret hl
  have hx := X.1.1
  have hb := X.1.2.1
  have hl : lv_has ls 1 [(0, .int (v0))] := hl
  have h := hf
  clear hf
  unfold pf_X10_checkChange at h
  refine lv_iload_n hx hb dX10_checkChange_0 rfl (lv_at hl 0 rfl) ?_
  refine lv_iconst (v := 1) hx hb dX10_checkChange_1 (by decide) ?_
  refine lv_icmp_lt (tgt := 12) hx hb dX10_checkChange_2 (by decide) (fun hc => ?_) (fun hc => ?_)
  · replace h := if_t hc h
    exact bl_X10_checkChange_b12 X hret h _ _ _ hW (lv_sub hl [] rfl)
  · replace h := if_f hc h
    refine lv_iload_n hx hb dX10_checkChange_5 rfl (lv_at hl 0 rfl) ?_
    refine lv_sipush (v := 999) hx hb dX10_checkChange_6 (by decide) ?_
    refine lv_icmp_le (tgt := 20) hx hb dX10_checkChange_9 (by decide) (fun hc => ?_) (fun hc => ?_)
    · replace h := if_t hc h
      skip
      exact hret _ _ _ _ dX10_checkChange_20 hW
    · replace h := if_f hc h
      exact bl_X10_checkChange_b12 X hret h _ _ _ hW (lv_sub hl [] rfl)
set_option maxRecDepth 20000 in
set_option maxHeartbeats 4000000 in
theorem xl_X10_checkChange_b12 {σ : St} (X : Cx G p R s m args c cells slots cX10_checkChange 1 RX10 7) {r : Nat} (hthr : R_X G p l e R s m args below meth c cells slots Q cX10_checkChange 1 RX10 r σ) (hpr : R_P G p l e R s m args below meth c cells slots Q r σ) :
    ∀ (_ : pf_X10_checkChange_b12 σ = some (.inl r)) (H : Heap) (locs : List Loc) (ls : Array Slot) (_ : GW G σ s H locs) (_ : lv_has ls 1 []), W p l e R s m args below meth c H locs cells slots Q (F0 m 12 ls []) := by
  have hx := X.1.1
  have hb := X.1.2.1
  intro h H locs ls hW hl
  unfold pf_X10_checkChange_b12 at h
  exact thr_end0 hthr h dX10_checkChange_12 dX10_checkChange_15 dX10_checkChange_16 dX10_checkChange_19 exw_1_66 hW (Nat.le_of_ble_eq_true rfl) hl.1
set_option maxRecDepth 20000 in
set_option maxHeartbeats 4000000 in
theorem x_X10_checkChange {G : Gt} {l : Launch} {v0 : Int32} {σ : St} {r : Nat} (hf : pf_X10_checkChange v0 σ = some (.inl r)) : CtT G l yX10_checkChange cX10_checkChange 1 none 7 [.int (v0)] σ r σ := by
  refine met_t (by decide +kernel) (Nat.le_of_ble_eq_true rfl) (by decide) ?_
  intro p e s m args below meth c Q ls X hW hthr hpr hl
  have hx := X.1.1
  have hb := X.1.2.1
  have hl : lv_has ls 1 [(0, .int (v0))] := hl
  have h := hf
  clear hf
  unfold pf_X10_checkChange at h
  refine lv_iload_n hx hb dX10_checkChange_0 rfl (lv_at hl 0 rfl) ?_
  refine lv_iconst (v := 1) hx hb dX10_checkChange_1 (by decide) ?_
  refine lv_icmp_lt (tgt := 12) hx hb dX10_checkChange_2 (by decide) (fun hc => ?_) (fun hc => ?_)
  · replace h := if_t hc h
    exact xl_X10_checkChange_b12 X hthr hpr h _ _ _ hW (lv_sub hl [] rfl)
  · replace h := if_f hc h
    refine lv_iload_n hx hb dX10_checkChange_5 rfl (lv_at hl 0 rfl) ?_
    refine lv_sipush (v := 999) hx hb dX10_checkChange_6 (by decide) ?_
    refine lv_icmp_le (tgt := 20) hx hb dX10_checkChange_9 (by decide) (fun hc => ?_) (fun hc => ?_)
    · replace h := if_t hc h
      cases h
    · replace h := if_f hc h
      exact xl_X10_checkChange_b12 X hthr hpr h _ _ _ hW (lv_sub hl [] rfl)
set_option maxRecDepth 20000 in
set_option maxHeartbeats 4000000 in
theorem c_X10_add {G : Gt} {l : Launch} {v0 : Nat} (h0 : kd v0 = 9) {v1 : Int32} {v2 : Int32} {σ : St} {r : Int32} {σ' : St} (hf : pf_X10_add v0 v1 v2 σ = some (.inr r, σ')) : Ct G l yX10_add cX10_add 4 (some .int) 8 [.ref (gz G + (v0)), .int (v1), .int (v2)] σ (some (.int r)) σ' := by
  refine met_i (by decide +kernel) (Nat.le_of_ble_eq_true rfl) rfl ?_
  intro p e s m args below meth c Q ls X hW hret hl
  have hx := X.1.1
  have hb := X.1.2.1
  have hl : lv_has ls 4 [(0, .ref (gz G + (v0))), (1, .int (v1)), (2, .int (v2))] := hl
  have h := hf
  clear hf
  unfold pf_X10_add at h
  refine lv_iload_n hx hb dX10_add_0 rfl (lv_at hl 1 rfl) ?_
  obtain ⟨r_1, hcl, h⟩ := bndX0W_n h
  refine call_S0 X hW m_5_11 m_5_12 mv_X10_checkItem (c_X10_checkItem hcl) (by decide) rfl rfl (Nat.le_of_ble_eq_true rfl) hl.1 dX10_add_1 ?_
  clear hW hcl; intro H locs hW
  refine lv_iload_n hx hb dX10_add_4 rfl (lv_at hl 2 rfl) ?_
  obtain ⟨r_2, hcl, h⟩ := bndX0W_n h
  refine call_S0 X hW m_5_206 m_5_207 mv_X10_checkChange (c_X10_checkChange hcl) (by decide) rfl rfl (Nat.le_of_ble_eq_true rfl) hl.1 dX10_add_5 ?_
  clear hW hcl; intro H locs hW
  refine lv_aload_n hx hb dX10_add_8 rfl (lv_at hl 0 rfl) ?_
  refine gf_X10_now X hW h0 m_2_64 dX10_add_9 ?_
  refine gf_X2_stock X hW (kf_X10_now h0) m_1_136 dX10_add_12 ?_
  refine lv_iload_n hx hb dX10_add_15 rfl (lv_at hl 1 rfl) ?_
  obtain ⟨r_3, hcl, h⟩ := bind_el h
  refine call_S1 X hW m_3_104 m_2_132 mv_X10_at (c_X10_at (kf_X2_stock (kf_X10_now h0)) hcl) (by decide) rfl rfl (Nat.le_of_ble_eq_true rfl) hl.1 dX10_add_16 ?_
  clear hW hcl; intro H locs hW
  refine lv_iload_n hx hb dX10_add_19 rfl (lv_at hl 2 rfl) ?_
  refine lv_iadd hx hb dX10_add_20 ?_
  refine nm_i h ?_
  clear h; intro v3_4 h
  refine lv_istore_n (lv' := [(3, .int (v3_4)), (0, .ref (gz G + (v0))), (1, .int (v1)), (2, .int (v2))]) hx hb dX10_add_21 rfl hl (by decide) rfl ?_
  clear hl; intro ls hl
  refine lv_iload_n hx hb dX10_add_22 rfl (lv_at hl 0 rfl) ?_
  refine lv_ldcw (v := 1000000) hx hb X.1.2.2.2.1 (X.1.2.2.2.2 _ m_5_209) dX10_add_23 ?_
  refine lv_icmp_le (tgt := 37) hx hb dX10_add_26 (by decide) (fun hc => ?_) (fun hc => ?_)
  · replace h := if_t hc h
    refine lv_aload_n hx hb dX10_add_37 rfl (lv_at hl 1 rfl) ?_
    refine gf_X10_history X hW h0 m_2_66 dX10_add_38 ?_
    refine lv_aload_n hx hb dX10_add_41 rfl (lv_at hl 1 rfl) ?_
    refine gf_X10_now X hW h0 m_2_64 dX10_add_42 ?_
    obtain ⟨σ_5, hcl, h⟩ := bind_el h
    refine call_V0 X hW (kC_X1 (kf_X10_history h0)) m_4_234 m_4_235 m_4_236 mv_X1_remember (c_X1_remember (kf_X10_history h0) (kf_X10_now h0) hcl) (by decide) rfl rfl (Nat.le_of_ble_eq_true rfl) hl.1 dX10_add_45 ?_
    clear hW hcl; intro H locs hW
    refine lv_aload_n hx hb dX10_add_48 rfl (lv_at hl 1 rfl) ?_
    refine gf_X10_now X hW h0 m_2_64 dX10_add_49 ?_
    refine gf_X2_stock X hW (kf_X10_now h0) m_1_136 dX10_add_52 ?_
    refine lv_iload_n hx hb dX10_add_55 rfl (lv_at hl 2 rfl) ?_
    refine lv_iload_n hx hb dX10_add_56 rfl (lv_at hl 0 rfl) ?_
    obtain ⟨σ_6, hcl, h⟩ := bind_el h
    refine call_S0 X hW m_2_97 m_2_98 mv_X10_put (c_X10_put (kf_X2_stock (kf_X10_now h0)) hcl) (by decide) rfl rfl (Nat.le_of_ble_eq_true rfl) hl.1 dX10_add_57 ?_
    clear hW hcl; intro H locs hW
    refine lv_iload_n hx hb dX10_add_60 rfl (lv_at hl 0 rfl) ?_
    replace h := xr_el h
    exact ri_end hret h dX10_add_61 hW
  · replace h := if_f hc h
    cases h
set_option maxRecDepth 20000 in
set_option maxHeartbeats 4000000 in
theorem x_X10_add {G : Gt} {l : Launch} {v0 : Nat} (h0 : kd v0 = 9) {v1 : Int32} {v2 : Int32} {σ : St} {r : Nat} {σ' : St} (hf : pf_X10_add v0 v1 v2 σ = some (.inl r, σ')) : CtT G l yX10_add cX10_add 4 (some .int) 8 [.ref (gz G + (v0)), .int (v1), .int (v2)] σ r σ' := by
  refine met_t (by decide +kernel) (Nat.le_of_ble_eq_true rfl) (by decide) ?_
  intro p e s m args below meth c Q ls X hW hthr hpr hl
  have hx := X.1.1
  have hb := X.1.2.1
  have hl : lv_has ls 4 [(0, .ref (gz G + (v0))), (1, .int (v1)), (2, .int (v2))] := hl
  have h := hf
  clear hf
  unfold pf_X10_add at h
  refine lv_iload_n hx hb dX10_add_0 rfl (lv_at hl 1 rfl) ?_
  rcases bndX0W_t h with ⟨hcl, rfl⟩ | ⟨r_1, hcl, h⟩
  · exact tcall_S X hW m_5_11 m_5_12 mv_X10_checkItem (x_X10_checkItem hcl) (by decide) rfl rfl (Nat.le_of_ble_eq_true rfl) hl.1 dX10_add_1 hpr
  refine call_S0 X hW m_5_11 m_5_12 mv_X10_checkItem (c_X10_checkItem hcl) (by decide) rfl rfl (Nat.le_of_ble_eq_true rfl) hl.1 dX10_add_1 ?_
  clear hW hcl; intro H locs hW
  refine lv_iload_n hx hb dX10_add_4 rfl (lv_at hl 2 rfl) ?_
  rcases bndX0W_t h with ⟨hcl, rfl⟩ | ⟨r_2, hcl, h⟩
  · exact tcall_S X hW m_5_206 m_5_207 mv_X10_checkChange (x_X10_checkChange hcl) (by decide) rfl rfl (Nat.le_of_ble_eq_true rfl) hl.1 dX10_add_5 hpr
  refine call_S0 X hW m_5_206 m_5_207 mv_X10_checkChange (c_X10_checkChange hcl) (by decide) rfl rfl (Nat.le_of_ble_eq_true rfl) hl.1 dX10_add_5 ?_
  clear hW hcl; intro H locs hW
  refine lv_aload_n hx hb dX10_add_8 rfl (lv_at hl 0 rfl) ?_
  refine gf_X10_now X hW h0 m_2_64 dX10_add_9 ?_
  refine gf_X2_stock X hW (kf_X10_now h0) m_1_136 dX10_add_12 ?_
  refine lv_iload_n hx hb dX10_add_15 rfl (lv_at hl 1 rfl) ?_
  obtain ⟨r_3, hcl, h⟩ := bind_el h
  refine call_S1 X hW m_3_104 m_2_132 mv_X10_at (c_X10_at (kf_X2_stock (kf_X10_now h0)) hcl) (by decide) rfl rfl (Nat.le_of_ble_eq_true rfl) hl.1 dX10_add_16 ?_
  clear hW hcl; intro H locs hW
  refine lv_iload_n hx hb dX10_add_19 rfl (lv_at hl 2 rfl) ?_
  refine lv_iadd hx hb dX10_add_20 ?_
  refine nm_i h ?_
  clear h; intro v3_4 h
  refine lv_istore_n (lv' := [(3, .int (v3_4)), (0, .ref (gz G + (v0))), (1, .int (v1)), (2, .int (v2))]) hx hb dX10_add_21 rfl hl (by decide) rfl ?_
  clear hl; intro ls hl
  refine lv_iload_n hx hb dX10_add_22 rfl (lv_at hl 0 rfl) ?_
  refine lv_ldcw (v := 1000000) hx hb X.1.2.2.2.1 (X.1.2.2.2.2 _ m_5_209) dX10_add_23 ?_
  refine lv_icmp_le (tgt := 37) hx hb dX10_add_26 (by decide) (fun hc => ?_) (fun hc => ?_)
  · replace h := if_t hc h
    refine lv_aload_n hx hb dX10_add_37 rfl (lv_at hl 1 rfl) ?_
    refine gf_X10_history X hW h0 m_2_66 dX10_add_38 ?_
    refine lv_aload_n hx hb dX10_add_41 rfl (lv_at hl 1 rfl) ?_
    refine gf_X10_now X hW h0 m_2_64 dX10_add_42 ?_
    obtain ⟨σ_5, hcl, h⟩ := bind_el h
    refine call_V0 X hW (kC_X1 (kf_X10_history h0)) m_4_234 m_4_235 m_4_236 mv_X1_remember (c_X1_remember (kf_X10_history h0) (kf_X10_now h0) hcl) (by decide) rfl rfl (Nat.le_of_ble_eq_true rfl) hl.1 dX10_add_45 ?_
    clear hW hcl; intro H locs hW
    refine lv_aload_n hx hb dX10_add_48 rfl (lv_at hl 1 rfl) ?_
    refine gf_X10_now X hW h0 m_2_64 dX10_add_49 ?_
    refine gf_X2_stock X hW (kf_X10_now h0) m_1_136 dX10_add_52 ?_
    refine lv_iload_n hx hb dX10_add_55 rfl (lv_at hl 2 rfl) ?_
    refine lv_iload_n hx hb dX10_add_56 rfl (lv_at hl 0 rfl) ?_
    obtain ⟨σ_6, hcl, h⟩ := bind_el h
    refine call_S0 X hW m_2_97 m_2_98 mv_X10_put (c_X10_put (kf_X2_stock (kf_X10_now h0)) hcl) (by decide) rfl rfl (Nat.le_of_ble_eq_true rfl) hl.1 dX10_add_57 ?_
    clear hW hcl; intro H locs hW
    refine lv_iload_n hx hb dX10_add_60 rfl (lv_at hl 0 rfl) ?_
    cases h
  · replace h := if_f hc h
    exact thr_end hthr h dX10_add_29 dX10_add_32 dX10_add_33 dX10_add_36 exw_3_246 hW (Nat.le_of_ble_eq_true rfl) hl.1
set_option maxRecDepth 20000 in
set_option maxHeartbeats 4000000 in
theorem c_X10_spend {G : Gt} {l : Launch} {v0 : Nat} (h0 : kd v0 = 9) {v1 : Int32} {v2 : Int32} {σ : St} {r : Int32} {σ' : St} (hf : pf_X10_spend v0 v1 v2 σ = some (.inr r, σ')) : Ct G l yX10_spend cX10_spend 4 (some .int) 8 [.ref (gz G + (v0)), .int (v1), .int (v2)] σ (some (.int r)) σ' := by
  refine met_i (by decide +kernel) (Nat.le_of_ble_eq_true rfl) rfl ?_
  intro p e s m args below meth c Q ls X hW hret hl
  have hx := X.1.1
  have hb := X.1.2.1
  have hl : lv_has ls 4 [(0, .ref (gz G + (v0))), (1, .int (v1)), (2, .int (v2))] := hl
  have h := hf
  clear hf
  unfold pf_X10_spend at h
  refine lv_iload_n hx hb dX10_spend_0 rfl (lv_at hl 1 rfl) ?_
  obtain ⟨r_1, hcl, h⟩ := bndX0W_n h
  refine call_S0 X hW m_5_11 m_5_12 mv_X10_checkItem (c_X10_checkItem hcl) (by decide) rfl rfl (Nat.le_of_ble_eq_true rfl) hl.1 dX10_spend_1 ?_
  clear hW hcl; intro H locs hW
  refine lv_iload_n hx hb dX10_spend_4 rfl (lv_at hl 2 rfl) ?_
  obtain ⟨r_2, hcl, h⟩ := bndX0W_n h
  refine call_S0 X hW m_5_206 m_5_207 mv_X10_checkChange (c_X10_checkChange hcl) (by decide) rfl rfl (Nat.le_of_ble_eq_true rfl) hl.1 dX10_spend_5 ?_
  clear hW hcl; intro H locs hW
  refine lv_aload_n hx hb dX10_spend_8 rfl (lv_at hl 0 rfl) ?_
  refine gf_X10_now X hW h0 m_2_64 dX10_spend_9 ?_
  refine gf_X2_stock X hW (kf_X10_now h0) m_1_136 dX10_spend_12 ?_
  refine lv_iload_n hx hb dX10_spend_15 rfl (lv_at hl 1 rfl) ?_
  obtain ⟨r_3, hcl, h⟩ := bind_el h
  refine call_S1 X hW m_3_104 m_2_132 mv_X10_at (c_X10_at (kf_X2_stock (kf_X10_now h0)) hcl) (by decide) rfl rfl (Nat.le_of_ble_eq_true rfl) hl.1 dX10_spend_16 ?_
  clear hW hcl; intro H locs hW
  refine lv_iload_n hx hb dX10_spend_19 rfl (lv_at hl 2 rfl) ?_
  refine lv_isub hx hb dX10_spend_20 ?_
  refine nm_i h ?_
  clear h; intro v3_4 h
  refine lv_istore_n (lv' := [(3, .int (v3_4)), (0, .ref (gz G + (v0))), (1, .int (v1)), (2, .int (v2))]) hx hb dX10_spend_21 rfl hl (by decide) rfl ?_
  clear hl; intro ls hl
  refine lv_iload_n hx hb dX10_spend_22 rfl (lv_at hl 0 rfl) ?_
  refine lv_if_ge (tgt := 34) hx hb dX10_spend_23 (by decide) (fun hc => ?_) (fun hc => ?_)
  · replace h := if_t hc h
    refine lv_aload_n hx hb dX10_spend_34 rfl (lv_at hl 1 rfl) ?_
    refine gf_X10_history X hW h0 m_2_66 dX10_spend_35 ?_
    refine lv_aload_n hx hb dX10_spend_38 rfl (lv_at hl 1 rfl) ?_
    refine gf_X10_now X hW h0 m_2_64 dX10_spend_39 ?_
    obtain ⟨σ_5, hcl, h⟩ := bind_el h
    refine call_V0 X hW (kC_X1 (kf_X10_history h0)) m_4_234 m_4_235 m_4_236 mv_X1_remember (c_X1_remember (kf_X10_history h0) (kf_X10_now h0) hcl) (by decide) rfl rfl (Nat.le_of_ble_eq_true rfl) hl.1 dX10_spend_42 ?_
    clear hW hcl; intro H locs hW
    refine lv_aload_n hx hb dX10_spend_45 rfl (lv_at hl 1 rfl) ?_
    refine gf_X10_now X hW h0 m_2_64 dX10_spend_46 ?_
    refine gf_X2_stock X hW (kf_X10_now h0) m_1_136 dX10_spend_49 ?_
    refine lv_iload_n hx hb dX10_spend_52 rfl (lv_at hl 2 rfl) ?_
    refine lv_iload_n hx hb dX10_spend_53 rfl (lv_at hl 0 rfl) ?_
    obtain ⟨σ_6, hcl, h⟩ := bind_el h
    refine call_S0 X hW m_2_97 m_2_98 mv_X10_put (c_X10_put (kf_X2_stock (kf_X10_now h0)) hcl) (by decide) rfl rfl (Nat.le_of_ble_eq_true rfl) hl.1 dX10_spend_54 ?_
    clear hW hcl; intro H locs hW
    refine lv_iload_n hx hb dX10_spend_57 rfl (lv_at hl 0 rfl) ?_
    replace h := xr_el h
    exact ri_end hret h dX10_spend_58 hW
  · replace h := if_f hc h
    cases h
set_option maxRecDepth 20000 in
set_option maxHeartbeats 4000000 in
theorem x_X10_spend {G : Gt} {l : Launch} {v0 : Nat} (h0 : kd v0 = 9) {v1 : Int32} {v2 : Int32} {σ : St} {r : Nat} {σ' : St} (hf : pf_X10_spend v0 v1 v2 σ = some (.inl r, σ')) : CtT G l yX10_spend cX10_spend 4 (some .int) 8 [.ref (gz G + (v0)), .int (v1), .int (v2)] σ r σ' := by
  refine met_t (by decide +kernel) (Nat.le_of_ble_eq_true rfl) (by decide) ?_
  intro p e s m args below meth c Q ls X hW hthr hpr hl
  have hx := X.1.1
  have hb := X.1.2.1
  have hl : lv_has ls 4 [(0, .ref (gz G + (v0))), (1, .int (v1)), (2, .int (v2))] := hl
  have h := hf
  clear hf
  unfold pf_X10_spend at h
  refine lv_iload_n hx hb dX10_spend_0 rfl (lv_at hl 1 rfl) ?_
  rcases bndX0W_t h with ⟨hcl, rfl⟩ | ⟨r_1, hcl, h⟩
  · exact tcall_S X hW m_5_11 m_5_12 mv_X10_checkItem (x_X10_checkItem hcl) (by decide) rfl rfl (Nat.le_of_ble_eq_true rfl) hl.1 dX10_spend_1 hpr
  refine call_S0 X hW m_5_11 m_5_12 mv_X10_checkItem (c_X10_checkItem hcl) (by decide) rfl rfl (Nat.le_of_ble_eq_true rfl) hl.1 dX10_spend_1 ?_
  clear hW hcl; intro H locs hW
  refine lv_iload_n hx hb dX10_spend_4 rfl (lv_at hl 2 rfl) ?_
  rcases bndX0W_t h with ⟨hcl, rfl⟩ | ⟨r_2, hcl, h⟩
  · exact tcall_S X hW m_5_206 m_5_207 mv_X10_checkChange (x_X10_checkChange hcl) (by decide) rfl rfl (Nat.le_of_ble_eq_true rfl) hl.1 dX10_spend_5 hpr
  refine call_S0 X hW m_5_206 m_5_207 mv_X10_checkChange (c_X10_checkChange hcl) (by decide) rfl rfl (Nat.le_of_ble_eq_true rfl) hl.1 dX10_spend_5 ?_
  clear hW hcl; intro H locs hW
  refine lv_aload_n hx hb dX10_spend_8 rfl (lv_at hl 0 rfl) ?_
  refine gf_X10_now X hW h0 m_2_64 dX10_spend_9 ?_
  refine gf_X2_stock X hW (kf_X10_now h0) m_1_136 dX10_spend_12 ?_
  refine lv_iload_n hx hb dX10_spend_15 rfl (lv_at hl 1 rfl) ?_
  obtain ⟨r_3, hcl, h⟩ := bind_el h
  refine call_S1 X hW m_3_104 m_2_132 mv_X10_at (c_X10_at (kf_X2_stock (kf_X10_now h0)) hcl) (by decide) rfl rfl (Nat.le_of_ble_eq_true rfl) hl.1 dX10_spend_16 ?_
  clear hW hcl; intro H locs hW
  refine lv_iload_n hx hb dX10_spend_19 rfl (lv_at hl 2 rfl) ?_
  refine lv_isub hx hb dX10_spend_20 ?_
  refine nm_i h ?_
  clear h; intro v3_4 h
  refine lv_istore_n (lv' := [(3, .int (v3_4)), (0, .ref (gz G + (v0))), (1, .int (v1)), (2, .int (v2))]) hx hb dX10_spend_21 rfl hl (by decide) rfl ?_
  clear hl; intro ls hl
  refine lv_iload_n hx hb dX10_spend_22 rfl (lv_at hl 0 rfl) ?_
  refine lv_if_ge (tgt := 34) hx hb dX10_spend_23 (by decide) (fun hc => ?_) (fun hc => ?_)
  · replace h := if_t hc h
    refine lv_aload_n hx hb dX10_spend_34 rfl (lv_at hl 1 rfl) ?_
    refine gf_X10_history X hW h0 m_2_66 dX10_spend_35 ?_
    refine lv_aload_n hx hb dX10_spend_38 rfl (lv_at hl 1 rfl) ?_
    refine gf_X10_now X hW h0 m_2_64 dX10_spend_39 ?_
    obtain ⟨σ_5, hcl, h⟩ := bind_el h
    refine call_V0 X hW (kC_X1 (kf_X10_history h0)) m_4_234 m_4_235 m_4_236 mv_X1_remember (c_X1_remember (kf_X10_history h0) (kf_X10_now h0) hcl) (by decide) rfl rfl (Nat.le_of_ble_eq_true rfl) hl.1 dX10_spend_42 ?_
    clear hW hcl; intro H locs hW
    refine lv_aload_n hx hb dX10_spend_45 rfl (lv_at hl 1 rfl) ?_
    refine gf_X10_now X hW h0 m_2_64 dX10_spend_46 ?_
    refine gf_X2_stock X hW (kf_X10_now h0) m_1_136 dX10_spend_49 ?_
    refine lv_iload_n hx hb dX10_spend_52 rfl (lv_at hl 2 rfl) ?_
    refine lv_iload_n hx hb dX10_spend_53 rfl (lv_at hl 0 rfl) ?_
    obtain ⟨σ_6, hcl, h⟩ := bind_el h
    refine call_S0 X hW m_2_97 m_2_98 mv_X10_put (c_X10_put (kf_X2_stock (kf_X10_now h0)) hcl) (by decide) rfl rfl (Nat.le_of_ble_eq_true rfl) hl.1 dX10_spend_54 ?_
    clear hW hcl; intro H locs hW
    refine lv_iload_n hx hb dX10_spend_57 rfl (lv_at hl 0 rfl) ?_
    cases h
  · replace h := if_f hc h
    exact thr_end hthr h dX10_spend_26 dX10_spend_29 dX10_spend_30 dX10_spend_33 exw_3_246 hW (Nat.le_of_ble_eq_true rfl) hl.1
set_option maxRecDepth 20000 in
set_option maxHeartbeats 4000000 in
theorem c_X10_mend {G : Gt} {l : Launch} {v0 : Nat} (h0 : kd v0 = 9) {v1 : Int32} {v2 : Int32} {σ : St} {r : Int32} {σ' : St} (hf : pf_X10_mend v0 v1 v2 σ = some (.inr r, σ')) : Ct G l yX10_mend cX10_mend 5 (some .int) 9 [.ref (gz G + (v0)), .int (v1), .int (v2)] σ (some (.int r)) σ' := by
  refine met_i (by decide +kernel) (Nat.le_of_ble_eq_true rfl) rfl ?_
  intro p e s m args below meth c Q ls X hW hret hl
  have hx := X.1.1
  have hb := X.1.2.1
  have hl : lv_has ls 5 [(0, .ref (gz G + (v0))), (1, .int (v1)), (2, .int (v2))] := hl
  have h := hf
  clear hf
  unfold pf_X10_mend at h
  refine lv_aload_n hx hb dX10_mend_0 rfl (lv_at hl 0 rfl) ?_
  refine lv_iload_n hx hb dX10_mend_1 rfl (lv_at hl 1 rfl) ?_
  refine lv_iload_n hx hb dX10_mend_2 rfl (lv_at hl 2 rfl) ?_
  obtain ⟨r_1, hcl, h⟩ := bndX0W_n h
  refine call_V1 X hW (kC_X10 h0) m_3_149 m_3_151 m_0_16 mv_X10_questWithStep (c_X10_questWithStep h0 hcl) (by decide) rfl rfl (Nat.le_of_ble_eq_true rfl) hl.1 dX10_mend_3 ?_
  clear hW hcl; intro H locs hW
  obtain ⟨hk2, h⟩ := ckK_el h
  refine lv_astore_n (lv' := [(3, .ref (gz G + (r_1))), (0, .ref (gz G + (v0))), (1, .int (v1)), (2, .int (v2))]) hx hb dX10_mend_6 rfl hl (by decide) rfl ?_
  clear hl; intro ls hl
  refine lv_aload_n hx hb dX10_mend_7 rfl (lv_at hl 1 rfl) ?_
  refine gf_X10_history X hW h0 m_2_66 dX10_mend_8 ?_
  refine lv_aload_n hx hb dX10_mend_11 rfl (lv_at hl 1 rfl) ?_
  refine gf_X10_now X hW h0 m_2_64 dX10_mend_12 ?_
  obtain ⟨σ_3, hcl, h⟩ := bind_el h
  refine call_V0 X hW (kC_X1 (kf_X10_history h0)) m_4_234 m_4_235 m_4_236 mv_X1_remember (c_X1_remember (kf_X10_history h0) (kf_X10_now h0) hcl) (by decide) rfl rfl (Nat.le_of_ble_eq_true rfl) hl.1 dX10_mend_15 ?_
  clear hW hcl; intro H locs hW
  refine lv_aload_n hx hb dX10_mend_18 rfl (lv_at hl 0 rfl) ?_
  refine gf_X3_fails X hW hk2 m_1_83 dX10_mend_19 ?_
  refine lv_iload_n hx hb dX10_mend_22 rfl (lv_at hl 3 rfl) ?_
  obtain ⟨r_4, hcl, h⟩ := bind_el h
  refine call_S1 X hW m_3_104 m_2_132 mv_X10_at (c_X10_at (kf_X3_fails hk2) hcl) (by decide) rfl rfl (Nat.le_of_ble_eq_true rfl) hl.1 dX10_mend_23 ?_
  clear hW hcl; intro H locs hW
  refine lv_istore (lv' := [(4, .int (r_4)), (3, .ref (gz G + (r_1))), (0, .ref (gz G + (v0))), (1, .int (v1)), (2, .int (v2))]) hx hb dX10_mend_26 hl (by decide) rfl ?_
  clear hl; intro ls hl
  refine lv_aload_n hx hb dX10_mend_28 rfl (lv_at hl 1 rfl) ?_
  refine gf_X3_fails X hW hk2 m_1_83 dX10_mend_29 ?_
  refine lv_iload_n hx hb dX10_mend_32 rfl (lv_at hl 4 rfl) ?_
  refine lv_iconst (v := 0) hx hb dX10_mend_33 (by decide) ?_
  obtain ⟨σ_5, hcl, h⟩ := bind_el h
  refine call_S0 X hW m_2_97 m_2_98 mv_X10_put (c_X10_put (kf_X3_fails hk2) hcl) (by decide) rfl rfl (Nat.le_of_ble_eq_true rfl) hl.1 dX10_mend_34 ?_
  clear hW hcl; intro H locs hW
  refine lv_iload hx hb dX10_mend_37 (lv_at hl 0 rfl) ?_
  replace h := xr_el h
  exact ri_end hret h dX10_mend_39 hW
set_option maxRecDepth 20000 in
set_option maxHeartbeats 4000000 in
theorem x_X10_mend {G : Gt} {l : Launch} {v0 : Nat} (h0 : kd v0 = 9) {v1 : Int32} {v2 : Int32} {σ : St} {r : Nat} {σ' : St} (hf : pf_X10_mend v0 v1 v2 σ = some (.inl r, σ')) : CtT G l yX10_mend cX10_mend 5 (some .int) 9 [.ref (gz G + (v0)), .int (v1), .int (v2)] σ r σ' := by
  refine met_t (by decide +kernel) (Nat.le_of_ble_eq_true rfl) (by decide) ?_
  intro p e s m args below meth c Q ls X hW hthr hpr hl
  have hx := X.1.1
  have hb := X.1.2.1
  have hl : lv_has ls 5 [(0, .ref (gz G + (v0))), (1, .int (v1)), (2, .int (v2))] := hl
  have h := hf
  clear hf
  unfold pf_X10_mend at h
  refine lv_aload_n hx hb dX10_mend_0 rfl (lv_at hl 0 rfl) ?_
  refine lv_iload_n hx hb dX10_mend_1 rfl (lv_at hl 1 rfl) ?_
  refine lv_iload_n hx hb dX10_mend_2 rfl (lv_at hl 2 rfl) ?_
  rcases bndX0W_t h with ⟨hcl, rfl⟩ | ⟨r_1, hcl, h⟩
  · exact tcall_V X hW (kC_X10 h0) m_3_149 m_3_151 m_0_16 mv_X10_questWithStep (x_X10_questWithStep h0 hcl) (by decide) rfl rfl (Nat.le_of_ble_eq_true rfl) hl.1 dX10_mend_3 hpr
  refine call_V1 X hW (kC_X10 h0) m_3_149 m_3_151 m_0_16 mv_X10_questWithStep (c_X10_questWithStep h0 hcl) (by decide) rfl rfl (Nat.le_of_ble_eq_true rfl) hl.1 dX10_mend_3 ?_
  clear hW hcl; intro H locs hW
  obtain ⟨hk2, h⟩ := ckK_el h
  refine lv_astore_n (lv' := [(3, .ref (gz G + (r_1))), (0, .ref (gz G + (v0))), (1, .int (v1)), (2, .int (v2))]) hx hb dX10_mend_6 rfl hl (by decide) rfl ?_
  clear hl; intro ls hl
  refine lv_aload_n hx hb dX10_mend_7 rfl (lv_at hl 1 rfl) ?_
  refine gf_X10_history X hW h0 m_2_66 dX10_mend_8 ?_
  refine lv_aload_n hx hb dX10_mend_11 rfl (lv_at hl 1 rfl) ?_
  refine gf_X10_now X hW h0 m_2_64 dX10_mend_12 ?_
  obtain ⟨σ_3, hcl, h⟩ := bind_el h
  refine call_V0 X hW (kC_X1 (kf_X10_history h0)) m_4_234 m_4_235 m_4_236 mv_X1_remember (c_X1_remember (kf_X10_history h0) (kf_X10_now h0) hcl) (by decide) rfl rfl (Nat.le_of_ble_eq_true rfl) hl.1 dX10_mend_15 ?_
  clear hW hcl; intro H locs hW
  refine lv_aload_n hx hb dX10_mend_18 rfl (lv_at hl 0 rfl) ?_
  refine gf_X3_fails X hW hk2 m_1_83 dX10_mend_19 ?_
  refine lv_iload_n hx hb dX10_mend_22 rfl (lv_at hl 3 rfl) ?_
  obtain ⟨r_4, hcl, h⟩ := bind_el h
  refine call_S1 X hW m_3_104 m_2_132 mv_X10_at (c_X10_at (kf_X3_fails hk2) hcl) (by decide) rfl rfl (Nat.le_of_ble_eq_true rfl) hl.1 dX10_mend_23 ?_
  clear hW hcl; intro H locs hW
  refine lv_istore (lv' := [(4, .int (r_4)), (3, .ref (gz G + (r_1))), (0, .ref (gz G + (v0))), (1, .int (v1)), (2, .int (v2))]) hx hb dX10_mend_26 hl (by decide) rfl ?_
  clear hl; intro ls hl
  refine lv_aload_n hx hb dX10_mend_28 rfl (lv_at hl 1 rfl) ?_
  refine gf_X3_fails X hW hk2 m_1_83 dX10_mend_29 ?_
  refine lv_iload_n hx hb dX10_mend_32 rfl (lv_at hl 4 rfl) ?_
  refine lv_iconst (v := 0) hx hb dX10_mend_33 (by decide) ?_
  obtain ⟨σ_5, hcl, h⟩ := bind_el h
  refine call_S0 X hW m_2_97 m_2_98 mv_X10_put (c_X10_put (kf_X3_fails hk2) hcl) (by decide) rfl rfl (Nat.le_of_ble_eq_true rfl) hl.1 dX10_mend_34 ?_
  clear hW hcl; intro H locs hW
  refine lv_iload hx hb dX10_mend_37 (lv_at hl 0 rfl) ?_
  cases h
set_option maxRecDepth 20000 in
set_option maxHeartbeats 4000000 in
theorem c_X10_giveUp {G : Gt} {l : Launch} {v0 : Nat} (h0 : kd v0 = 9) {v1 : Int32} {σ : St} {r : Int32} {σ' : St} (hf : pf_X10_giveUp v0 v1 σ = some (.inr r, σ')) : Ct G l yX10_giveUp cX10_giveUp 3 (some .int) 8 [.ref (gz G + (v0)), .int (v1)] σ (some (.int r)) σ' := by
  refine met_i (by decide +kernel) (Nat.le_of_ble_eq_true rfl) rfl ?_
  intro p e s m args below meth c Q ls X hW hret hl
  have hx := X.1.1
  have hb := X.1.2.1
  have hl : lv_has ls 3 [(0, .ref (gz G + (v0))), (1, .int (v1))] := hl
  have h := hf
  clear hf
  unfold pf_X10_giveUp at h
  refine lv_aload_n hx hb dX10_giveUp_0 rfl (lv_at hl 0 rfl) ?_
  refine lv_iload_n hx hb dX10_giveUp_1 rfl (lv_at hl 1 rfl) ?_
  obtain ⟨r_1, hcl, h⟩ := bndX0W_n h
  refine call_V1 X hW (kC_X10 h0) m_3_113 m_3_115 m_0_15 mv_X10_questAt (c_X10_questAt h0 hcl) (by decide) rfl rfl (Nat.le_of_ble_eq_true rfl) hl.1 dX10_giveUp_2 ?_
  clear hW hcl; intro H locs hW
  obtain ⟨hk2, h⟩ := ckK_el h
  refine lv_astore_n (lv' := [(2, .ref (gz G + (r_1))), (0, .ref (gz G + (v0))), (1, .int (v1))]) hx hb dX10_giveUp_5 rfl hl (by decide) rfl ?_
  clear hl; intro ls hl
  refine lv_aload_n hx hb dX10_giveUp_6 rfl (lv_at hl 0 rfl) ?_
  refine gf_X3_status X hW hk2 m_1_58 dX10_giveUp_7 ?_
  refine lv_if_eq (tgt := 21) hx hb dX10_giveUp_10 (by decide) (fun hc => ?_) (fun hc => ?_)
  · replace h := if_t hc h
    refine lv_aload_n hx hb dX10_giveUp_21 rfl (lv_at hl 1 rfl) ?_
    refine gf_X10_history X hW h0 m_2_66 dX10_giveUp_22 ?_
    refine lv_aload_n hx hb dX10_giveUp_25 rfl (lv_at hl 1 rfl) ?_
    refine gf_X10_now X hW h0 m_2_64 dX10_giveUp_26 ?_
    obtain ⟨σ_3, hcl, h⟩ := bind_el h
    refine call_V0 X hW (kC_X1 (kf_X10_history h0)) m_4_234 m_4_235 m_4_236 mv_X1_remember (c_X1_remember (kf_X10_history h0) (kf_X10_now h0) hcl) (by decide) rfl rfl (Nat.le_of_ble_eq_true rfl) hl.1 dX10_giveUp_29 ?_
    clear hW hcl; intro H locs hW
    refine lv_aload_n hx hb dX10_giveUp_32 rfl (lv_at hl 0 rfl) ?_
    refine lv_iconst (v := 2) hx hb dX10_giveUp_33 (by decide) ?_
    refine sf_X3_status X hW hk2 m_1_58 dX10_giveUp_34 ?_
    clear hW; intro H locs hW
    refine nm_s hW h ?_
    clear hW h; intro σ_4 hW h
    refine lv_aload_n hx hb dX10_giveUp_37 rfl (lv_at hl 0 rfl) ?_
    refine gf_X3_done X hW hk2 m_1_61 dX10_giveUp_38 ?_
    replace h := xr_el h
    exact ri_end hret h dX10_giveUp_41 hW
  · replace h := if_f hc h
    cases h
set_option maxRecDepth 20000 in
set_option maxHeartbeats 4000000 in
theorem x_X10_giveUp {G : Gt} {l : Launch} {v0 : Nat} (h0 : kd v0 = 9) {v1 : Int32} {σ : St} {r : Nat} {σ' : St} (hf : pf_X10_giveUp v0 v1 σ = some (.inl r, σ')) : CtT G l yX10_giveUp cX10_giveUp 3 (some .int) 8 [.ref (gz G + (v0)), .int (v1)] σ r σ' := by
  refine met_t (by decide +kernel) (Nat.le_of_ble_eq_true rfl) (by decide) ?_
  intro p e s m args below meth c Q ls X hW hthr hpr hl
  have hx := X.1.1
  have hb := X.1.2.1
  have hl : lv_has ls 3 [(0, .ref (gz G + (v0))), (1, .int (v1))] := hl
  have h := hf
  clear hf
  unfold pf_X10_giveUp at h
  refine lv_aload_n hx hb dX10_giveUp_0 rfl (lv_at hl 0 rfl) ?_
  refine lv_iload_n hx hb dX10_giveUp_1 rfl (lv_at hl 1 rfl) ?_
  rcases bndX0W_t h with ⟨hcl, rfl⟩ | ⟨r_1, hcl, h⟩
  · exact tcall_V X hW (kC_X10 h0) m_3_113 m_3_115 m_0_15 mv_X10_questAt (x_X10_questAt h0 hcl) (by decide) rfl rfl (Nat.le_of_ble_eq_true rfl) hl.1 dX10_giveUp_2 hpr
  refine call_V1 X hW (kC_X10 h0) m_3_113 m_3_115 m_0_15 mv_X10_questAt (c_X10_questAt h0 hcl) (by decide) rfl rfl (Nat.le_of_ble_eq_true rfl) hl.1 dX10_giveUp_2 ?_
  clear hW hcl; intro H locs hW
  obtain ⟨hk2, h⟩ := ckK_el h
  refine lv_astore_n (lv' := [(2, .ref (gz G + (r_1))), (0, .ref (gz G + (v0))), (1, .int (v1))]) hx hb dX10_giveUp_5 rfl hl (by decide) rfl ?_
  clear hl; intro ls hl
  refine lv_aload_n hx hb dX10_giveUp_6 rfl (lv_at hl 0 rfl) ?_
  refine gf_X3_status X hW hk2 m_1_58 dX10_giveUp_7 ?_
  refine lv_if_eq (tgt := 21) hx hb dX10_giveUp_10 (by decide) (fun hc => ?_) (fun hc => ?_)
  · replace h := if_t hc h
    refine lv_aload_n hx hb dX10_giveUp_21 rfl (lv_at hl 1 rfl) ?_
    refine gf_X10_history X hW h0 m_2_66 dX10_giveUp_22 ?_
    refine lv_aload_n hx hb dX10_giveUp_25 rfl (lv_at hl 1 rfl) ?_
    refine gf_X10_now X hW h0 m_2_64 dX10_giveUp_26 ?_
    obtain ⟨σ_3, hcl, h⟩ := bind_el h
    refine call_V0 X hW (kC_X1 (kf_X10_history h0)) m_4_234 m_4_235 m_4_236 mv_X1_remember (c_X1_remember (kf_X10_history h0) (kf_X10_now h0) hcl) (by decide) rfl rfl (Nat.le_of_ble_eq_true rfl) hl.1 dX10_giveUp_29 ?_
    clear hW hcl; intro H locs hW
    refine lv_aload_n hx hb dX10_giveUp_32 rfl (lv_at hl 0 rfl) ?_
    refine lv_iconst (v := 2) hx hb dX10_giveUp_33 (by decide) ?_
    refine sf_X3_status X hW hk2 m_1_58 dX10_giveUp_34 ?_
    clear hW; intro H locs hW
    refine nm_s hW h ?_
    clear hW h; intro σ_4 hW h
    refine lv_aload_n hx hb dX10_giveUp_37 rfl (lv_at hl 0 rfl) ?_
    refine gf_X3_done X hW hk2 m_1_61 dX10_giveUp_38 ?_
    cases h
  · replace h := if_f hc h
    exact thr_end hthr h dX10_giveUp_13 dX10_giveUp_16 dX10_giveUp_17 dX10_giveUp_20 exw_3_246 hW (Nat.le_of_ble_eq_true rfl) hl.1
set_option maxRecDepth 20000 in
set_option maxHeartbeats 4000000 in
theorem c_X10_reopen {G : Gt} {l : Launch} {v0 : Nat} (h0 : kd v0 = 9) {v1 : Int32} {σ : St} {r : Int32} {σ' : St} (hf : pf_X10_reopen v0 v1 σ = some (.inr r, σ')) : Ct G l yX10_reopen cX10_reopen 4 (some .int) 8 [.ref (gz G + (v0)), .int (v1)] σ (some (.int r)) σ' := by
  refine met_i (by decide +kernel) (Nat.le_of_ble_eq_true rfl) rfl ?_
  intro p e s m args below meth c Q ls X hW hret hl
  have hx := X.1.1
  have hb := X.1.2.1
  have hl : lv_has ls 4 [(0, .ref (gz G + (v0))), (1, .int (v1))] := hl
  have h := hf
  clear hf
  unfold pf_X10_reopen at h
  refine lv_aload_n hx hb dX10_reopen_0 rfl (lv_at hl 0 rfl) ?_
  refine lv_iload_n hx hb dX10_reopen_1 rfl (lv_at hl 1 rfl) ?_
  obtain ⟨r_1, hcl, h⟩ := bndX0W_n h
  refine call_V1 X hW (kC_X10 h0) m_3_113 m_3_115 m_0_15 mv_X10_questAt (c_X10_questAt h0 hcl) (by decide) rfl rfl (Nat.le_of_ble_eq_true rfl) hl.1 dX10_reopen_2 ?_
  clear hW hcl; intro H locs hW
  obtain ⟨hk2, h⟩ := ckK_el h
  refine lv_astore_n (lv' := [(2, .ref (gz G + (r_1))), (0, .ref (gz G + (v0))), (1, .int (v1))]) hx hb dX10_reopen_5 rfl hl (by decide) rfl ?_
  clear hl; intro ls hl
  refine lv_aload_n hx hb dX10_reopen_6 rfl (lv_at hl 1 rfl) ?_
  refine gf_X10_history X hW h0 m_2_66 dX10_reopen_7 ?_
  refine lv_aload_n hx hb dX10_reopen_10 rfl (lv_at hl 1 rfl) ?_
  refine gf_X10_now X hW h0 m_2_64 dX10_reopen_11 ?_
  obtain ⟨σ_3, hcl, h⟩ := bind_el h
  refine call_V0 X hW (kC_X1 (kf_X10_history h0)) m_4_234 m_4_235 m_4_236 mv_X1_remember (c_X1_remember (kf_X10_history h0) (kf_X10_now h0) hcl) (by decide) rfl rfl (Nat.le_of_ble_eq_true rfl) hl.1 dX10_reopen_14 ?_
  clear hW hcl; intro H locs hW
  refine lv_aload_n hx hb dX10_reopen_17 rfl (lv_at hl 0 rfl) ?_
  refine gf_X3_status X hW hk2 m_1_58 dX10_reopen_18 ?_
  refine nm_i h ?_
  clear h; intro v3_4 h
  refine lv_istore_n (lv' := [(3, .int (v3_4)), (2, .ref (gz G + (r_1))), (0, .ref (gz G + (v0))), (1, .int (v1))]) hx hb dX10_reopen_21 rfl hl (by decide) rfl ?_
  clear hl; intro ls hl
  refine lv_aload_n hx hb dX10_reopen_22 rfl (lv_at hl 1 rfl) ?_
  obtain ⟨σ_5, hcl, h⟩ := bind_el h
  refine call_V0 X hW (kC_X3 hk2) m_5_238 m_4_136 m_4_137 mv_X3_beginAnew (c_X3_beginAnew hk2 hcl) (by decide) rfl rfl (Nat.le_of_ble_eq_true rfl) hl.1 dX10_reopen_23 ?_
  clear hW hcl; intro H locs hW
  refine lv_iload_n hx hb dX10_reopen_26 rfl (lv_at hl 0 rfl) ?_
  replace h := xr_el h
  exact ri_end hret h dX10_reopen_27 hW
set_option maxRecDepth 20000 in
set_option maxHeartbeats 4000000 in
theorem x_X10_reopen {G : Gt} {l : Launch} {v0 : Nat} (h0 : kd v0 = 9) {v1 : Int32} {σ : St} {r : Nat} {σ' : St} (hf : pf_X10_reopen v0 v1 σ = some (.inl r, σ')) : CtT G l yX10_reopen cX10_reopen 4 (some .int) 8 [.ref (gz G + (v0)), .int (v1)] σ r σ' := by
  refine met_t (by decide +kernel) (Nat.le_of_ble_eq_true rfl) (by decide) ?_
  intro p e s m args below meth c Q ls X hW hthr hpr hl
  have hx := X.1.1
  have hb := X.1.2.1
  have hl : lv_has ls 4 [(0, .ref (gz G + (v0))), (1, .int (v1))] := hl
  have h := hf
  clear hf
  unfold pf_X10_reopen at h
  refine lv_aload_n hx hb dX10_reopen_0 rfl (lv_at hl 0 rfl) ?_
  refine lv_iload_n hx hb dX10_reopen_1 rfl (lv_at hl 1 rfl) ?_
  rcases bndX0W_t h with ⟨hcl, rfl⟩ | ⟨r_1, hcl, h⟩
  · exact tcall_V X hW (kC_X10 h0) m_3_113 m_3_115 m_0_15 mv_X10_questAt (x_X10_questAt h0 hcl) (by decide) rfl rfl (Nat.le_of_ble_eq_true rfl) hl.1 dX10_reopen_2 hpr
  refine call_V1 X hW (kC_X10 h0) m_3_113 m_3_115 m_0_15 mv_X10_questAt (c_X10_questAt h0 hcl) (by decide) rfl rfl (Nat.le_of_ble_eq_true rfl) hl.1 dX10_reopen_2 ?_
  clear hW hcl; intro H locs hW
  obtain ⟨hk2, h⟩ := ckK_el h
  refine lv_astore_n (lv' := [(2, .ref (gz G + (r_1))), (0, .ref (gz G + (v0))), (1, .int (v1))]) hx hb dX10_reopen_5 rfl hl (by decide) rfl ?_
  clear hl; intro ls hl
  refine lv_aload_n hx hb dX10_reopen_6 rfl (lv_at hl 1 rfl) ?_
  refine gf_X10_history X hW h0 m_2_66 dX10_reopen_7 ?_
  refine lv_aload_n hx hb dX10_reopen_10 rfl (lv_at hl 1 rfl) ?_
  refine gf_X10_now X hW h0 m_2_64 dX10_reopen_11 ?_
  obtain ⟨σ_3, hcl, h⟩ := bind_el h
  refine call_V0 X hW (kC_X1 (kf_X10_history h0)) m_4_234 m_4_235 m_4_236 mv_X1_remember (c_X1_remember (kf_X10_history h0) (kf_X10_now h0) hcl) (by decide) rfl rfl (Nat.le_of_ble_eq_true rfl) hl.1 dX10_reopen_14 ?_
  clear hW hcl; intro H locs hW
  refine lv_aload_n hx hb dX10_reopen_17 rfl (lv_at hl 0 rfl) ?_
  refine gf_X3_status X hW hk2 m_1_58 dX10_reopen_18 ?_
  refine nm_i h ?_
  clear h; intro v3_4 h
  refine lv_istore_n (lv' := [(3, .int (v3_4)), (2, .ref (gz G + (r_1))), (0, .ref (gz G + (v0))), (1, .int (v1))]) hx hb dX10_reopen_21 rfl hl (by decide) rfl ?_
  clear hl; intro ls hl
  refine lv_aload_n hx hb dX10_reopen_22 rfl (lv_at hl 1 rfl) ?_
  obtain ⟨σ_5, hcl, h⟩ := bind_el h
  refine call_V0 X hW (kC_X3 hk2) m_5_238 m_4_136 m_4_137 mv_X3_beginAnew (c_X3_beginAnew hk2 hcl) (by decide) rfl rfl (Nat.le_of_ble_eq_true rfl) hl.1 dX10_reopen_23 ?_
  clear hW hcl; intro H locs hW
  refine lv_iload_n hx hb dX10_reopen_26 rfl (lv_at hl 0 rfl) ?_
  cases h
set_option maxRecDepth 20000 in
set_option maxHeartbeats 4000000 in
theorem c_X10_undo {G : Gt} {l : Launch} {v0 : Nat} (h0 : kd v0 = 9) {σ : St} {r : Int32} {σ' : St} (hf : pf_X10_undo v0 σ = some (r, σ')) : Ct G l yX10_undo cX10_undo 1 (some .int) 5 [.ref (gz G + (v0))] σ (some (.int r)) σ' := by
  refine met_i (by decide +kernel) (Nat.le_of_ble_eq_true rfl) rfl ?_
  intro p e s m args below meth c Q ls X hW hret hl
  have hx := X.1.1
  have hb := X.1.2.1
  have hl : lv_has ls 1 [(0, .ref (gz G + (v0)))] := hl
  have h := hf
  clear hf
  unfold pf_X10_undo at h
  refine lv_aload_n hx hb dX10_undo_0 rfl (lv_at hl 0 rfl) ?_
  refine gf_X10_history X hW h0 m_2_66 dX10_undo_1 ?_
  refine lv_aload_n hx hb dX10_undo_4 rfl (lv_at hl 0 rfl) ?_
  refine gf_X10_now X hW h0 m_2_64 dX10_undo_5 ?_
  obtain ⟨r_1, σ_1, hcl, h⟩ := bnd2_el h
  refine call_V1 X hW (kC_X1 (kf_X10_history h0)) m_3_94 m_3_95 m_3_96 mv_X1_recall (c_X1_recall (kf_X10_history h0) (kf_X10_now h0) hcl) (by decide) rfl rfl (Nat.le_of_ble_eq_true rfl) hl.1 dX10_undo_8 ?_
  clear hW hcl; intro H locs hW
  refine lv_if_ne (tgt := 16) hx hb dX10_undo_11 (by decide) (fun hc => ?_) (fun hc => ?_)
  · replace h := if_f hc h
    refine lv_aload_n hx hb dX10_undo_16 rfl (lv_at hl 0 rfl) ?_
    refine gf_X10_history X hW h0 m_2_66 dX10_undo_17 ?_
    refine gf_X1_count X hW (kf_X10_history h0) m_1_183 dX10_undo_20 ?_
    exact ri_end hret h dX10_undo_23 hW
  · replace h := if_t hc h
    refine lv_iconst (v := (-1)) hx hb dX10_undo_14 (by decide) ?_
    exact ri_end hret h dX10_undo_15 hW
set_option maxRecDepth 20000 in
set_option maxHeartbeats 4000000 in
theorem bl_X10_withQuest_b108 (X : Cx G p R s m args c cells slots cX10_withQuest 9 RX10 10) {r : Int64} {σ' : St} (hret : R_L G p l e R s m args below meth c cells slots Q cX10_withQuest r σ') {k67 : Nat → Int32 → Int64 → Int32 → Int32 → St → (Option ((Nat ⊕ (Int64)) × St))}
    (hk67 : ∀ (v0 : Nat) (h0 : kd v0 = 9) (v3 : Int32) (v4 : Int64) (v6 : Int32) (v7 : Int32) (σ : St) (_ : k67 v0 v3 v4 v6 v7 σ = some (.inr r, σ')) (H : Heap) (locs : List Loc) (ls : Array Slot) (_ : GW G σ s H locs) (_ : lv_has ls 9 [(0, .ref (gz G + (v0))), (3, .int (v3)), (4, .long (v4)), (6, .int (v6)), (7, .int (v7))]), W p l e R s m args below meth c H locs cells slots Q (F0 m 67 ls [])) :
    ∀ (v0 : Nat) (h0 : kd v0 = 9) (v3 : Int32) (v4 : Int64) (v6 : Int32) (v7 : Int32) (σ : St) (_ : pf_X10_withQuest_b108 k67 v0 v3 v4 v6 v7 σ = some (.inr r, σ')) (H : Heap) (locs : List Loc) (ls : Array Slot) (_ : GW G σ s H locs) (_ : lv_has ls 9 [(0, .ref (gz G + (v0))), (3, .int (v3)), (4, .long (v4)), (6, .int (v6)), (7, .int (v7))]), W p l e R s m args below meth c H locs cells slots Q (F0 m 108 ls []) := by
  have hx := X.1.1
  have hb := X.1.2.1
  intro v0 h0 v3 v4 v6 v7 σ h H locs ls hW hl
  unfold pf_X10_withQuest_b108 at h
  refine w_iinc (v := 1) (lv' := fun y => [(7, .int (y)), (0, .ref (gz G + (v0))), (3, .int (v3)), (4, .long (v4)), (6, .int (v6))]) hx hb dX10_withQuest_108 hl (k := 4) rfl (by decide) (by decide) (fun _ => rfl) h ?_
  clear h hl; intro v7_1 h ls hl
  refine lv_goto (tgt := 67) hx hb dX10_withQuest_111 (by decide) ?_
  exact hk67 v0 h0 v3 v4 v6 v7_1 σ h _ _ _ hW (lv_sub hl [1, 2, 3, 4, 0] rfl)
set_option maxRecDepth 20000 in
set_option maxHeartbeats 4000000 in
theorem bl_X10_withQuest_L77 (X : Cx G p R s m args c cells slots cX10_withQuest 9 RX10 10) {r : Int64} {σ' : St} (hret : R_L G p l e R s m args below meth c cells slots Q cX10_withQuest r σ') {k108 : Nat → Int32 → Int64 → Int32 → Int32 → St → (Option ((Nat ⊕ (Int64)) × St))}
    (hk108 : ∀ (v0 : Nat) (h0 : kd v0 = 9) (v3 : Int32) (v4 : Int64) (v6 : Int32) (v7 : Int32) (σ : St) (_ : k108 v0 v3 v4 v6 v7 σ = some (.inr r, σ')) (H : Heap) (locs : List Loc) (ls : Array Slot) (_ : GW G σ s H locs) (_ : lv_has ls 9 [(0, .ref (gz G + (v0))), (3, .int (v3)), (4, .long (v4)), (6, .int (v6)), (7, .int (v7))]), W p l e R s m args below meth c H locs cells slots Q (F0 m 108 ls [])) :
    ∀ (n : Nat), ∀ (v0 : Nat) (h0 : kd v0 = 9) (v3 : Int32) (v4 : Int64) (v6 : Int32) (v7 : Int32) (v8 : Int32) (σ : St) (_ : pf_X10_withQuest_L77 k108 n v0 v3 v4 v6 v7 v8 σ = some (.inr r, σ')) (H : Heap) (locs : List Loc) (ls : Array Slot) (_ : GW G σ s H locs) (_ : lv_has ls 9 [(0, .ref (gz G + (v0))), (3, .int (v3)), (4, .long (v4)), (6, .int (v6)), (7, .int (v7)), (8, .int (v8))]), W p l e R s m args below meth c H locs cells slots Q (F0 m 77 ls []) := by
  have hx := X.1.1
  have hb := X.1.2.1
  intro n
  induction n with
  | zero => intro v0 h0 v3 v4 v6 v7 v8 σ h H locs ls hW hl; cases h
  | succ n ih =>
    intro v0 h0 v3 v4 v6 v7 v8 σ h H locs ls hW hl
    rw [pf_X10_withQuest_L77.eq_2] at h
    refine lv_iload hx hb dX10_withQuest_77 (lv_at hl 5 rfl) ?_
    refine lv_iconst (v := 5) hx hb dX10_withQuest_79 (by decide) ?_
    refine lv_icmp_gt (tgt := 108) hx hb dX10_withQuest_80 (by decide) (fun hc => ?_) (fun hc => ?_)
    · replace h := if_t hc h
      exact hk108 v0 h0 v3 v4 v6 v7 σ h _ _ _ hW (lv_sub hl [0, 1, 2, 3, 4] rfl)
    · replace h := if_f hc h
      refine lv_ldc2 (v := 31) hx hb X.1.2.2.2.1 (X.1.2.2.2.2 _ m_3_103) dX10_withQuest_83 ?_
      refine lv_lload hx hb dX10_withQuest_86 (lv_at hl 2 rfl) ?_
      refine lv_lmul hx hb dX10_withQuest_88 ?_
      refine lv_aload_n hx hb dX10_withQuest_89 rfl (lv_at hl 0 rfl) ?_
      refine lv_iload_n hx hb dX10_withQuest_90 rfl (lv_at hl 1 rfl) ?_
      refine lv_iload hx hb dX10_withQuest_91 (lv_at hl 4 rfl) ?_
      refine lv_iload hx hb dX10_withQuest_93 (lv_at hl 5 rfl) ?_
      obtain ⟨r_1, hcl, h⟩ := bndX0W_n h
      refine call_V1 X hW (kC_X10 h0) m_3_145 m_3_146 m_3_147 mv_X10_step (c_X10_step h0 hcl) (by decide) rfl rfl (Nat.le_of_ble_eq_true rfl) hl.1 dX10_withQuest_95 ?_
      clear hW hcl; intro H locs hW
      refine lv_i2l hx hb dX10_withQuest_98 rfl ?_
      refine lv_ladd hx hb dX10_withQuest_99 ?_
      refine nm_l h ?_
      clear h; intro v4_2 h
      refine lv_lstore (lv' := [(4, .long (v4_2)), (0, .ref (gz G + (v0))), (3, .int (v3)), (6, .int (v6)), (7, .int (v7)), (8, .int (v8))]) hx hb dX10_withQuest_100 hl (by decide) rfl ?_
      clear hl; intro ls hl
      refine w_iinc (v := 1) (lv' := fun y => [(8, .int (y)), (4, .long (v4_2)), (0, .ref (gz G + (v0))), (3, .int (v3)), (6, .int (v6)), (7, .int (v7))]) hx hb dX10_withQuest_102 hl (k := 5) rfl (by decide) (by decide) (fun _ => rfl) h ?_
      clear h hl; intro v8_3 h ls hl
      refine lv_goto (tgt := 77) hx hb dX10_withQuest_105 (by decide) ?_
      exact ih v0 h0 v3 v4_2 v6 v7 v8_3 σ h _ _ _ hW (lv_sub hl [2, 3, 1, 4, 5, 0] rfl)
set_option maxRecDepth 20000 in
set_option maxHeartbeats 4000000 in
theorem bl_X10_withQuest_L67 (X : Cx G p R s m args c cells slots cX10_withQuest 9 RX10 10) {r : Int64} {σ' : St} (hret : R_L G p l e R s m args below meth c cells slots Q cX10_withQuest r σ') :
    ∀ (n : Nat), ∀ (v0 : Nat) (h0 : kd v0 = 9) (v3 : Int32) (v4 : Int64) (v6 : Int32) (v7 : Int32) (σ : St) (_ : pf_X10_withQuest_L67 n v0 v3 v4 v6 v7 σ = some (.inr r, σ')) (H : Heap) (locs : List Loc) (ls : Array Slot) (_ : GW G σ s H locs) (_ : lv_has ls 9 [(0, .ref (gz G + (v0))), (3, .int (v3)), (4, .long (v4)), (6, .int (v6)), (7, .int (v7))]), W p l e R s m args below meth c H locs cells slots Q (F0 m 67 ls []) := by
  have hx := X.1.1
  have hb := X.1.2.1
  intro n
  induction n with
  | zero => intro v0 h0 v3 v4 v6 v7 σ h H locs ls hW hl; cases h
  | succ n ih =>
    intro v0 h0 v3 v4 v6 v7 σ h H locs ls hW hl
    rw [pf_X10_withQuest_L67.eq_2] at h
    refine lv_iload hx hb dX10_withQuest_67 (lv_at hl 4 rfl) ?_
    refine lv_iload hx hb dX10_withQuest_69 (lv_at hl 3 rfl) ?_
    refine lv_icmp_ge (tgt := 114) hx hb dX10_withQuest_71 (by decide) (fun hc => ?_) (fun hc => ?_)
    · replace h := if_t hc h
      refine lv_lload hx hb dX10_withQuest_114 (lv_at hl 2 rfl) ?_
      replace h := xr_el h
      exact rl_end hret h dX10_withQuest_116 hW
    · replace h := if_f hc h
      refine lv_iconst (v := 0) hx hb dX10_withQuest_74 (by decide) ?_
      refine lv_istore (lv' := [(8, .int (0)), (0, .ref (gz G + (v0))), (3, .int (v3)), (4, .long (v4)), (6, .int (v6)), (7, .int (v7))]) hx hb dX10_withQuest_75 hl (by decide) rfl ?_
      clear hl; intro ls hl
      exact bl_X10_withQuest_L77 X hret (bl_X10_withQuest_b108 X hret ih) FU v0 h0 v3 v4 v6 v7 0 σ h _ _ _ hW (lv_sub hl [1, 2, 3, 4, 5, 0] rfl)
set_option maxRecDepth 20000 in
set_option maxHeartbeats 4000000 in
theorem bl_X10_withQuest_b36 (X : Cx G p R s m args c cells slots cX10_withQuest 9 RX10 10) {r : Int64} {σ' : St} (hret : R_L G p l e R s m args below meth c cells slots Q cX10_withQuest r σ') :
    ∀ (v0 : Nat) (h0 : kd v0 = 9) (v3 : Int32) (v4 : Int64) (σ : St) (_ : pf_X10_withQuest_b36 v0 v3 v4 σ = some (.inr r, σ')) (H : Heap) (locs : List Loc) (ls : Array Slot) (_ : GW G σ s H locs) (_ : lv_has ls 9 [(0, .ref (gz G + (v0))), (3, .int (v3)), (4, .long (v4))]), W p l e R s m args below meth c H locs cells slots Q (F0 m 36 ls []) := by
  have hx := X.1.1
  have hb := X.1.2.1
  intro v0 h0 v3 v4 σ h H locs ls hW hl
  unfold pf_X10_withQuest_b36 at h
  refine lv_ldc2 (v := 31) hx hb X.1.2.2.2.1 (X.1.2.2.2.2 _ m_3_103) dX10_withQuest_36 ?_
  refine lv_lload hx hb dX10_withQuest_39 (lv_at hl 2 rfl) ?_
  refine lv_lmul hx hb dX10_withQuest_41 ?_
  refine lv_aload_n hx hb dX10_withQuest_42 rfl (lv_at hl 0 rfl) ?_
  refine lv_aload_n hx hb dX10_withQuest_43 rfl (lv_at hl 0 rfl) ?_
  refine lv_iload_n hx hb dX10_withQuest_44 rfl (lv_at hl 1 rfl) ?_
  obtain ⟨r_1, hcl, h⟩ := bndX0W_n h
  refine call_V1 X hW (kC_X10 h0) m_3_113 m_3_115 m_0_15 mv_X10_questAt (c_X10_questAt h0 hcl) (by decide) rfl rfl (Nat.le_of_ble_eq_true rfl) hl.1 dX10_withQuest_45 ?_
  clear hW hcl; intro H locs hW
  obtain ⟨hk2, h⟩ := ckK_el h
  refine lv_iload_n hx hb dX10_withQuest_48 rfl (lv_at hl 1 rfl) ?_
  obtain ⟨r_3, σ_3, hcl, h⟩ := bnd2_el h
  refine call_V1 X hW (kC_X10 h0) m_2_197 m_2_199 m_0_9 mv_X10_worthOf (c_X10_worthOf h0 hk2 hcl) (by decide) rfl rfl (Nat.le_of_ble_eq_true rfl) hl.1 dX10_withQuest_49 ?_
  clear hW hcl; intro H locs hW
  refine lv_i2l hx hb dX10_withQuest_52 rfl ?_
  refine lv_ladd hx hb dX10_withQuest_53 ?_
  refine nm_l h ?_
  clear h; intro v4_4 h
  refine lv_lstore (lv' := [(4, .long (v4_4)), (0, .ref (gz G + (v0))), (3, .int (v3))]) hx hb dX10_withQuest_54 hl (by decide) rfl ?_
  clear hl; intro ls hl
  refine lv_aload_n hx hb dX10_withQuest_56 rfl (lv_at hl 1 rfl) ?_
  refine lv_iload_n hx hb dX10_withQuest_57 rfl (lv_at hl 2 rfl) ?_
  refine lv_iconst (v := 0) hx hb dX10_withQuest_58 (by decide) ?_
  obtain ⟨r_5, hcl, h⟩ := bndX0W_n h
  refine call_V1 X hW (kC_X10 h0) m_3_109 m_3_110 m_3_111 mv_X10_quest (c_X10_quest h0 hcl) (by decide) rfl rfl (Nat.le_of_ble_eq_true rfl) hl.1 dX10_withQuest_59 ?_
  clear hW hcl; intro H locs hW
  refine lv_istore (lv' := [(6, .int (r_5)), (4, .long (v4_4)), (0, .ref (gz G + (v0))), (3, .int (v3))]) hx hb dX10_withQuest_62 hl (by decide) rfl ?_
  clear hl; intro ls hl
  refine lv_iconst (v := 0) hx hb dX10_withQuest_64 (by decide) ?_
  refine lv_istore (lv' := [(7, .int (0)), (6, .int (r_5)), (4, .long (v4_4)), (0, .ref (gz G + (v0))), (3, .int (v3))]) hx hb dX10_withQuest_65 hl (by decide) rfl ?_
  clear hl; intro ls hl
  exact bl_X10_withQuest_L67 X hret FU v0 h0 v3 v4_4 r_5 0 σ_3 h _ _ _ hW (lv_sub hl [3, 4, 2, 1, 0] rfl)
set_option maxRecDepth 20000 in
set_option maxHeartbeats 4000000 in
theorem bl_X10_withQuest_L6 (X : Cx G p R s m args c cells slots cX10_withQuest 9 RX10 10) {r : Int64} {σ' : St} (hret : R_L G p l e R s m args below meth c cells slots Q cX10_withQuest r σ') {k36 : Nat → Int32 → Int64 → St → (Option ((Nat ⊕ (Int64)) × St))}
    (hk36 : ∀ (v0 : Nat) (h0 : kd v0 = 9) (v3 : Int32) (v4 : Int64) (σ : St) (_ : k36 v0 v3 v4 σ = some (.inr r, σ')) (H : Heap) (locs : List Loc) (ls : Array Slot) (_ : GW G σ s H locs) (_ : lv_has ls 9 [(0, .ref (gz G + (v0))), (3, .int (v3)), (4, .long (v4))]), W p l e R s m args below meth c H locs cells slots Q (F0 m 36 ls [])) :
    ∀ (n : Nat), ∀ (v0 : Nat) (h0 : kd v0 = 9) (v3 : Int32) (v4 : Int64) (v6 : Int32) (σ : St) (_ : pf_X10_withQuest_L6 k36 n v0 v3 v4 v6 σ = some (.inr r, σ')) (H : Heap) (locs : List Loc) (ls : Array Slot) (_ : GW G σ s H locs) (_ : lv_has ls 9 [(0, .ref (gz G + (v0))), (3, .int (v3)), (4, .long (v4)), (6, .int (v6))]), W p l e R s m args below meth c H locs cells slots Q (F0 m 6 ls []) := by
  have hx := X.1.1
  have hb := X.1.2.1
  intro n
  induction n with
  | zero => intro v0 h0 v3 v4 v6 σ h H locs ls hW hl; cases h
  | succ n ih =>
    intro v0 h0 v3 v4 v6 σ h H locs ls hW hl
    rw [pf_X10_withQuest_L6.eq_2] at h
    refine lv_iload hx hb dX10_withQuest_6 (lv_at hl 3 rfl) ?_
    refine lv_bipush (v := 7) hx hb dX10_withQuest_8 (by decide) ?_
    refine lv_icmp_gt (tgt := 36) hx hb dX10_withQuest_10 (by decide) (fun hc => ?_) (fun hc => ?_)
    · replace h := if_t hc h
      exact hk36 v0 h0 v3 v4 σ h _ _ _ hW (lv_sub hl [0, 1, 2] rfl)
    · replace h := if_f hc h
      refine lv_ldc2 (v := 31) hx hb X.1.2.2.2.1 (X.1.2.2.2.2 _ m_3_103) dX10_withQuest_13 ?_
      refine lv_lload hx hb dX10_withQuest_16 (lv_at hl 2 rfl) ?_
      refine lv_lmul hx hb dX10_withQuest_18 ?_
      refine lv_aload_n hx hb dX10_withQuest_19 rfl (lv_at hl 0 rfl) ?_
      refine lv_iload_n hx hb dX10_withQuest_20 rfl (lv_at hl 1 rfl) ?_
      refine lv_iload hx hb dX10_withQuest_21 (lv_at hl 3 rfl) ?_
      obtain ⟨r_1, hcl, h⟩ := bndX0W_n h
      refine call_V1 X hW (kC_X10 h0) m_3_109 m_3_110 m_3_111 mv_X10_quest (c_X10_quest h0 hcl) (by decide) rfl rfl (Nat.le_of_ble_eq_true rfl) hl.1 dX10_withQuest_23 ?_
      clear hW hcl; intro H locs hW
      refine lv_i2l hx hb dX10_withQuest_26 rfl ?_
      refine lv_ladd hx hb dX10_withQuest_27 ?_
      refine nm_l h ?_
      clear h; intro v4_2 h
      refine lv_lstore (lv' := [(4, .long (v4_2)), (0, .ref (gz G + (v0))), (3, .int (v3)), (6, .int (v6))]) hx hb dX10_withQuest_28 hl (by decide) rfl ?_
      clear hl; intro ls hl
      refine w_iinc (v := 1) (lv' := fun y => [(6, .int (y)), (4, .long (v4_2)), (0, .ref (gz G + (v0))), (3, .int (v3))]) hx hb dX10_withQuest_30 hl (k := 3) rfl (by decide) (by decide) (fun _ => rfl) h ?_
      clear h hl; intro v6_3 h ls hl
      refine lv_goto (tgt := 6) hx hb dX10_withQuest_33 (by decide) ?_
      exact ih v0 h0 v3 v4_2 v6_3 σ h _ _ _ hW (lv_sub hl [2, 3, 1, 0] rfl)
set_option maxRecDepth 20000 in
set_option maxHeartbeats 4000000 in
theorem c_X10_withQuest {G : Gt} {l : Launch} {v0 : Nat} (h0 : kd v0 = 9) {v1 : Int64} {v3 : Int32} {σ : St} {r : Int64} {σ' : St} (hf : pf_X10_withQuest v0 v1 v3 σ = some (.inr r, σ')) : Ct G l yX10_withQuest cX10_withQuest 9 (some .long) 10 [.ref (gz G + (v0)), .long (v1), .int (v3)] σ (some (.long r)) σ' := by
  refine met_l (by decide +kernel) (Nat.le_of_ble_eq_true rfl) rfl ?_
  intro p e s m args below meth c Q ls X hW hret hl
  have hx := X.1.1
  have hb := X.1.2.1
  have hl : lv_has ls 9 [(0, .ref (gz G + (v0))), (1, .long (v1)), (3, .int (v3))] := hl
  have h := hf
  clear hf
  unfold pf_X10_withQuest at h
  refine lv_lload_n hx hb dX10_withQuest_0 rfl (lv_at hl 1 rfl) ?_
  refine lv_lstore (lv' := [(4, .long (v1)), (0, .ref (gz G + (v0))), (1, .long (v1)), (3, .int (v3))]) hx hb dX10_withQuest_1 hl (by decide) rfl ?_
  clear hl; intro ls hl
  refine lv_iconst (v := 0) hx hb dX10_withQuest_3 (by decide) ?_
  refine lv_istore (lv' := [(6, .int (0)), (4, .long (v1)), (0, .ref (gz G + (v0))), (1, .long (v1)), (3, .int (v3))]) hx hb dX10_withQuest_4 hl (by decide) rfl ?_
  clear hl; intro ls hl
  exact bl_X10_withQuest_L6 X hret (bl_X10_withQuest_b36 X hret) FU v0 h0 v3 v1 0 σ h _ _ _ hW (lv_sub hl [2, 4, 1, 0] rfl)
set_option maxRecDepth 20000 in
set_option maxHeartbeats 4000000 in
theorem xl_X10_withQuest_b108 (X : Cx G p R s m args c cells slots cX10_withQuest 9 RX10 10) {r : Nat} {σ' : St} (hthr : R_X G p l e R s m args below meth c cells slots Q cX10_withQuest 9 RX10 r σ') (hpr : R_P G p l e R s m args below meth c cells slots Q r σ') {k67 : Nat → Int32 → Int64 → Int32 → Int32 → St → (Option ((Nat ⊕ (Int64)) × St))}
    (hk67 : ∀ (v0 : Nat) (h0 : kd v0 = 9) (v3 : Int32) (v4 : Int64) (v6 : Int32) (v7 : Int32) (σ : St) (_ : k67 v0 v3 v4 v6 v7 σ = some (.inl r, σ')) (H : Heap) (locs : List Loc) (ls : Array Slot) (_ : GW G σ s H locs) (_ : lv_has ls 9 [(0, .ref (gz G + (v0))), (3, .int (v3)), (4, .long (v4)), (6, .int (v6)), (7, .int (v7))]), W p l e R s m args below meth c H locs cells slots Q (F0 m 67 ls [])) :
    ∀ (v0 : Nat) (h0 : kd v0 = 9) (v3 : Int32) (v4 : Int64) (v6 : Int32) (v7 : Int32) (σ : St) (_ : pf_X10_withQuest_b108 k67 v0 v3 v4 v6 v7 σ = some (.inl r, σ')) (H : Heap) (locs : List Loc) (ls : Array Slot) (_ : GW G σ s H locs) (_ : lv_has ls 9 [(0, .ref (gz G + (v0))), (3, .int (v3)), (4, .long (v4)), (6, .int (v6)), (7, .int (v7))]), W p l e R s m args below meth c H locs cells slots Q (F0 m 108 ls []) := by
  have hx := X.1.1
  have hb := X.1.2.1
  intro v0 h0 v3 v4 v6 v7 σ h H locs ls hW hl
  unfold pf_X10_withQuest_b108 at h
  refine w_iinc (v := 1) (lv' := fun y => [(7, .int (y)), (0, .ref (gz G + (v0))), (3, .int (v3)), (4, .long (v4)), (6, .int (v6))]) hx hb dX10_withQuest_108 hl (k := 4) rfl (by decide) (by decide) (fun _ => rfl) h ?_
  clear h hl; intro v7_1 h ls hl
  refine lv_goto (tgt := 67) hx hb dX10_withQuest_111 (by decide) ?_
  exact hk67 v0 h0 v3 v4 v6 v7_1 σ h _ _ _ hW (lv_sub hl [1, 2, 3, 4, 0] rfl)
set_option maxRecDepth 20000 in
set_option maxHeartbeats 4000000 in
theorem xl_X10_withQuest_L77 (X : Cx G p R s m args c cells slots cX10_withQuest 9 RX10 10) {r : Nat} {σ' : St} (hthr : R_X G p l e R s m args below meth c cells slots Q cX10_withQuest 9 RX10 r σ') (hpr : R_P G p l e R s m args below meth c cells slots Q r σ') {k108 : Nat → Int32 → Int64 → Int32 → Int32 → St → (Option ((Nat ⊕ (Int64)) × St))}
    (hk108 : ∀ (v0 : Nat) (h0 : kd v0 = 9) (v3 : Int32) (v4 : Int64) (v6 : Int32) (v7 : Int32) (σ : St) (_ : k108 v0 v3 v4 v6 v7 σ = some (.inl r, σ')) (H : Heap) (locs : List Loc) (ls : Array Slot) (_ : GW G σ s H locs) (_ : lv_has ls 9 [(0, .ref (gz G + (v0))), (3, .int (v3)), (4, .long (v4)), (6, .int (v6)), (7, .int (v7))]), W p l e R s m args below meth c H locs cells slots Q (F0 m 108 ls [])) :
    ∀ (n : Nat), ∀ (v0 : Nat) (h0 : kd v0 = 9) (v3 : Int32) (v4 : Int64) (v6 : Int32) (v7 : Int32) (v8 : Int32) (σ : St) (_ : pf_X10_withQuest_L77 k108 n v0 v3 v4 v6 v7 v8 σ = some (.inl r, σ')) (H : Heap) (locs : List Loc) (ls : Array Slot) (_ : GW G σ s H locs) (_ : lv_has ls 9 [(0, .ref (gz G + (v0))), (3, .int (v3)), (4, .long (v4)), (6, .int (v6)), (7, .int (v7)), (8, .int (v8))]), W p l e R s m args below meth c H locs cells slots Q (F0 m 77 ls []) := by
  have hx := X.1.1
  have hb := X.1.2.1
  intro n
  induction n with
  | zero => intro v0 h0 v3 v4 v6 v7 v8 σ h H locs ls hW hl; cases h
  | succ n ih =>
    intro v0 h0 v3 v4 v6 v7 v8 σ h H locs ls hW hl
    rw [pf_X10_withQuest_L77.eq_2] at h
    refine lv_iload hx hb dX10_withQuest_77 (lv_at hl 5 rfl) ?_
    refine lv_iconst (v := 5) hx hb dX10_withQuest_79 (by decide) ?_
    refine lv_icmp_gt (tgt := 108) hx hb dX10_withQuest_80 (by decide) (fun hc => ?_) (fun hc => ?_)
    · replace h := if_t hc h
      exact hk108 v0 h0 v3 v4 v6 v7 σ h _ _ _ hW (lv_sub hl [0, 1, 2, 3, 4] rfl)
    · replace h := if_f hc h
      refine lv_ldc2 (v := 31) hx hb X.1.2.2.2.1 (X.1.2.2.2.2 _ m_3_103) dX10_withQuest_83 ?_
      refine lv_lload hx hb dX10_withQuest_86 (lv_at hl 2 rfl) ?_
      refine lv_lmul hx hb dX10_withQuest_88 ?_
      refine lv_aload_n hx hb dX10_withQuest_89 rfl (lv_at hl 0 rfl) ?_
      refine lv_iload_n hx hb dX10_withQuest_90 rfl (lv_at hl 1 rfl) ?_
      refine lv_iload hx hb dX10_withQuest_91 (lv_at hl 4 rfl) ?_
      refine lv_iload hx hb dX10_withQuest_93 (lv_at hl 5 rfl) ?_
      rcases bndX0W_t h with ⟨hcl, rfl⟩ | ⟨r_1, hcl, h⟩
      · exact tcall_V X hW (kC_X10 h0) m_3_145 m_3_146 m_3_147 mv_X10_step (x_X10_step h0 hcl) (by decide) rfl rfl (Nat.le_of_ble_eq_true rfl) hl.1 dX10_withQuest_95 hpr
      refine call_V1 X hW (kC_X10 h0) m_3_145 m_3_146 m_3_147 mv_X10_step (c_X10_step h0 hcl) (by decide) rfl rfl (Nat.le_of_ble_eq_true rfl) hl.1 dX10_withQuest_95 ?_
      clear hW hcl; intro H locs hW
      refine lv_i2l hx hb dX10_withQuest_98 rfl ?_
      refine lv_ladd hx hb dX10_withQuest_99 ?_
      refine nm_l h ?_
      clear h; intro v4_2 h
      refine lv_lstore (lv' := [(4, .long (v4_2)), (0, .ref (gz G + (v0))), (3, .int (v3)), (6, .int (v6)), (7, .int (v7)), (8, .int (v8))]) hx hb dX10_withQuest_100 hl (by decide) rfl ?_
      clear hl; intro ls hl
      refine w_iinc (v := 1) (lv' := fun y => [(8, .int (y)), (4, .long (v4_2)), (0, .ref (gz G + (v0))), (3, .int (v3)), (6, .int (v6)), (7, .int (v7))]) hx hb dX10_withQuest_102 hl (k := 5) rfl (by decide) (by decide) (fun _ => rfl) h ?_
      clear h hl; intro v8_3 h ls hl
      refine lv_goto (tgt := 77) hx hb dX10_withQuest_105 (by decide) ?_
      exact ih v0 h0 v3 v4_2 v6 v7 v8_3 σ h _ _ _ hW (lv_sub hl [2, 3, 1, 4, 5, 0] rfl)
set_option maxRecDepth 20000 in
set_option maxHeartbeats 4000000 in
theorem xl_X10_withQuest_L67 (X : Cx G p R s m args c cells slots cX10_withQuest 9 RX10 10) {r : Nat} {σ' : St} (hthr : R_X G p l e R s m args below meth c cells slots Q cX10_withQuest 9 RX10 r σ') (hpr : R_P G p l e R s m args below meth c cells slots Q r σ') :
    ∀ (n : Nat), ∀ (v0 : Nat) (h0 : kd v0 = 9) (v3 : Int32) (v4 : Int64) (v6 : Int32) (v7 : Int32) (σ : St) (_ : pf_X10_withQuest_L67 n v0 v3 v4 v6 v7 σ = some (.inl r, σ')) (H : Heap) (locs : List Loc) (ls : Array Slot) (_ : GW G σ s H locs) (_ : lv_has ls 9 [(0, .ref (gz G + (v0))), (3, .int (v3)), (4, .long (v4)), (6, .int (v6)), (7, .int (v7))]), W p l e R s m args below meth c H locs cells slots Q (F0 m 67 ls []) := by
  have hx := X.1.1
  have hb := X.1.2.1
  intro n
  induction n with
  | zero => intro v0 h0 v3 v4 v6 v7 σ h H locs ls hW hl; cases h
  | succ n ih =>
    intro v0 h0 v3 v4 v6 v7 σ h H locs ls hW hl
    rw [pf_X10_withQuest_L67.eq_2] at h
    refine lv_iload hx hb dX10_withQuest_67 (lv_at hl 4 rfl) ?_
    refine lv_iload hx hb dX10_withQuest_69 (lv_at hl 3 rfl) ?_
    refine lv_icmp_ge (tgt := 114) hx hb dX10_withQuest_71 (by decide) (fun hc => ?_) (fun hc => ?_)
    · replace h := if_t hc h
      refine lv_lload hx hb dX10_withQuest_114 (lv_at hl 2 rfl) ?_
      cases h
    · replace h := if_f hc h
      refine lv_iconst (v := 0) hx hb dX10_withQuest_74 (by decide) ?_
      refine lv_istore (lv' := [(8, .int (0)), (0, .ref (gz G + (v0))), (3, .int (v3)), (4, .long (v4)), (6, .int (v6)), (7, .int (v7))]) hx hb dX10_withQuest_75 hl (by decide) rfl ?_
      clear hl; intro ls hl
      exact xl_X10_withQuest_L77 X hthr hpr (xl_X10_withQuest_b108 X hthr hpr ih) FU v0 h0 v3 v4 v6 v7 0 σ h _ _ _ hW (lv_sub hl [1, 2, 3, 4, 5, 0] rfl)
set_option maxRecDepth 20000 in
set_option maxHeartbeats 4000000 in
theorem xl_X10_withQuest_b36 (X : Cx G p R s m args c cells slots cX10_withQuest 9 RX10 10) {r : Nat} {σ' : St} (hthr : R_X G p l e R s m args below meth c cells slots Q cX10_withQuest 9 RX10 r σ') (hpr : R_P G p l e R s m args below meth c cells slots Q r σ') :
    ∀ (v0 : Nat) (h0 : kd v0 = 9) (v3 : Int32) (v4 : Int64) (σ : St) (_ : pf_X10_withQuest_b36 v0 v3 v4 σ = some (.inl r, σ')) (H : Heap) (locs : List Loc) (ls : Array Slot) (_ : GW G σ s H locs) (_ : lv_has ls 9 [(0, .ref (gz G + (v0))), (3, .int (v3)), (4, .long (v4))]), W p l e R s m args below meth c H locs cells slots Q (F0 m 36 ls []) := by
  have hx := X.1.1
  have hb := X.1.2.1
  intro v0 h0 v3 v4 σ h H locs ls hW hl
  unfold pf_X10_withQuest_b36 at h
  refine lv_ldc2 (v := 31) hx hb X.1.2.2.2.1 (X.1.2.2.2.2 _ m_3_103) dX10_withQuest_36 ?_
  refine lv_lload hx hb dX10_withQuest_39 (lv_at hl 2 rfl) ?_
  refine lv_lmul hx hb dX10_withQuest_41 ?_
  refine lv_aload_n hx hb dX10_withQuest_42 rfl (lv_at hl 0 rfl) ?_
  refine lv_aload_n hx hb dX10_withQuest_43 rfl (lv_at hl 0 rfl) ?_
  refine lv_iload_n hx hb dX10_withQuest_44 rfl (lv_at hl 1 rfl) ?_
  rcases bndX0W_t h with ⟨hcl, rfl⟩ | ⟨r_1, hcl, h⟩
  · exact tcall_V X hW (kC_X10 h0) m_3_113 m_3_115 m_0_15 mv_X10_questAt (x_X10_questAt h0 hcl) (by decide) rfl rfl (Nat.le_of_ble_eq_true rfl) hl.1 dX10_withQuest_45 hpr
  refine call_V1 X hW (kC_X10 h0) m_3_113 m_3_115 m_0_15 mv_X10_questAt (c_X10_questAt h0 hcl) (by decide) rfl rfl (Nat.le_of_ble_eq_true rfl) hl.1 dX10_withQuest_45 ?_
  clear hW hcl; intro H locs hW
  obtain ⟨hk2, h⟩ := ckK_el h
  refine lv_iload_n hx hb dX10_withQuest_48 rfl (lv_at hl 1 rfl) ?_
  obtain ⟨r_3, σ_3, hcl, h⟩ := bnd2_el h
  refine call_V1 X hW (kC_X10 h0) m_2_197 m_2_199 m_0_9 mv_X10_worthOf (c_X10_worthOf h0 hk2 hcl) (by decide) rfl rfl (Nat.le_of_ble_eq_true rfl) hl.1 dX10_withQuest_49 ?_
  clear hW hcl; intro H locs hW
  refine lv_i2l hx hb dX10_withQuest_52 rfl ?_
  refine lv_ladd hx hb dX10_withQuest_53 ?_
  refine nm_l h ?_
  clear h; intro v4_4 h
  refine lv_lstore (lv' := [(4, .long (v4_4)), (0, .ref (gz G + (v0))), (3, .int (v3))]) hx hb dX10_withQuest_54 hl (by decide) rfl ?_
  clear hl; intro ls hl
  refine lv_aload_n hx hb dX10_withQuest_56 rfl (lv_at hl 1 rfl) ?_
  refine lv_iload_n hx hb dX10_withQuest_57 rfl (lv_at hl 2 rfl) ?_
  refine lv_iconst (v := 0) hx hb dX10_withQuest_58 (by decide) ?_
  rcases bndX0W_t h with ⟨hcl, rfl⟩ | ⟨r_5, hcl, h⟩
  · exact tcall_V X hW (kC_X10 h0) m_3_109 m_3_110 m_3_111 mv_X10_quest (x_X10_quest h0 hcl) (by decide) rfl rfl (Nat.le_of_ble_eq_true rfl) hl.1 dX10_withQuest_59 hpr
  refine call_V1 X hW (kC_X10 h0) m_3_109 m_3_110 m_3_111 mv_X10_quest (c_X10_quest h0 hcl) (by decide) rfl rfl (Nat.le_of_ble_eq_true rfl) hl.1 dX10_withQuest_59 ?_
  clear hW hcl; intro H locs hW
  refine lv_istore (lv' := [(6, .int (r_5)), (4, .long (v4_4)), (0, .ref (gz G + (v0))), (3, .int (v3))]) hx hb dX10_withQuest_62 hl (by decide) rfl ?_
  clear hl; intro ls hl
  refine lv_iconst (v := 0) hx hb dX10_withQuest_64 (by decide) ?_
  refine lv_istore (lv' := [(7, .int (0)), (6, .int (r_5)), (4, .long (v4_4)), (0, .ref (gz G + (v0))), (3, .int (v3))]) hx hb dX10_withQuest_65 hl (by decide) rfl ?_
  clear hl; intro ls hl
  exact xl_X10_withQuest_L67 X hthr hpr FU v0 h0 v3 v4_4 r_5 0 σ_3 h _ _ _ hW (lv_sub hl [3, 4, 2, 1, 0] rfl)
set_option maxRecDepth 20000 in
set_option maxHeartbeats 4000000 in
theorem xl_X10_withQuest_L6 (X : Cx G p R s m args c cells slots cX10_withQuest 9 RX10 10) {r : Nat} {σ' : St} (hthr : R_X G p l e R s m args below meth c cells slots Q cX10_withQuest 9 RX10 r σ') (hpr : R_P G p l e R s m args below meth c cells slots Q r σ') {k36 : Nat → Int32 → Int64 → St → (Option ((Nat ⊕ (Int64)) × St))}
    (hk36 : ∀ (v0 : Nat) (h0 : kd v0 = 9) (v3 : Int32) (v4 : Int64) (σ : St) (_ : k36 v0 v3 v4 σ = some (.inl r, σ')) (H : Heap) (locs : List Loc) (ls : Array Slot) (_ : GW G σ s H locs) (_ : lv_has ls 9 [(0, .ref (gz G + (v0))), (3, .int (v3)), (4, .long (v4))]), W p l e R s m args below meth c H locs cells slots Q (F0 m 36 ls [])) :
    ∀ (n : Nat), ∀ (v0 : Nat) (h0 : kd v0 = 9) (v3 : Int32) (v4 : Int64) (v6 : Int32) (σ : St) (_ : pf_X10_withQuest_L6 k36 n v0 v3 v4 v6 σ = some (.inl r, σ')) (H : Heap) (locs : List Loc) (ls : Array Slot) (_ : GW G σ s H locs) (_ : lv_has ls 9 [(0, .ref (gz G + (v0))), (3, .int (v3)), (4, .long (v4)), (6, .int (v6))]), W p l e R s m args below meth c H locs cells slots Q (F0 m 6 ls []) := by
  have hx := X.1.1
  have hb := X.1.2.1
  intro n
  induction n with
  | zero => intro v0 h0 v3 v4 v6 σ h H locs ls hW hl; cases h
  | succ n ih =>
    intro v0 h0 v3 v4 v6 σ h H locs ls hW hl
    rw [pf_X10_withQuest_L6.eq_2] at h
    refine lv_iload hx hb dX10_withQuest_6 (lv_at hl 3 rfl) ?_
    refine lv_bipush (v := 7) hx hb dX10_withQuest_8 (by decide) ?_
    refine lv_icmp_gt (tgt := 36) hx hb dX10_withQuest_10 (by decide) (fun hc => ?_) (fun hc => ?_)
    · replace h := if_t hc h
      exact hk36 v0 h0 v3 v4 σ h _ _ _ hW (lv_sub hl [0, 1, 2] rfl)
    · replace h := if_f hc h
      refine lv_ldc2 (v := 31) hx hb X.1.2.2.2.1 (X.1.2.2.2.2 _ m_3_103) dX10_withQuest_13 ?_
      refine lv_lload hx hb dX10_withQuest_16 (lv_at hl 2 rfl) ?_
      refine lv_lmul hx hb dX10_withQuest_18 ?_
      refine lv_aload_n hx hb dX10_withQuest_19 rfl (lv_at hl 0 rfl) ?_
      refine lv_iload_n hx hb dX10_withQuest_20 rfl (lv_at hl 1 rfl) ?_
      refine lv_iload hx hb dX10_withQuest_21 (lv_at hl 3 rfl) ?_
      rcases bndX0W_t h with ⟨hcl, rfl⟩ | ⟨r_1, hcl, h⟩
      · exact tcall_V X hW (kC_X10 h0) m_3_109 m_3_110 m_3_111 mv_X10_quest (x_X10_quest h0 hcl) (by decide) rfl rfl (Nat.le_of_ble_eq_true rfl) hl.1 dX10_withQuest_23 hpr
      refine call_V1 X hW (kC_X10 h0) m_3_109 m_3_110 m_3_111 mv_X10_quest (c_X10_quest h0 hcl) (by decide) rfl rfl (Nat.le_of_ble_eq_true rfl) hl.1 dX10_withQuest_23 ?_
      clear hW hcl; intro H locs hW
      refine lv_i2l hx hb dX10_withQuest_26 rfl ?_
      refine lv_ladd hx hb dX10_withQuest_27 ?_
      refine nm_l h ?_
      clear h; intro v4_2 h
      refine lv_lstore (lv' := [(4, .long (v4_2)), (0, .ref (gz G + (v0))), (3, .int (v3)), (6, .int (v6))]) hx hb dX10_withQuest_28 hl (by decide) rfl ?_
      clear hl; intro ls hl
      refine w_iinc (v := 1) (lv' := fun y => [(6, .int (y)), (4, .long (v4_2)), (0, .ref (gz G + (v0))), (3, .int (v3))]) hx hb dX10_withQuest_30 hl (k := 3) rfl (by decide) (by decide) (fun _ => rfl) h ?_
      clear h hl; intro v6_3 h ls hl
      refine lv_goto (tgt := 6) hx hb dX10_withQuest_33 (by decide) ?_
      exact ih v0 h0 v3 v4_2 v6_3 σ h _ _ _ hW (lv_sub hl [2, 3, 1, 0] rfl)
set_option maxRecDepth 20000 in
set_option maxHeartbeats 4000000 in
theorem x_X10_withQuest {G : Gt} {l : Launch} {v0 : Nat} (h0 : kd v0 = 9) {v1 : Int64} {v3 : Int32} {σ : St} {r : Nat} {σ' : St} (hf : pf_X10_withQuest v0 v1 v3 σ = some (.inl r, σ')) : CtT G l yX10_withQuest cX10_withQuest 9 (some .long) 10 [.ref (gz G + (v0)), .long (v1), .int (v3)] σ r σ' := by
  refine met_t (by decide +kernel) (Nat.le_of_ble_eq_true rfl) (by decide) ?_
  intro p e s m args below meth c Q ls X hW hthr hpr hl
  have hx := X.1.1
  have hb := X.1.2.1
  have hl : lv_has ls 9 [(0, .ref (gz G + (v0))), (1, .long (v1)), (3, .int (v3))] := hl
  have h := hf
  clear hf
  unfold pf_X10_withQuest at h
  refine lv_lload_n hx hb dX10_withQuest_0 rfl (lv_at hl 1 rfl) ?_
  refine lv_lstore (lv' := [(4, .long (v1)), (0, .ref (gz G + (v0))), (1, .long (v1)), (3, .int (v3))]) hx hb dX10_withQuest_1 hl (by decide) rfl ?_
  clear hl; intro ls hl
  refine lv_iconst (v := 0) hx hb dX10_withQuest_3 (by decide) ?_
  refine lv_istore (lv' := [(6, .int (0)), (4, .long (v1)), (0, .ref (gz G + (v0))), (1, .long (v1)), (3, .int (v3))]) hx hb dX10_withQuest_4 hl (by decide) rfl ?_
  clear hl; intro ls hl
  exact xl_X10_withQuest_L6 X hthr hpr (xl_X10_withQuest_b36 X hthr hpr) FU v0 h0 v3 v1 0 σ h _ _ _ hW (lv_sub hl [2, 4, 1, 0] rfl)
set_option maxRecDepth 20000 in
set_option maxHeartbeats 4000000 in
theorem bl_X10_checksum_L64 (X : Cx G p R s m args c cells slots cX10_checksum 4 RX10 11) {r : Int64} {σ' : St} (hret : R_L G p l e R s m args below meth c cells slots Q cX10_checksum r σ') :
    ∀ (n : Nat), ∀ (v0 : Nat) (h0 : kd v0 = 9) (v1 : Int64) (v3 : Int32) (σ : St) (_ : pf_X10_checksum_L64 n v0 v1 v3 σ = some (.inr r, σ')) (H : Heap) (locs : List Loc) (ls : Array Slot) (_ : GW G σ s H locs) (_ : lv_has ls 4 [(0, .ref (gz G + (v0))), (1, .long (v1)), (3, .int (v3))]), W p l e R s m args below meth c H locs cells slots Q (F0 m 64 ls []) := by
  have hx := X.1.1
  have hb := X.1.2.1
  intro n
  induction n with
  | zero => intro v0 h0 v1 v3 σ h H locs ls hW hl; cases h
  | succ n ih =>
    intro v0 h0 v1 v3 σ h H locs ls hW hl
    rw [pf_X10_checksum_L64.eq_2] at h
    refine lv_iload_n hx hb dX10_checksum_64 rfl (lv_at hl 2 rfl) ?_
    refine lv_aload_n hx hb dX10_checksum_65 rfl (lv_at hl 0 rfl) ?_
    refine gf_X10_now X hW h0 m_2_64 dX10_checksum_66 ?_
    refine gf_X2_questCount X hW (kf_X10_now h0) m_1_147 dX10_checksum_69 ?_
    refine lv_icmp_ge (tgt := 88) hx hb dX10_checksum_72 (by decide) (fun hc => ?_) (fun hc => ?_)
    · replace h := if_t hc h
      refine lv_lload_n hx hb dX10_checksum_88 rfl (lv_at hl 1 rfl) ?_
      replace h := xr_el h
      exact rl_end hret h dX10_checksum_89 hW
    · replace h := if_f hc h
      refine lv_aload_n hx hb dX10_checksum_75 rfl (lv_at hl 0 rfl) ?_
      refine lv_lload_n hx hb dX10_checksum_76 rfl (lv_at hl 1 rfl) ?_
      refine lv_iload_n hx hb dX10_checksum_77 rfl (lv_at hl 2 rfl) ?_
      obtain ⟨r_1, σ_1, hcl, h⟩ := bndXW_n h
      refine call_V1 X hW (kC_X10 h0) m_3_105 m_3_107 m_0_14 mv_X10_withQuest (c_X10_withQuest h0 hcl) (by decide) rfl rfl (Nat.le_of_ble_eq_true rfl) hl.1 dX10_checksum_78 ?_
      clear hW hcl; intro H locs hW
      refine lv_lstore_n (lv' := [(1, .long (r_1)), (0, .ref (gz G + (v0))), (3, .int (v3))]) hx hb dX10_checksum_81 rfl hl (by decide) rfl ?_
      clear hl; intro ls hl
      refine w_iinc (v := 1) (lv' := fun y => [(3, .int (y)), (1, .long (r_1)), (0, .ref (gz G + (v0)))]) hx hb dX10_checksum_82 hl (k := 2) rfl (by decide) (by decide) (fun _ => rfl) h ?_
      clear h hl; intro v3_2 h ls hl
      refine lv_goto (tgt := 64) hx hb dX10_checksum_85 (by decide) ?_
      exact ih v0 h0 r_1 v3_2 σ_1 h _ _ _ hW (lv_sub hl [2, 1, 0] rfl)
set_option maxRecDepth 20000 in
set_option maxHeartbeats 4000000 in
theorem bl_X10_checksum_b62 (X : Cx G p R s m args c cells slots cX10_checksum 4 RX10 11) {r : Int64} {σ' : St} (hret : R_L G p l e R s m args below meth c cells slots Q cX10_checksum r σ') :
    ∀ (v0 : Nat) (h0 : kd v0 = 9) (v1 : Int64) (σ : St) (_ : pf_X10_checksum_b62 v0 v1 σ = some (.inr r, σ')) (H : Heap) (locs : List Loc) (ls : Array Slot) (_ : GW G σ s H locs) (_ : lv_has ls 4 [(0, .ref (gz G + (v0))), (1, .long (v1))]), W p l e R s m args below meth c H locs cells slots Q (F0 m 62 ls []) := by
  have hx := X.1.1
  have hb := X.1.2.1
  intro v0 h0 v1 σ h H locs ls hW hl
  unfold pf_X10_checksum_b62 at h
  refine lv_iconst (v := 0) hx hb dX10_checksum_62 (by decide) ?_
  refine lv_istore_n (lv' := [(3, .int (0)), (0, .ref (gz G + (v0))), (1, .long (v1))]) hx hb dX10_checksum_63 rfl hl (by decide) rfl ?_
  clear hl; intro ls hl
  exact bl_X10_checksum_L64 X hret FU v0 h0 v1 0 σ h _ _ _ hW (lv_sub hl [1, 2, 0] rfl)
set_option maxRecDepth 20000 in
set_option maxHeartbeats 4000000 in
theorem bl_X10_checksum_L31 (X : Cx G p R s m args c cells slots cX10_checksum 4 RX10 11) {r : Int64} {σ' : St} (hret : R_L G p l e R s m args below meth c cells slots Q cX10_checksum r σ') {k62 : Nat → Int64 → St → (Option ((Nat ⊕ (Int64)) × St))}
    (hk62 : ∀ (v0 : Nat) (h0 : kd v0 = 9) (v1 : Int64) (σ : St) (_ : k62 v0 v1 σ = some (.inr r, σ')) (H : Heap) (locs : List Loc) (ls : Array Slot) (_ : GW G σ s H locs) (_ : lv_has ls 4 [(0, .ref (gz G + (v0))), (1, .long (v1))]), W p l e R s m args below meth c H locs cells slots Q (F0 m 62 ls [])) :
    ∀ (n : Nat), ∀ (v0 : Nat) (h0 : kd v0 = 9) (v1 : Int64) (v3 : Int32) (σ : St) (_ : pf_X10_checksum_L31 k62 n v0 v1 v3 σ = some (.inr r, σ')) (H : Heap) (locs : List Loc) (ls : Array Slot) (_ : GW G σ s H locs) (_ : lv_has ls 4 [(0, .ref (gz G + (v0))), (1, .long (v1)), (3, .int (v3))]), W p l e R s m args below meth c H locs cells slots Q (F0 m 31 ls []) := by
  have hx := X.1.1
  have hb := X.1.2.1
  intro n
  induction n with
  | zero => intro v0 h0 v1 v3 σ h H locs ls hW hl; cases h
  | succ n ih =>
    intro v0 h0 v1 v3 σ h H locs ls hW hl
    rw [pf_X10_checksum_L31.eq_2] at h
    refine lv_iload_n hx hb dX10_checksum_31 rfl (lv_at hl 2 rfl) ?_
    refine lv_bipush (v := 8) hx hb dX10_checksum_32 (by decide) ?_
    refine lv_icmp_ge (tgt := 62) hx hb dX10_checksum_34 (by decide) (fun hc => ?_) (fun hc => ?_)
    · replace h := if_t hc h
      exact hk62 v0 h0 v1 σ h _ _ _ hW (lv_sub hl [0, 1] rfl)
    · replace h := if_f hc h
      refine lv_ldc2 (v := 31) hx hb X.1.2.2.2.1 (X.1.2.2.2.2 _ m_3_103) dX10_checksum_37 ?_
      refine lv_lload_n hx hb dX10_checksum_40 rfl (lv_at hl 1 rfl) ?_
      refine lv_lmul hx hb dX10_checksum_41 ?_
      refine lv_aload_n hx hb dX10_checksum_42 rfl (lv_at hl 0 rfl) ?_
      refine gf_X10_now X hW h0 m_2_64 dX10_checksum_43 ?_
      refine gf_X2_stock X hW (kf_X10_now h0) m_1_136 dX10_checksum_46 ?_
      refine lv_iload_n hx hb dX10_checksum_49 rfl (lv_at hl 2 rfl) ?_
      obtain ⟨r_1, hcl, h⟩ := bind_el h
      refine call_S1 X hW m_3_104 m_2_132 mv_X10_at (c_X10_at (kf_X2_stock (kf_X10_now h0)) hcl) (by decide) rfl rfl (Nat.le_of_ble_eq_true rfl) hl.1 dX10_checksum_50 ?_
      clear hW hcl; intro H locs hW
      refine lv_i2l hx hb dX10_checksum_53 rfl ?_
      refine lv_ladd hx hb dX10_checksum_54 ?_
      refine nm_l h ?_
      clear h; intro v1_2 h
      refine lv_lstore_n (lv' := [(1, .long (v1_2)), (0, .ref (gz G + (v0))), (3, .int (v3))]) hx hb dX10_checksum_55 rfl hl (by decide) rfl ?_
      clear hl; intro ls hl
      refine w_iinc (v := 1) (lv' := fun y => [(3, .int (y)), (1, .long (v1_2)), (0, .ref (gz G + (v0)))]) hx hb dX10_checksum_56 hl (k := 2) rfl (by decide) (by decide) (fun _ => rfl) h ?_
      clear h hl; intro v3_3 h ls hl
      refine lv_goto (tgt := 31) hx hb dX10_checksum_59 (by decide) ?_
      exact ih v0 h0 v1_2 v3_3 σ h _ _ _ hW (lv_sub hl [2, 1, 0] rfl)
set_option maxRecDepth 20000 in
set_option maxHeartbeats 4000000 in
theorem bl_X10_checksum_b29 (X : Cx G p R s m args c cells slots cX10_checksum 4 RX10 11) {r : Int64} {σ' : St} (hret : R_L G p l e R s m args below meth c cells slots Q cX10_checksum r σ') :
    ∀ (v0 : Nat) (h0 : kd v0 = 9) (v1 : Int64) (σ : St) (_ : pf_X10_checksum_b29 v0 v1 σ = some (.inr r, σ')) (H : Heap) (locs : List Loc) (ls : Array Slot) (_ : GW G σ s H locs) (_ : lv_has ls 4 [(0, .ref (gz G + (v0))), (1, .long (v1))]), W p l e R s m args below meth c H locs cells slots Q (F0 m 29 ls []) := by
  have hx := X.1.1
  have hb := X.1.2.1
  intro v0 h0 v1 σ h H locs ls hW hl
  unfold pf_X10_checksum_b29 at h
  refine lv_iconst (v := 0) hx hb dX10_checksum_29 (by decide) ?_
  refine lv_istore_n (lv' := [(3, .int (0)), (0, .ref (gz G + (v0))), (1, .long (v1))]) hx hb dX10_checksum_30 rfl hl (by decide) rfl ?_
  clear hl; intro ls hl
  exact bl_X10_checksum_L31 X hret (bl_X10_checksum_b62 X hret) FU v0 h0 v1 0 σ h _ _ _ hW (lv_sub hl [1, 2, 0] rfl)
set_option maxRecDepth 20000 in
set_option maxHeartbeats 4000000 in
theorem bl_X10_checksum_L4 (X : Cx G p R s m args c cells slots cX10_checksum 4 RX10 11) {r : Int64} {σ' : St} (hret : R_L G p l e R s m args below meth c cells slots Q cX10_checksum r σ') {k29 : Nat → Int64 → St → (Option ((Nat ⊕ (Int64)) × St))}
    (hk29 : ∀ (v0 : Nat) (h0 : kd v0 = 9) (v1 : Int64) (σ : St) (_ : k29 v0 v1 σ = some (.inr r, σ')) (H : Heap) (locs : List Loc) (ls : Array Slot) (_ : GW G σ s H locs) (_ : lv_has ls 4 [(0, .ref (gz G + (v0))), (1, .long (v1))]), W p l e R s m args below meth c H locs cells slots Q (F0 m 29 ls [])) :
    ∀ (n : Nat), ∀ (v0 : Nat) (h0 : kd v0 = 9) (v1 : Int64) (v3 : Int32) (σ : St) (_ : pf_X10_checksum_L4 k29 n v0 v1 v3 σ = some (.inr r, σ')) (H : Heap) (locs : List Loc) (ls : Array Slot) (_ : GW G σ s H locs) (_ : lv_has ls 4 [(0, .ref (gz G + (v0))), (1, .long (v1)), (3, .int (v3))]), W p l e R s m args below meth c H locs cells slots Q (F0 m 4 ls []) := by
  have hx := X.1.1
  have hb := X.1.2.1
  intro n
  induction n with
  | zero => intro v0 h0 v1 v3 σ h H locs ls hW hl; cases h
  | succ n ih =>
    intro v0 h0 v1 v3 σ h H locs ls hW hl
    rw [pf_X10_checksum_L4.eq_2] at h
    refine lv_iload_n hx hb dX10_checksum_4 rfl (lv_at hl 2 rfl) ?_
    refine lv_bipush (v := 8) hx hb dX10_checksum_5 (by decide) ?_
    refine lv_icmp_gt (tgt := 29) hx hb dX10_checksum_7 (by decide) (fun hc => ?_) (fun hc => ?_)
    · replace h := if_t hc h
      exact hk29 v0 h0 v1 σ h _ _ _ hW (lv_sub hl [0, 1] rfl)
    · replace h := if_f hc h
      refine lv_ldc2 (v := 31) hx hb X.1.2.2.2.1 (X.1.2.2.2.2 _ m_3_103) dX10_checksum_10 ?_
      refine lv_lload_n hx hb dX10_checksum_13 rfl (lv_at hl 1 rfl) ?_
      refine lv_lmul hx hb dX10_checksum_14 ?_
      refine lv_aload_n hx hb dX10_checksum_15 rfl (lv_at hl 0 rfl) ?_
      refine lv_iload_n hx hb dX10_checksum_16 rfl (lv_at hl 2 rfl) ?_
      obtain ⟨r_1, σ_1, hcl, h⟩ := bndXW_n h
      refine call_V1 X hW (kC_X10 h0) m_3_18 m_3_19 m_3_20 mv_X10_state (c_X10_state h0 hcl) (by decide) rfl rfl (Nat.le_of_ble_eq_true rfl) hl.1 dX10_checksum_17 ?_
      clear hW hcl; intro H locs hW
      refine lv_i2l hx hb dX10_checksum_20 rfl ?_
      refine lv_ladd hx hb dX10_checksum_21 ?_
      refine nm_l h ?_
      clear h; intro v1_2 h
      refine lv_lstore_n (lv' := [(1, .long (v1_2)), (0, .ref (gz G + (v0))), (3, .int (v3))]) hx hb dX10_checksum_22 rfl hl (by decide) rfl ?_
      clear hl; intro ls hl
      refine w_iinc (v := 1) (lv' := fun y => [(3, .int (y)), (1, .long (v1_2)), (0, .ref (gz G + (v0)))]) hx hb dX10_checksum_23 hl (k := 2) rfl (by decide) (by decide) (fun _ => rfl) h ?_
      clear h hl; intro v3_3 h ls hl
      refine lv_goto (tgt := 4) hx hb dX10_checksum_26 (by decide) ?_
      exact ih v0 h0 v1_2 v3_3 σ_1 h _ _ _ hW (lv_sub hl [2, 1, 0] rfl)
set_option maxRecDepth 20000 in
set_option maxHeartbeats 4000000 in
theorem c_X10_checksum {G : Gt} {l : Launch} {v0 : Nat} (h0 : kd v0 = 9) {σ : St} {r : Int64} {σ' : St} (hf : pf_X10_checksum v0 σ = some (.inr r, σ')) : Ct G l yX10_checksum cX10_checksum 4 (some .long) 11 [.ref (gz G + (v0))] σ (some (.long r)) σ' := by
  refine met_l (by decide +kernel) (Nat.le_of_ble_eq_true rfl) rfl ?_
  intro p e s m args below meth c Q ls X hW hret hl
  have hx := X.1.1
  have hb := X.1.2.1
  have hl : lv_has ls 4 [(0, .ref (gz G + (v0)))] := hl
  have h := hf
  clear hf
  unfold pf_X10_checksum at h
  refine lv_lconst (v := 0) hx hb dX10_checksum_0 (by decide) ?_
  refine lv_lstore_n (lv' := [(1, .long (0)), (0, .ref (gz G + (v0)))]) hx hb dX10_checksum_1 rfl hl (by decide) rfl ?_
  clear hl; intro ls hl
  refine lv_iconst (v := 0) hx hb dX10_checksum_2 (by decide) ?_
  refine lv_istore_n (lv' := [(3, .int (0)), (1, .long (0)), (0, .ref (gz G + (v0)))]) hx hb dX10_checksum_3 rfl hl (by decide) rfl ?_
  clear hl; intro ls hl
  exact bl_X10_checksum_L4 X hret (bl_X10_checksum_b29 X hret) FU v0 h0 0 0 σ h _ _ _ hW (lv_sub hl [2, 1, 0] rfl)
set_option maxRecDepth 20000 in
set_option maxHeartbeats 4000000 in
theorem xl_X10_checksum_L64 (X : Cx G p R s m args c cells slots cX10_checksum 4 RX10 11) {r : Nat} {σ' : St} (hthr : R_X G p l e R s m args below meth c cells slots Q cX10_checksum 4 RX10 r σ') (hpr : R_P G p l e R s m args below meth c cells slots Q r σ') :
    ∀ (n : Nat), ∀ (v0 : Nat) (h0 : kd v0 = 9) (v1 : Int64) (v3 : Int32) (σ : St) (_ : pf_X10_checksum_L64 n v0 v1 v3 σ = some (.inl r, σ')) (H : Heap) (locs : List Loc) (ls : Array Slot) (_ : GW G σ s H locs) (_ : lv_has ls 4 [(0, .ref (gz G + (v0))), (1, .long (v1)), (3, .int (v3))]), W p l e R s m args below meth c H locs cells slots Q (F0 m 64 ls []) := by
  have hx := X.1.1
  have hb := X.1.2.1
  intro n
  induction n with
  | zero => intro v0 h0 v1 v3 σ h H locs ls hW hl; cases h
  | succ n ih =>
    intro v0 h0 v1 v3 σ h H locs ls hW hl
    rw [pf_X10_checksum_L64.eq_2] at h
    refine lv_iload_n hx hb dX10_checksum_64 rfl (lv_at hl 2 rfl) ?_
    refine lv_aload_n hx hb dX10_checksum_65 rfl (lv_at hl 0 rfl) ?_
    refine gf_X10_now X hW h0 m_2_64 dX10_checksum_66 ?_
    refine gf_X2_questCount X hW (kf_X10_now h0) m_1_147 dX10_checksum_69 ?_
    refine lv_icmp_ge (tgt := 88) hx hb dX10_checksum_72 (by decide) (fun hc => ?_) (fun hc => ?_)
    · replace h := if_t hc h
      refine lv_lload_n hx hb dX10_checksum_88 rfl (lv_at hl 1 rfl) ?_
      cases h
    · replace h := if_f hc h
      refine lv_aload_n hx hb dX10_checksum_75 rfl (lv_at hl 0 rfl) ?_
      refine lv_lload_n hx hb dX10_checksum_76 rfl (lv_at hl 1 rfl) ?_
      refine lv_iload_n hx hb dX10_checksum_77 rfl (lv_at hl 2 rfl) ?_
      rcases bndXW_t h with hcl | ⟨r_1, σ_1, hcl, h⟩
      · exact tcall_V X hW (kC_X10 h0) m_3_105 m_3_107 m_0_14 mv_X10_withQuest (x_X10_withQuest h0 hcl) (by decide) rfl rfl (Nat.le_of_ble_eq_true rfl) hl.1 dX10_checksum_78 hpr
      refine call_V1 X hW (kC_X10 h0) m_3_105 m_3_107 m_0_14 mv_X10_withQuest (c_X10_withQuest h0 hcl) (by decide) rfl rfl (Nat.le_of_ble_eq_true rfl) hl.1 dX10_checksum_78 ?_
      clear hW hcl; intro H locs hW
      refine lv_lstore_n (lv' := [(1, .long (r_1)), (0, .ref (gz G + (v0))), (3, .int (v3))]) hx hb dX10_checksum_81 rfl hl (by decide) rfl ?_
      clear hl; intro ls hl
      refine w_iinc (v := 1) (lv' := fun y => [(3, .int (y)), (1, .long (r_1)), (0, .ref (gz G + (v0)))]) hx hb dX10_checksum_82 hl (k := 2) rfl (by decide) (by decide) (fun _ => rfl) h ?_
      clear h hl; intro v3_2 h ls hl
      refine lv_goto (tgt := 64) hx hb dX10_checksum_85 (by decide) ?_
      exact ih v0 h0 r_1 v3_2 σ_1 h _ _ _ hW (lv_sub hl [2, 1, 0] rfl)
set_option maxRecDepth 20000 in
set_option maxHeartbeats 4000000 in
theorem xl_X10_checksum_b62 (X : Cx G p R s m args c cells slots cX10_checksum 4 RX10 11) {r : Nat} {σ' : St} (hthr : R_X G p l e R s m args below meth c cells slots Q cX10_checksum 4 RX10 r σ') (hpr : R_P G p l e R s m args below meth c cells slots Q r σ') :
    ∀ (v0 : Nat) (h0 : kd v0 = 9) (v1 : Int64) (σ : St) (_ : pf_X10_checksum_b62 v0 v1 σ = some (.inl r, σ')) (H : Heap) (locs : List Loc) (ls : Array Slot) (_ : GW G σ s H locs) (_ : lv_has ls 4 [(0, .ref (gz G + (v0))), (1, .long (v1))]), W p l e R s m args below meth c H locs cells slots Q (F0 m 62 ls []) := by
  have hx := X.1.1
  have hb := X.1.2.1
  intro v0 h0 v1 σ h H locs ls hW hl
  unfold pf_X10_checksum_b62 at h
  refine lv_iconst (v := 0) hx hb dX10_checksum_62 (by decide) ?_
  refine lv_istore_n (lv' := [(3, .int (0)), (0, .ref (gz G + (v0))), (1, .long (v1))]) hx hb dX10_checksum_63 rfl hl (by decide) rfl ?_
  clear hl; intro ls hl
  exact xl_X10_checksum_L64 X hthr hpr FU v0 h0 v1 0 σ h _ _ _ hW (lv_sub hl [1, 2, 0] rfl)
set_option maxRecDepth 20000 in
set_option maxHeartbeats 4000000 in
theorem xl_X10_checksum_L31 (X : Cx G p R s m args c cells slots cX10_checksum 4 RX10 11) {r : Nat} {σ' : St} (hthr : R_X G p l e R s m args below meth c cells slots Q cX10_checksum 4 RX10 r σ') (hpr : R_P G p l e R s m args below meth c cells slots Q r σ') {k62 : Nat → Int64 → St → (Option ((Nat ⊕ (Int64)) × St))}
    (hk62 : ∀ (v0 : Nat) (h0 : kd v0 = 9) (v1 : Int64) (σ : St) (_ : k62 v0 v1 σ = some (.inl r, σ')) (H : Heap) (locs : List Loc) (ls : Array Slot) (_ : GW G σ s H locs) (_ : lv_has ls 4 [(0, .ref (gz G + (v0))), (1, .long (v1))]), W p l e R s m args below meth c H locs cells slots Q (F0 m 62 ls [])) :
    ∀ (n : Nat), ∀ (v0 : Nat) (h0 : kd v0 = 9) (v1 : Int64) (v3 : Int32) (σ : St) (_ : pf_X10_checksum_L31 k62 n v0 v1 v3 σ = some (.inl r, σ')) (H : Heap) (locs : List Loc) (ls : Array Slot) (_ : GW G σ s H locs) (_ : lv_has ls 4 [(0, .ref (gz G + (v0))), (1, .long (v1)), (3, .int (v3))]), W p l e R s m args below meth c H locs cells slots Q (F0 m 31 ls []) := by
  have hx := X.1.1
  have hb := X.1.2.1
  intro n
  induction n with
  | zero => intro v0 h0 v1 v3 σ h H locs ls hW hl; cases h
  | succ n ih =>
    intro v0 h0 v1 v3 σ h H locs ls hW hl
    rw [pf_X10_checksum_L31.eq_2] at h
    refine lv_iload_n hx hb dX10_checksum_31 rfl (lv_at hl 2 rfl) ?_
    refine lv_bipush (v := 8) hx hb dX10_checksum_32 (by decide) ?_
    refine lv_icmp_ge (tgt := 62) hx hb dX10_checksum_34 (by decide) (fun hc => ?_) (fun hc => ?_)
    · replace h := if_t hc h
      exact hk62 v0 h0 v1 σ h _ _ _ hW (lv_sub hl [0, 1] rfl)
    · replace h := if_f hc h
      refine lv_ldc2 (v := 31) hx hb X.1.2.2.2.1 (X.1.2.2.2.2 _ m_3_103) dX10_checksum_37 ?_
      refine lv_lload_n hx hb dX10_checksum_40 rfl (lv_at hl 1 rfl) ?_
      refine lv_lmul hx hb dX10_checksum_41 ?_
      refine lv_aload_n hx hb dX10_checksum_42 rfl (lv_at hl 0 rfl) ?_
      refine gf_X10_now X hW h0 m_2_64 dX10_checksum_43 ?_
      refine gf_X2_stock X hW (kf_X10_now h0) m_1_136 dX10_checksum_46 ?_
      refine lv_iload_n hx hb dX10_checksum_49 rfl (lv_at hl 2 rfl) ?_
      obtain ⟨r_1, hcl, h⟩ := bind_el h
      refine call_S1 X hW m_3_104 m_2_132 mv_X10_at (c_X10_at (kf_X2_stock (kf_X10_now h0)) hcl) (by decide) rfl rfl (Nat.le_of_ble_eq_true rfl) hl.1 dX10_checksum_50 ?_
      clear hW hcl; intro H locs hW
      refine lv_i2l hx hb dX10_checksum_53 rfl ?_
      refine lv_ladd hx hb dX10_checksum_54 ?_
      refine nm_l h ?_
      clear h; intro v1_2 h
      refine lv_lstore_n (lv' := [(1, .long (v1_2)), (0, .ref (gz G + (v0))), (3, .int (v3))]) hx hb dX10_checksum_55 rfl hl (by decide) rfl ?_
      clear hl; intro ls hl
      refine w_iinc (v := 1) (lv' := fun y => [(3, .int (y)), (1, .long (v1_2)), (0, .ref (gz G + (v0)))]) hx hb dX10_checksum_56 hl (k := 2) rfl (by decide) (by decide) (fun _ => rfl) h ?_
      clear h hl; intro v3_3 h ls hl
      refine lv_goto (tgt := 31) hx hb dX10_checksum_59 (by decide) ?_
      exact ih v0 h0 v1_2 v3_3 σ h _ _ _ hW (lv_sub hl [2, 1, 0] rfl)
set_option maxRecDepth 20000 in
set_option maxHeartbeats 4000000 in
theorem xl_X10_checksum_b29 (X : Cx G p R s m args c cells slots cX10_checksum 4 RX10 11) {r : Nat} {σ' : St} (hthr : R_X G p l e R s m args below meth c cells slots Q cX10_checksum 4 RX10 r σ') (hpr : R_P G p l e R s m args below meth c cells slots Q r σ') :
    ∀ (v0 : Nat) (h0 : kd v0 = 9) (v1 : Int64) (σ : St) (_ : pf_X10_checksum_b29 v0 v1 σ = some (.inl r, σ')) (H : Heap) (locs : List Loc) (ls : Array Slot) (_ : GW G σ s H locs) (_ : lv_has ls 4 [(0, .ref (gz G + (v0))), (1, .long (v1))]), W p l e R s m args below meth c H locs cells slots Q (F0 m 29 ls []) := by
  have hx := X.1.1
  have hb := X.1.2.1
  intro v0 h0 v1 σ h H locs ls hW hl
  unfold pf_X10_checksum_b29 at h
  refine lv_iconst (v := 0) hx hb dX10_checksum_29 (by decide) ?_
  refine lv_istore_n (lv' := [(3, .int (0)), (0, .ref (gz G + (v0))), (1, .long (v1))]) hx hb dX10_checksum_30 rfl hl (by decide) rfl ?_
  clear hl; intro ls hl
  exact xl_X10_checksum_L31 X hthr hpr (xl_X10_checksum_b62 X hthr hpr) FU v0 h0 v1 0 σ h _ _ _ hW (lv_sub hl [1, 2, 0] rfl)
set_option maxRecDepth 20000 in
set_option maxHeartbeats 4000000 in
theorem xl_X10_checksum_L4 (X : Cx G p R s m args c cells slots cX10_checksum 4 RX10 11) {r : Nat} {σ' : St} (hthr : R_X G p l e R s m args below meth c cells slots Q cX10_checksum 4 RX10 r σ') (hpr : R_P G p l e R s m args below meth c cells slots Q r σ') {k29 : Nat → Int64 → St → (Option ((Nat ⊕ (Int64)) × St))}
    (hk29 : ∀ (v0 : Nat) (h0 : kd v0 = 9) (v1 : Int64) (σ : St) (_ : k29 v0 v1 σ = some (.inl r, σ')) (H : Heap) (locs : List Loc) (ls : Array Slot) (_ : GW G σ s H locs) (_ : lv_has ls 4 [(0, .ref (gz G + (v0))), (1, .long (v1))]), W p l e R s m args below meth c H locs cells slots Q (F0 m 29 ls [])) :
    ∀ (n : Nat), ∀ (v0 : Nat) (h0 : kd v0 = 9) (v1 : Int64) (v3 : Int32) (σ : St) (_ : pf_X10_checksum_L4 k29 n v0 v1 v3 σ = some (.inl r, σ')) (H : Heap) (locs : List Loc) (ls : Array Slot) (_ : GW G σ s H locs) (_ : lv_has ls 4 [(0, .ref (gz G + (v0))), (1, .long (v1)), (3, .int (v3))]), W p l e R s m args below meth c H locs cells slots Q (F0 m 4 ls []) := by
  have hx := X.1.1
  have hb := X.1.2.1
  intro n
  induction n with
  | zero => intro v0 h0 v1 v3 σ h H locs ls hW hl; cases h
  | succ n ih =>
    intro v0 h0 v1 v3 σ h H locs ls hW hl
    rw [pf_X10_checksum_L4.eq_2] at h
    refine lv_iload_n hx hb dX10_checksum_4 rfl (lv_at hl 2 rfl) ?_
    refine lv_bipush (v := 8) hx hb dX10_checksum_5 (by decide) ?_
    refine lv_icmp_gt (tgt := 29) hx hb dX10_checksum_7 (by decide) (fun hc => ?_) (fun hc => ?_)
    · replace h := if_t hc h
      exact hk29 v0 h0 v1 σ h _ _ _ hW (lv_sub hl [0, 1] rfl)
    · replace h := if_f hc h
      refine lv_ldc2 (v := 31) hx hb X.1.2.2.2.1 (X.1.2.2.2.2 _ m_3_103) dX10_checksum_10 ?_
      refine lv_lload_n hx hb dX10_checksum_13 rfl (lv_at hl 1 rfl) ?_
      refine lv_lmul hx hb dX10_checksum_14 ?_
      refine lv_aload_n hx hb dX10_checksum_15 rfl (lv_at hl 0 rfl) ?_
      refine lv_iload_n hx hb dX10_checksum_16 rfl (lv_at hl 2 rfl) ?_
      rcases bndXW_t h with hcl | ⟨r_1, σ_1, hcl, h⟩
      · exact tcall_V X hW (kC_X10 h0) m_3_18 m_3_19 m_3_20 mv_X10_state (x_X10_state h0 hcl) (by decide) rfl rfl (Nat.le_of_ble_eq_true rfl) hl.1 dX10_checksum_17 hpr
      refine call_V1 X hW (kC_X10 h0) m_3_18 m_3_19 m_3_20 mv_X10_state (c_X10_state h0 hcl) (by decide) rfl rfl (Nat.le_of_ble_eq_true rfl) hl.1 dX10_checksum_17 ?_
      clear hW hcl; intro H locs hW
      refine lv_i2l hx hb dX10_checksum_20 rfl ?_
      refine lv_ladd hx hb dX10_checksum_21 ?_
      refine nm_l h ?_
      clear h; intro v1_2 h
      refine lv_lstore_n (lv' := [(1, .long (v1_2)), (0, .ref (gz G + (v0))), (3, .int (v3))]) hx hb dX10_checksum_22 rfl hl (by decide) rfl ?_
      clear hl; intro ls hl
      refine w_iinc (v := 1) (lv' := fun y => [(3, .int (y)), (1, .long (v1_2)), (0, .ref (gz G + (v0)))]) hx hb dX10_checksum_23 hl (k := 2) rfl (by decide) (by decide) (fun _ => rfl) h ?_
      clear h hl; intro v3_3 h ls hl
      refine lv_goto (tgt := 4) hx hb dX10_checksum_26 (by decide) ?_
      exact ih v0 h0 v1_2 v3_3 σ_1 h _ _ _ hW (lv_sub hl [2, 1, 0] rfl)
set_option maxRecDepth 20000 in
set_option maxHeartbeats 4000000 in
theorem x_X10_checksum {G : Gt} {l : Launch} {v0 : Nat} (h0 : kd v0 = 9) {σ : St} {r : Nat} {σ' : St} (hf : pf_X10_checksum v0 σ = some (.inl r, σ')) : CtT G l yX10_checksum cX10_checksum 4 (some .long) 11 [.ref (gz G + (v0))] σ r σ' := by
  refine met_t (by decide +kernel) (Nat.le_of_ble_eq_true rfl) (by decide) ?_
  intro p e s m args below meth c Q ls X hW hthr hpr hl
  have hx := X.1.1
  have hb := X.1.2.1
  have hl : lv_has ls 4 [(0, .ref (gz G + (v0)))] := hl
  have h := hf
  clear hf
  unfold pf_X10_checksum at h
  refine lv_lconst (v := 0) hx hb dX10_checksum_0 (by decide) ?_
  refine lv_lstore_n (lv' := [(1, .long (0)), (0, .ref (gz G + (v0)))]) hx hb dX10_checksum_1 rfl hl (by decide) rfl ?_
  clear hl; intro ls hl
  refine lv_iconst (v := 0) hx hb dX10_checksum_2 (by decide) ?_
  refine lv_istore_n (lv' := [(3, .int (0)), (1, .long (0)), (0, .ref (gz G + (v0)))]) hx hb dX10_checksum_3 rfl hl (by decide) rfl ?_
  clear hl; intro ls hl
  exact xl_X10_checksum_L4 X hthr hpr (xl_X10_checksum_b29 X hthr hpr) FU v0 h0 0 0 σ h _ _ _ hW (lv_sub hl [2, 1, 0] rfl)
end
