/-! THE LAW'S GAME: contracts (by wip/p34/gen/emitg.py) -/
theorem m_0_8 : Cond.selects RX11 yX11_canStillBe yX11_canStillBe ∈ TB := mem_t0 8 (by decide +kernel)
theorem m_1_1 : Cond.initialized RX11 ∈ TB := mem_t1 1 (by decide +kernel)
theorem m_3_62 : Cond.fieldLink RX11 10 "QuestLedgerLaw$Game" "steps" "Ljava/util/ArrayList;" ∈ TB := mem_t3 62 (by decide +kernel)
theorem m_3_64 : Cond.fieldLink RX11 16 "QuestLedgerLaw$Game" "stock" "[I" ∈ TB := mem_t3 64 (by decide +kernel)
theorem m_3_67 : Cond.fieldLink RX11 136 "QuestLedgerLaw$Game" "seed" "I" ∈ TB := mem_t3 67 (by decide +kernel)
theorem m_3_68 : Cond.fieldLink RX11 51 "QuestLedgerLaw$Game" "state" "I" ∈ TB := mem_t3 68 (by decide +kernel)
theorem m_3_69 : Cond.fieldLink RX11 34 "QuestLedgerLaw$Game" "least" "I" ∈ TB := mem_t3 69 (by decide +kernel)
theorem m_3_71 : Cond.fieldLink RX11 24 "QuestLedgerLaw$Game" "sort" "I" ∈ TB := mem_t3 71 (by decide +kernel)
theorem m_3_100 : Cond.methodLink RX11 41 yJx4a65c_get_915e3 ∈ TB := mem_t3 100 (by decide +kernel)
theorem m_3_114 : Cond.classLink RX11 45 RX12 ∈ TB := mem_t3 114 (by decide +kernel)
theorem m_3_115 : Cond.methodLink RX11 85 yX11_done ∈ TB := mem_t3 115 (by decide +kernel)
theorem m_3_116 : Cond.instanceMethod yX11_done ∈ TB := mem_t3 116 (by decide +kernel)
theorem m_3_117 : Cond.selects RX11 yX11_done yX11_done ∈ TB := mem_t3 117 (by decide +kernel)
theorem m_3_118 : Cond.code yX11_done cX11_done 3 (some .int) ∈ TB := mem_t3 118 (by decide +kernel)
theorem m_3_119 : Cond.methodLink RX11 37 yJx4a65c_size_8abf5 ∈ TB := mem_t3 119 (by decide +kernel)
theorem m_3_123 : Cond.methodLink RX11 104 yX11_can ∈ TB := mem_t3 123 (by decide +kernel)
theorem m_3_124 : Cond.instanceMethod yX11_can ∈ TB := mem_t3 124 (by decide +kernel)
theorem m_3_125 : Cond.selects RX11 yX11_can yX11_can ∈ TB := mem_t3 125 (by decide +kernel)
theorem m_3_126 : Cond.code yX11_can cX11_can 7 (some .boolean) ∈ TB := mem_t3 126 (by decide +kernel)
theorem m_3_127 : Cond.methodLink RX11 69 yJ9_max_7cf53 ∈ TB := mem_t3 127 (by decide +kernel)
theorem m_3_128 : Cond.constant RX11 139 1103515245 ∈ TB := mem_t3 128 (by decide +kernel)
theorem m_3_129 : Cond.methodLink RX11 92 yX11_holds ∈ TB := mem_t3 129 (by decide +kernel)
theorem m_3_130 : Cond.instanceMethod yX11_holds ∈ TB := mem_t3 130 (by decide +kernel)
theorem m_3_131 : Cond.selects RX11 yX11_holds yX11_holds ∈ TB := mem_t3 131 (by decide +kernel)
theorem m_3_132 : Cond.code yX11_holds cX11_holds 2 (some .boolean) ∈ TB := mem_t3 132 (by decide +kernel)
theorem m_3_133 : Cond.methodLink RX11 28 yJ6_bitCount_0f7a4 ∈ TB := mem_t3 133 (by decide +kernel)
theorem m_3_134 : Cond.methodLink RX11 133 yX11_canStillBe ∈ TB := mem_t3 134 (by decide +kernel)
theorem m_3_136 : Cond.instanceMethod yX11_canStillBe ∈ TB := mem_t3 136 (by decide +kernel)
theorem m_3_137 : Cond.code yX11_canStillBe cX11_canStillBe 5 (some .boolean) ∈ TB := mem_t3 137 (by decide +kernel)
theorem m_5_116 : Cond.fieldLinkNest RX11 130 "QuestLedgerLaw$Step" "risk" "I" "QuestLedgerLaw" ∈ TB := mem_t5 116 (by decide +kernel)
theorem m_5_118 : Cond.fieldLinkNest RX11 57 "QuestLedgerLaw$Step" "limit" "I" "QuestLedgerLaw" ∈ TB := mem_t5 118 (by decide +kernel)
theorem m_5_120 : Cond.fieldLinkNest RX11 54 "QuestLedgerLaw$Step" "fails" "I" "QuestLedgerLaw" ∈ TB := mem_t5 120 (by decide +kernel)
theorem m_5_121 : Cond.fieldLinkNest RX11 60 "QuestLedgerLaw$Step" "after" "I" "QuestLedgerLaw" ∈ TB := mem_t5 121 (by decide +kernel)
theorem m_5_123 : Cond.fieldLinkNest RX11 140 "QuestLedgerLaw$Step" "isCostly" "Z" "QuestLedgerLaw" ∈ TB := mem_t5 123 (by decide +kernel)
theorem m_5_125 : Cond.fieldLinkNest RX11 47 "QuestLedgerLaw$Step" "isDone" "Z" "QuestLedgerLaw" ∈ TB := mem_t5 125 (by decide +kernel)
theorem m_5_127 : Cond.fieldLinkNest RX11 63 "QuestLedgerLaw$Step" "uses" "[I" "QuestLedgerLaw" ∈ TB := mem_t5 127 (by decide +kernel)
theorem m_5_130 : Cond.fieldLinkNest RX11 66 "QuestLedgerLaw$Step" "needs" "[I" "QuestLedgerLaw" ∈ TB := mem_t5 130 (by decide +kernel)
theorem m_5_133 : Cond.fieldLinkNest RX11 113 "QuestLedgerLaw$Step" "gives" "[I" "QuestLedgerLaw" ∈ TB := mem_t5 133 (by decide +kernel)
theorem mv_X11_canStillBe : MV yX11_canStillBe cX11_canStillBe 5 (some .boolean) 1 := ⟨m_3_137, by decide +kernel, m_1_1, ⟨by decide +kernel, by decide +kernel, by decide +kernel⟩, by decide⟩
theorem mv_X11_done : MV yX11_done cX11_done 3 (some .int) 0 := ⟨m_3_118, by decide +kernel, m_1_1, ⟨by decide +kernel, by decide +kernel, by decide +kernel⟩, by decide⟩
theorem mv_X11_holds : MV yX11_holds cX11_holds 2 (some .boolean) 1 := ⟨m_3_132, by decide +kernel, m_1_1, ⟨by decide +kernel, by decide +kernel, by decide +kernel⟩, by decide⟩
theorem mv_X11_can : MV yX11_can cX11_can 7 (some .boolean) 3 := ⟨m_3_126, by decide +kernel, m_1_1, ⟨by decide +kernel, by decide +kernel, by decide +kernel⟩, by decide⟩
section
variable {G : Gm} {p : Program} {l : Launch} {e : Env} {R : Room} {s : State} {m : MethodId} {args : Array Value} {below : List Frame} {meth : Method} {c : Code} {cells slots : Nat} {Q : State → Prop}
set_option maxRecDepth 20000 in
set_option maxHeartbeats 4000000 in
theorem cr_J9_max_7cf53 {G : Gm} {l : Launch} {v0 : Int32} {v1 : Int32} {σ : St} {r : Int32} (hf : pf_J9_max_7cf53 v0 v1 σ = some r) : CtR G l yJ9_max_7cf53 cJ9_max_7cf53 2 (some .int) 2 [.int (v0), .int (v1)] σ (some (.int r)) := by
  refine met_ir (by decide +kernel) (Nat.le_of_ble_eq_true rfl) rfl ?_
  intro p e s m args below meth c Q ls X hW hret hl
  have hx := X.1.1
  have hb := X.1.2.1
  have hl : lv_has ls 2 [(0, .int (v0)), (1, .int (v1))] := hl
  have h := hf
  clear hf
  unfold pf_J9_max_7cf53 at h
  refine lv_iload_n hx hb dJ9_max_7cf53_0 rfl (lv_at hl 0 rfl) ?_
  refine lv_iload_n hx hb dJ9_max_7cf53_1 rfl (lv_at hl 1 rfl) ?_
  refine lv_icmp_lt (tgt := 9) hx hb dJ9_max_7cf53_2 (by decide) (fun hc => ?_) (fun hc => ?_)
  · replace h := if_t hc h
    refine lv_iload_n hx hb dJ9_max_7cf53_9 rfl (lv_at hl 1 rfl) ?_
    exact ri_r hret h dJ9_max_7cf53_10 hW
  · replace h := if_f hc h
    refine lv_iload_n hx hb dJ9_max_7cf53_5 rfl (lv_at hl 0 rfl) ?_
    refine lv_goto (tgt := 10) hx hb dJ9_max_7cf53_6 (by decide) ?_
    exact ri_r hret h dJ9_max_7cf53_10 hW
set_option maxRecDepth 20000 in
set_option maxHeartbeats 4000000 in
theorem cr_J6_bitCount_0f7a4 {G : Gm} {l : Launch} {v0 : Int32} {σ : St} {r : Int32} (hf : pf_J6_bitCount_0f7a4 v0 σ = some r) : CtR G l yJ6_bitCount_0f7a4 cJ6_bitCount_0f7a4 1 (some .int) 2 [.int (v0)] σ (some (.int r)) := by
  refine met_ir (by decide +kernel) (Nat.le_of_ble_eq_true rfl) rfl ?_
  intro p e s m args below meth c Q ls X hW hret hl
  have hx := X.1.1
  have hb := X.1.2.1
  have hl : lv_has ls 1 [(0, .int (v0))] := hl
  have h := hf
  clear hf
  unfold pf_J6_bitCount_0f7a4 at h
  refine lv_iload_n hx hb dJ6_bitCount_0f7a4_0 rfl (lv_at hl 0 rfl) ?_
  refine lv_iload_n hx hb dJ6_bitCount_0f7a4_1 rfl (lv_at hl 0 rfl) ?_
  refine lv_iconst (v := 1) hx hb dJ6_bitCount_0f7a4_2 (by decide) ?_
  refine w_iushr hx hb dJ6_bitCount_0f7a4_3 ?_
  refine lv_ldcw (v := 1431655765) hx hb X.1.2.2.2.1 (X.1.2.2.2.2 _ m_2_170) dJ6_bitCount_0f7a4_4 ?_
  refine lv_iand hx hb dJ6_bitCount_0f7a4_7 ?_
  refine lv_isub hx hb dJ6_bitCount_0f7a4_8 ?_
  refine nm_i h ?_
  clear h; intro v0_1 h
  refine lv_istore_n (lv' := [(0, .int (v0_1))]) hx hb dJ6_bitCount_0f7a4_9 rfl hl (by decide) rfl ?_
  clear hl; intro ls hl
  refine lv_iload_n hx hb dJ6_bitCount_0f7a4_10 rfl (lv_at hl 0 rfl) ?_
  refine lv_ldcw (v := 858993459) hx hb X.1.2.2.2.1 (X.1.2.2.2.2 _ m_2_171) dJ6_bitCount_0f7a4_11 ?_
  refine lv_iand hx hb dJ6_bitCount_0f7a4_14 ?_
  refine lv_iload_n hx hb dJ6_bitCount_0f7a4_15 rfl (lv_at hl 0 rfl) ?_
  refine lv_iconst (v := 2) hx hb dJ6_bitCount_0f7a4_16 (by decide) ?_
  refine w_iushr hx hb dJ6_bitCount_0f7a4_17 ?_
  refine lv_ldcw (v := 858993459) hx hb X.1.2.2.2.1 (X.1.2.2.2.2 _ m_2_171) dJ6_bitCount_0f7a4_18 ?_
  refine lv_iand hx hb dJ6_bitCount_0f7a4_21 ?_
  refine lv_iadd hx hb dJ6_bitCount_0f7a4_22 ?_
  refine nm_i h ?_
  clear h; intro v0_2 h
  refine lv_istore_n (lv' := [(0, .int (v0_2))]) hx hb dJ6_bitCount_0f7a4_23 rfl hl (by decide) rfl ?_
  clear hl; intro ls hl
  refine lv_iload_n hx hb dJ6_bitCount_0f7a4_24 rfl (lv_at hl 0 rfl) ?_
  refine lv_iload_n hx hb dJ6_bitCount_0f7a4_25 rfl (lv_at hl 0 rfl) ?_
  refine lv_iconst (v := 4) hx hb dJ6_bitCount_0f7a4_26 (by decide) ?_
  refine w_iushr hx hb dJ6_bitCount_0f7a4_27 ?_
  refine lv_iadd hx hb dJ6_bitCount_0f7a4_28 ?_
  refine lv_ldcw (v := 252645135) hx hb X.1.2.2.2.1 (X.1.2.2.2.2 _ m_2_172) dJ6_bitCount_0f7a4_29 ?_
  refine lv_iand hx hb dJ6_bitCount_0f7a4_32 ?_
  refine nm_i h ?_
  clear h; intro v0_3 h
  refine lv_istore_n (lv' := [(0, .int (v0_3))]) hx hb dJ6_bitCount_0f7a4_33 rfl hl (by decide) rfl ?_
  clear hl; intro ls hl
  refine lv_iload_n hx hb dJ6_bitCount_0f7a4_34 rfl (lv_at hl 0 rfl) ?_
  refine lv_iload_n hx hb dJ6_bitCount_0f7a4_35 rfl (lv_at hl 0 rfl) ?_
  refine lv_bipush (v := 8) hx hb dJ6_bitCount_0f7a4_36 (by decide) ?_
  refine w_iushr hx hb dJ6_bitCount_0f7a4_38 ?_
  refine lv_iadd hx hb dJ6_bitCount_0f7a4_39 ?_
  refine nm_i h ?_
  clear h; intro v0_4 h
  refine lv_istore_n (lv' := [(0, .int (v0_4))]) hx hb dJ6_bitCount_0f7a4_40 rfl hl (by decide) rfl ?_
  clear hl; intro ls hl
  refine lv_iload_n hx hb dJ6_bitCount_0f7a4_41 rfl (lv_at hl 0 rfl) ?_
  refine lv_iload_n hx hb dJ6_bitCount_0f7a4_42 rfl (lv_at hl 0 rfl) ?_
  refine lv_bipush (v := 16) hx hb dJ6_bitCount_0f7a4_43 (by decide) ?_
  refine w_iushr hx hb dJ6_bitCount_0f7a4_45 ?_
  refine lv_iadd hx hb dJ6_bitCount_0f7a4_46 ?_
  refine nm_i h ?_
  clear h; intro v0_5 h
  refine lv_istore_n (lv' := [(0, .int (v0_5))]) hx hb dJ6_bitCount_0f7a4_47 rfl hl (by decide) rfl ?_
  clear hl; intro ls hl
  refine lv_iload_n hx hb dJ6_bitCount_0f7a4_48 rfl (lv_at hl 0 rfl) ?_
  refine lv_bipush (v := 63) hx hb dJ6_bitCount_0f7a4_49 (by decide) ?_
  refine lv_iand hx hb dJ6_bitCount_0f7a4_51 ?_
  exact ri_r hret h dJ6_bitCount_0f7a4_52 hW
set_option maxRecDepth 20000 in
set_option maxHeartbeats 4000000 in
theorem cr_X11_holds {G : Gm} {l : Launch} {v0 : Nat} (h0 : kv G v0 = 20) {v1 : Int32} {σ : St} {r : Int32} (hf : pf_X11_holds v0 v1 σ = some r) : CtR G l yX11_holds cX11_holds 2 (some .boolean) 3 [.ref (ga G (v0)), .int (v1)] σ (some (.int r)) := by
  refine met_zr (by decide +kernel) (Nat.le_of_ble_eq_true rfl) rfl ?_
  intro p e s m args below meth c Q ls X hW hret hl
  have hx := X.1.1
  have hb := X.1.2.1
  have hl : lv_has ls 2 [(0, .ref (ga G (v0))), (1, .int (v1))] := hl
  have h := hf
  clear hf
  unfold pf_X11_holds at h
  refine lv_aload_n hx hb dX11_holds_0 rfl (lv_at hl 0 rfl) ?_
  refine gg_X11_sort X hW.1 h0 m_3_71 dX11_holds_1 ?_
  refine lv_if_ne (tgt := 26) hx hb dX11_holds_4 (by decide) (fun hc => ?_) (fun hc => ?_)
  · replace h := if_f hc h
    refine lv_aload_n hx hb dX11_holds_26 rfl (lv_at hl 0 rfl) ?_
    refine gg_X11_sort X hW.1 h0 m_3_71 dX11_holds_27 ?_
    refine lv_iconst (v := 1) hx hb dX11_holds_30 (by decide) ?_
    refine lv_icmp_ne (tgt := 58) hx hb dX11_holds_31 (by decide) (fun hc => ?_) (fun hc => ?_)
    · replace h := if_f hc h
      refine lv_iload_n hx hb dX11_holds_58 rfl (lv_at hl 1 rfl) ?_
      refine lv_iconst (v := 3) hx hb dX11_holds_59 (by decide) ?_
      refine lv_iand hx hb dX11_holds_60 ?_
      refine lv_iconst (v := 3) hx hb dX11_holds_61 (by decide) ?_
      refine lv_icmp_ne (tgt := 69) hx hb dX11_holds_62 (by decide) (fun hc => ?_) (fun hc => ?_)
      · replace h := if_f hc h
        refine lv_iconst (v := 0) hx hb dX11_holds_69 (by decide) ?_
        exact rz_r hret h (by decide) dX11_holds_70 hW
      · replace h := if_t hc h
        refine lv_iconst (v := 1) hx hb dX11_holds_65 (by decide) ?_
        refine lv_goto (tgt := 70) hx hb dX11_holds_66 (by decide) ?_
        exact rz_r hret h (by decide) dX11_holds_70 hW
    · replace h := if_t hc h
      refine lv_iload_n hx hb dX11_holds_34 rfl (lv_at hl 1 rfl) ?_
      refine lv_iconst (v := 1) hx hb dX11_holds_35 (by decide) ?_
      refine lv_iand hx hb dX11_holds_36 ?_
      refine lv_iconst (v := 1) hx hb dX11_holds_37 (by decide) ?_
      refine lv_icmp_eq (tgt := 50) hx hb dX11_holds_38 (by decide) (fun hc => ?_) (fun hc => ?_)
      · replace h := if_t hc h
        refine lv_iconst (v := 1) hx hb dX11_holds_50 (by decide) ?_
        refine lv_goto (tgt := 70) hx hb dX11_holds_51 (by decide) ?_
        exact rz_r hret h (by decide) dX11_holds_70 hW
      · replace h := if_f hc h
        refine lv_iload_n hx hb dX11_holds_41 rfl (lv_at hl 1 rfl) ?_
        refine lv_bipush (v := 6) hx hb dX11_holds_42 (by decide) ?_
        refine lv_iand hx hb dX11_holds_44 ?_
        refine lv_bipush (v := 6) hx hb dX11_holds_45 (by decide) ?_
        refine lv_icmp_ne (tgt := 54) hx hb dX11_holds_47 (by decide) (fun hc => ?_) (fun hc => ?_)
        · replace h := if_f hc h
          refine lv_iconst (v := 0) hx hb dX11_holds_54 (by decide) ?_
          refine lv_goto (tgt := 70) hx hb dX11_holds_55 (by decide) ?_
          exact rz_r hret h (by decide) dX11_holds_70 hW
        · replace h := if_t hc h
          refine lv_iconst (v := 1) hx hb dX11_holds_50 (by decide) ?_
          refine lv_goto (tgt := 70) hx hb dX11_holds_51 (by decide) ?_
          exact rz_r hret h (by decide) dX11_holds_70 hW
  · replace h := if_t hc h
    refine lv_iload_n hx hb dX11_holds_7 rfl (lv_at hl 1 rfl) ?_
    obtain ⟨r_1, hcl, h⟩ := bind_el h
    refine callr_S X ⟨hW.1, hW.S⟩ m_3_133 m_2_168 mv_J6_bitCount_0f7a4 (cr_J6_bitCount_0f7a4 hcl) (by decide) rfl rfl (Nat.le_of_ble_eq_true rfl) hl.1 dX11_holds_8 ?_
    clear hcl
    refine lv_aload_n hx hb dX11_holds_11 rfl (lv_at hl 0 rfl) ?_
    refine gg_X11_least X hW.1 h0 m_3_69 dX11_holds_12 ?_
    refine lv_icmp_lt (tgt := 22) hx hb dX11_holds_15 (by decide) (fun hc => ?_) (fun hc => ?_)
    · replace h := if_t hc h
      refine lv_iconst (v := 0) hx hb dX11_holds_22 (by decide) ?_
      refine lv_goto (tgt := 70) hx hb dX11_holds_23 (by decide) ?_
      exact rz_r hret h (by decide) dX11_holds_70 hW
    · replace h := if_f hc h
      refine lv_iconst (v := 1) hx hb dX11_holds_18 (by decide) ?_
      refine lv_goto (tgt := 70) hx hb dX11_holds_19 (by decide) ?_
      exact rz_r hret h (by decide) dX11_holds_70 hW
set_option maxRecDepth 20000 in
set_option maxHeartbeats 4000000 in
theorem bl_X11_done_b40 {σ : St} (X : Cx (gB G) p R s m args c cells slots cX11_done 3 RX11 5) {r : Int32} (hret : R_Ir G p l e R s m args below meth c cells slots Q cX11_done r σ) {k4 : Nat → Int32 → Int32 → (Option (Int32))}
    (hk4 : ∀ (v0 : Nat) (h0 : kv G v0 = 20) (v1 : Int32) (v2 : Int32) (_ : k4 v0 v1 v2 = some r) (H : Heap) (locs : List Loc) (ls : Array Slot) (_ : GR G σ s H locs) (_ : lv_has ls 3 [(0, .ref (ga G (v0))), (1, .int (v1)), (2, .int (v2))]), W p l e R s m args below meth c H locs cells slots Q (F0 m 4 ls [])) :
    ∀ (v0 : Nat) (h0 : kv G v0 = 20) (v2 : Int32) (s0 : Int32) (s1 : Int32) (_ : pf_X11_done_b40 σ k4 v0 v2 s0 s1 = some r) (H : Heap) (locs : List Loc) (ls : Array Slot) (_ : GR G σ s H locs) (_ : lv_has ls 3 [(0, .ref (ga G (v0))), (2, .int (v2))]), W p l e R s m args below meth c H locs cells slots Q (F0 m 40 ls [.int (s1), .int (s0)]) := by
  have hx := X.1.1
  have hb := X.1.2.1
  intro v0 h0 v2 s0 s1 h H locs ls hW hl
  unfold pf_X11_done_b40 at h
  refine lv_ior hx hb dX11_done_40 ?_
  refine nm_i h ?_
  clear h; intro v1_1 h
  refine lv_istore_n (lv' := [(1, .int (v1_1)), (0, .ref (ga G (v0))), (2, .int (v2))]) hx hb dX11_done_41 rfl hl (by decide) rfl ?_
  clear hl; intro ls hl
  refine w_iinc (v := 1) (lv' := fun y => [(2, .int (y)), (1, .int (v1_1)), (0, .ref (ga G (v0)))]) hx hb dX11_done_42 hl (k := 2) rfl (by decide) (by decide) (fun _ => rfl) h ?_
  clear h hl; intro v2_2 h ls hl
  refine lv_goto (tgt := 4) hx hb dX11_done_45 (by decide) ?_
  exact hk4 v0 h0 v1_1 v2_2 h _ _ _ hW (lv_sub hl [2, 1, 0] rfl)
set_option maxRecDepth 20000 in
set_option maxHeartbeats 4000000 in
theorem bl_X11_done_L4 {σ : St} (X : Cx (gB G) p R s m args c cells slots cX11_done 3 RX11 5) {r : Int32} (hret : R_Ir G p l e R s m args below meth c cells slots Q cX11_done r σ) :
    ∀ (n : Nat), ∀ (v0 : Nat) (h0 : kv G v0 = 20) (v1 : Int32) (v2 : Int32) (_ : pf_X11_done_L4 σ n v0 v1 v2 = some r) (H : Heap) (locs : List Loc) (ls : Array Slot) (_ : GR G σ s H locs) (_ : lv_has ls 3 [(0, .ref (ga G (v0))), (1, .int (v1)), (2, .int (v2))]), W p l e R s m args below meth c H locs cells slots Q (F0 m 4 ls []) := by
  have hx := X.1.1
  have hb := X.1.2.1
  intro n
  induction n with
  | zero => intro v0 h0 v1 v2 h H locs ls hW hl; cases h
  | succ n ih =>
    intro v0 h0 v1 v2 h H locs ls hW hl
    rw [pf_X11_done_L4.eq_2] at h
    refine lv_iload_n hx hb dX11_done_4 rfl (lv_at hl 2 rfl) ?_
    refine lv_aload_n hx hb dX11_done_5 rfl (lv_at hl 0 rfl) ?_
    refine gg_X11_steps X hW.1 h0 m_3_62 dX11_done_6 ?_
    refine rg_lsize X ⟨hW.1, hW.S⟩ (kv_1001 G) m_3_119 (by decide) rfl (Nat.le_of_ble_eq_true rfl) hl.1 dX11_done_9 ?_
    refine lv_icmp_ge (tgt := 48) hx hb dX11_done_12 (by decide) (fun hc => ?_) (fun hc => ?_)
    · replace h := if_t hc h
      refine lv_iload_n hx hb dX11_done_48 rfl (lv_at hl 1 rfl) ?_
      exact ri_r hret h dX11_done_49 hW
    · replace h := if_f hc h
      refine lv_iload_n hx hb dX11_done_15 rfl (lv_at hl 1 rfl) ?_
      refine lv_aload_n hx hb dX11_done_16 rfl (lv_at hl 0 rfl) ?_
      refine gg_X11_steps X hW.1 h0 m_3_62 dX11_done_17 ?_
      refine lv_iload_n hx hb dX11_done_20 rfl (lv_at hl 2 rfl) ?_
      obtain ⟨hi1, h⟩ := ckI_el h
      refine rg_lget X ⟨hW.1, hW.S⟩ (kv_1001 G) hi1 m_3_100 (by decide) rfl (Nat.le_of_ble_eq_true rfl) hl.1 dX11_done_21 ?_
      have khi1 := kv_step hW.1 hi1
      refine rg_cast X hW.1 khi1 m_3_114 dX11_done_24 ?_
      refine gg_X12_isDone X hW.1 khi1 m_5_125 dX11_done_27 ?_
      refine lv_if_eq (tgt := 39) hx hb dX11_done_30 (by decide) (fun hc => ?_) (fun hc => ?_)
      · replace h := if_t hc h
        refine lv_iconst (v := 0) hx hb dX11_done_39 (by decide) ?_
        exact bl_X11_done_b40 X hret ih v0 h0 v2 v1 0 h _ _ _ hW (lv_sub hl [0, 2] rfl)
      · replace h := if_f hc h
        refine lv_iconst (v := 1) hx hb dX11_done_33 (by decide) ?_
        refine lv_iload_n hx hb dX11_done_34 rfl (lv_at hl 2 rfl) ?_
        refine w_ishl hx hb dX11_done_35 ?_
        refine lv_goto (tgt := 40) hx hb dX11_done_36 (by decide) ?_
        exact bl_X11_done_b40 X hret ih v0 h0 v2 v1 (ishl 1 v2) h _ _ _ hW (lv_sub hl [0, 2] rfl)
set_option maxRecDepth 20000 in
set_option maxHeartbeats 4000000 in
theorem cr_X11_done {G : Gm} {l : Launch} {v0 : Nat} (h0 : kv G v0 = 20) {σ : St} {r : Int32} (hf : pf_X11_done v0 σ = some r) : CtR G l yX11_done cX11_done 3 (some .int) 5 [.ref (ga G (v0))] σ (some (.int r)) := by
  refine met_ir (by decide +kernel) (Nat.le_of_ble_eq_true rfl) rfl ?_
  intro p e s m args below meth c Q ls X hW hret hl
  have hx := X.1.1
  have hb := X.1.2.1
  have hl : lv_has ls 3 [(0, .ref (ga G (v0)))] := hl
  have h := hf
  clear hf
  unfold pf_X11_done at h
  refine lv_iconst (v := 0) hx hb dX11_done_0 (by decide) ?_
  refine lv_istore_n (lv' := [(1, .int (0)), (0, .ref (ga G (v0)))]) hx hb dX11_done_1 rfl hl (by decide) rfl ?_
  clear hl; intro ls hl
  refine lv_iconst (v := 0) hx hb dX11_done_2 (by decide) ?_
  refine lv_istore_n (lv' := [(2, .int (0)), (1, .int (0)), (0, .ref (ga G (v0)))]) hx hb dX11_done_3 rfl hl (by decide) rfl ?_
  clear hl; intro ls hl
  exact bl_X11_done_L4 X hret FU v0 h0 0 0 h _ _ _ hW (lv_sub hl [2, 1, 0] rfl)
set_option maxRecDepth 20000 in
set_option maxHeartbeats 4000000 in
theorem bl_X11_can_b105 {σ : St} (X : Cx (gB G) p R s m args c cells slots cX11_can 7 RX11 5) {r : Int32} (hret : R_Zr G p l e R s m args below meth c cells slots Q cX11_can r σ) {k63 : Nat → Nat → Int32 → Int32 → (Option (Int32))}
    (hk63 : ∀ (v3 : Nat) (h3 : kv G v3 = 22) (v4 : Nat) (h4 : kv G v4 = 25) (v5 : Int32) (v6 : Int32) (_ : k63 v3 v4 v5 v6 = some r) (H : Heap) (locs : List Loc) (ls : Array Slot) (_ : GR G σ s H locs) (_ : lv_has ls 7 [(3, .ref (ga G (v3))), (4, .ref (ga G (v4))), (5, .int (v5)), (6, .int (v6))]), W p l e R s m args below meth c H locs cells slots Q (F0 m 63 ls [])) :
    ∀ (v3 : Nat) (h3 : kv G v3 = 22) (v4 : Nat) (h4 : kv G v4 = 25) (v6 : Int32) (s0 : Int32) (_ : pf_X11_can_b105 σ k63 v3 v4 v6 s0 = some r) (H : Heap) (locs : List Loc) (ls : Array Slot) (_ : GR G σ s H locs) (_ : lv_has ls 7 [(3, .ref (ga G (v3))), (4, .ref (ga G (v4))), (6, .int (v6))]), W p l e R s m args below meth c H locs cells slots Q (F0 m 105 ls [.int (s0)]) := by
  have hx := X.1.1
  have hb := X.1.2.1
  intro v3 h3 v4 h4 v6 s0 h H locs ls hW hl
  unfold pf_X11_can_b105 at h
  refine lv_istore (lv' := [(5, .int (s0)), (3, .ref (ga G (v3))), (4, .ref (ga G (v4))), (6, .int (v6))]) hx hb dX11_can_105 hl (by decide) rfl ?_
  clear hl; intro ls hl
  refine w_iinc (v := 1) (lv' := fun y => [(6, .int (y)), (5, .int (s0)), (3, .ref (ga G (v3))), (4, .ref (ga G (v4)))]) hx hb dX11_can_107 hl (k := 3) rfl (by decide) (by decide) (fun _ => rfl) h ?_
  clear h hl; intro v6_1 h ls hl
  refine lv_goto (tgt := 63) hx hb dX11_can_110 (by decide) ?_
  exact hk63 v3 h3 v4 h4 s0 v6_1 h _ _ _ hW (lv_sub hl [2, 3, 1, 0] rfl)
set_option maxRecDepth 20000 in
set_option maxHeartbeats 4000000 in
theorem bl_X11_can_b104 {σ : St} (X : Cx (gB G) p R s m args c cells slots cX11_can 7 RX11 5) {r : Int32} (hret : R_Zr G p l e R s m args below meth c cells slots Q cX11_can r σ) {k63 : Nat → Nat → Int32 → Int32 → (Option (Int32))}
    (hk63 : ∀ (v3 : Nat) (h3 : kv G v3 = 22) (v4 : Nat) (h4 : kv G v4 = 25) (v5 : Int32) (v6 : Int32) (_ : k63 v3 v4 v5 v6 = some r) (H : Heap) (locs : List Loc) (ls : Array Slot) (_ : GR G σ s H locs) (_ : lv_has ls 7 [(3, .ref (ga G (v3))), (4, .ref (ga G (v4))), (5, .int (v5)), (6, .int (v6))]), W p l e R s m args below meth c H locs cells slots Q (F0 m 63 ls [])) :
    ∀ (v3 : Nat) (h3 : kv G v3 = 22) (v4 : Nat) (h4 : kv G v4 = 25) (v6 : Int32) (_ : pf_X11_can_b104 σ k63 v3 v4 v6 = some r) (H : Heap) (locs : List Loc) (ls : Array Slot) (_ : GR G σ s H locs) (_ : lv_has ls 7 [(3, .ref (ga G (v3))), (4, .ref (ga G (v4))), (6, .int (v6))]), W p l e R s m args below meth c H locs cells slots Q (F0 m 104 ls []) := by
  have hx := X.1.1
  have hb := X.1.2.1
  intro v3 h3 v4 h4 v6 h H locs ls hW hl
  unfold pf_X11_can_b104 at h
  refine lv_iconst (v := 0) hx hb dX11_can_104 (by decide) ?_
  exact bl_X11_can_b105 X hret hk63 v3 h3 v4 h4 v6 0 h _ _ _ hW (lv_sub hl [0, 1, 2] rfl)
set_option maxRecDepth 20000 in
set_option maxHeartbeats 4000000 in
theorem bl_X11_can_L63 {σ : St} (X : Cx (gB G) p R s m args c cells slots cX11_can 7 RX11 5) {r : Int32} (hret : R_Zr G p l e R s m args below meth c cells slots Q cX11_can r σ) :
    ∀ (n : Nat), ∀ (v3 : Nat) (h3 : kv G v3 = 22) (v4 : Nat) (h4 : kv G v4 = 25) (v5 : Int32) (v6 : Int32) (_ : pf_X11_can_L63 σ n v3 v4 v5 v6 = some r) (H : Heap) (locs : List Loc) (ls : Array Slot) (_ : GR G σ s H locs) (_ : lv_has ls 7 [(3, .ref (ga G (v3))), (4, .ref (ga G (v4))), (5, .int (v5)), (6, .int (v6))]), W p l e R s m args below meth c H locs cells slots Q (F0 m 63 ls []) := by
  have hx := X.1.1
  have hb := X.1.2.1
  intro n
  induction n with
  | zero => intro v3 h3 v4 h4 v5 v6 h H locs ls hW hl; cases h
  | succ n ih =>
    intro v3 h3 v4 h4 v5 v6 h H locs ls hW hl
    rw [pf_X11_can_L63.eq_2] at h
    refine lv_iload hx hb dX11_can_63 (lv_at hl 3 rfl) ?_
    refine lv_iconst (v := 3) hx hb dX11_can_65 (by decide) ?_
    refine lv_icmp_ge (tgt := 113) hx hb dX11_can_66 (by decide) (fun hc => ?_) (fun hc => ?_)
    · replace h := if_t hc h
      refine lv_iload hx hb dX11_can_113 (lv_at hl 2 rfl) ?_
      obtain ⟨hz, h⟩ := ckZ_el h
      exact rz_r hret h hz dX11_can_115 hW
    · replace h := if_f hc h
      refine lv_iload hx hb dX11_can_69 (lv_at hl 2 rfl) ?_
      refine lv_if_eq (tgt := 104) hx hb dX11_can_71 (by decide) (fun hc => ?_) (fun hc => ?_)
      · replace h := if_t hc h
        exact bl_X11_can_b104 X hret ih v3 h3 v4 h4 v6 h _ _ _ hW (lv_sub hl [0, 1, 3] rfl)
      · replace h := if_f hc h
        refine lv_aload_n hx hb dX11_can_74 rfl (lv_at hl 0 rfl) ?_
        refine lv_iload hx hb dX11_can_75 (lv_at hl 3 rfl) ?_
        obtain ⟨hi1, h⟩ := ckI_el h
        refine rg_iald X hW.1 h3 hi1 dX11_can_77 ?_
        refine lv_aload hx hb dX11_can_78 (lv_at hl 1 rfl) ?_
        refine gg_X12_uses X hW.1 h4 m_5_127 dX11_can_80 ?_
        refine lv_iload hx hb dX11_can_83 (lv_at hl 3 rfl) ?_
        obtain ⟨hi2, h⟩ := ckI_el h
        refine rg_iald X hW.1 (kv_s1 h4) hi2 dX11_can_85 ?_
        refine lv_aload hx hb dX11_can_86 (lv_at hl 1 rfl) ?_
        refine gg_X12_needs X hW.1 h4 m_5_130 dX11_can_88 ?_
        refine lv_iload hx hb dX11_can_91 (lv_at hl 3 rfl) ?_
        obtain ⟨hi3, h⟩ := ckI_el h
        refine rg_iald X hW.1 (kv_s2 h4) hi3 dX11_can_93 ?_
        obtain ⟨r_4, hcl, h⟩ := bind_el h
        refine callr_S X ⟨hW.1, hW.S⟩ m_3_127 m_2_212 mv_J9_max_7cf53 (cr_J9_max_7cf53 hcl) (by decide) rfl rfl (Nat.le_of_ble_eq_true rfl) hl.1 dX11_can_94 ?_
        clear hcl
        refine lv_icmp_lt (tgt := 104) hx hb dX11_can_97 (by decide) (fun hc => ?_) (fun hc => ?_)
        · replace h := if_t hc h
          exact bl_X11_can_b104 X hret ih v3 h3 v4 h4 v6 h _ _ _ hW (lv_sub hl [0, 1, 3] rfl)
        · replace h := if_f hc h
          refine lv_iconst (v := 1) hx hb dX11_can_100 (by decide) ?_
          refine lv_goto (tgt := 105) hx hb dX11_can_101 (by decide) ?_
          exact bl_X11_can_b105 X hret ih v3 h3 v4 h4 v6 1 h _ _ _ hW (lv_sub hl [0, 1, 3] rfl)
set_option maxRecDepth 20000 in
set_option maxHeartbeats 4000000 in
theorem bl_X11_can_b58 {σ : St} (X : Cx (gB G) p R s m args c cells slots cX11_can 7 RX11 5) {r : Int32} (hret : R_Zr G p l e R s m args below meth c cells slots Q cX11_can r σ) :
    ∀ (v3 : Nat) (h3 : kv G v3 = 22) (v4 : Nat) (h4 : kv G v4 = 25) (s0 : Int32) (_ : pf_X11_can_b58 σ v3 v4 s0 = some r) (H : Heap) (locs : List Loc) (ls : Array Slot) (_ : GR G σ s H locs) (_ : lv_has ls 7 [(3, .ref (ga G (v3))), (4, .ref (ga G (v4)))]), W p l e R s m args below meth c H locs cells slots Q (F0 m 58 ls [.int (s0)]) := by
  have hx := X.1.1
  have hb := X.1.2.1
  intro v3 h3 v4 h4 s0 h H locs ls hW hl
  unfold pf_X11_can_b58 at h
  refine lv_istore (lv' := [(5, .int (s0)), (3, .ref (ga G (v3))), (4, .ref (ga G (v4)))]) hx hb dX11_can_58 hl (by decide) rfl ?_
  clear hl; intro ls hl
  refine lv_iconst (v := 0) hx hb dX11_can_60 (by decide) ?_
  refine lv_istore (lv' := [(6, .int (0)), (5, .int (s0)), (3, .ref (ga G (v3))), (4, .ref (ga G (v4)))]) hx hb dX11_can_61 hl (by decide) rfl ?_
  clear hl; intro ls hl
  exact bl_X11_can_L63 X hret FU v3 h3 v4 h4 s0 0 h _ _ _ hW (lv_sub hl [2, 3, 1, 0] rfl)
set_option maxRecDepth 20000 in
set_option maxHeartbeats 4000000 in
theorem bl_X11_can_b57 {σ : St} (X : Cx (gB G) p R s m args c cells slots cX11_can 7 RX11 5) {r : Int32} (hret : R_Zr G p l e R s m args below meth c cells slots Q cX11_can r σ) :
    ∀ (v3 : Nat) (h3 : kv G v3 = 22) (v4 : Nat) (h4 : kv G v4 = 25) (_ : pf_X11_can_b57 σ v3 v4 = some r) (H : Heap) (locs : List Loc) (ls : Array Slot) (_ : GR G σ s H locs) (_ : lv_has ls 7 [(3, .ref (ga G (v3))), (4, .ref (ga G (v4)))]), W p l e R s m args below meth c H locs cells slots Q (F0 m 57 ls []) := by
  have hx := X.1.1
  have hb := X.1.2.1
  intro v3 h3 v4 h4 h H locs ls hW hl
  unfold pf_X11_can_b57 at h
  refine lv_iconst (v := 0) hx hb dX11_can_57 (by decide) ?_
  exact bl_X11_can_b58 X hret v3 h3 v4 h4 0 h _ _ _ hW (lv_sub hl [0, 1] rfl)
set_option maxRecDepth 20000 in
set_option maxHeartbeats 4000000 in
theorem cr_X11_can {G : Gm} {l : Launch} {v0 : Nat} (h0 : kv G v0 = 20) {v1 : Int32} {v2 : Int32} {v3 : Nat} (h3 : kv G v3 = 22) {σ : St} {r : Int32} (hf : pf_X11_can v0 v1 v2 v3 σ = some r) : CtR G l yX11_can cX11_can 7 (some .boolean) 5 [.ref (ga G (v0)), .int (v1), .int (v2), .ref (ga G (v3))] σ (some (.int r)) := by
  refine met_zr (by decide +kernel) (Nat.le_of_ble_eq_true rfl) rfl ?_
  intro p e s m args below meth c Q ls X hW hret hl
  have hx := X.1.1
  have hb := X.1.2.1
  have hl : lv_has ls 7 [(0, .ref (ga G (v0))), (1, .int (v1)), (2, .int (v2)), (3, .ref (ga G (v3)))] := hl
  have h := hf
  clear hf
  unfold pf_X11_can at h
  refine lv_aload_n hx hb dX11_can_0 rfl (lv_at hl 0 rfl) ?_
  refine gg_X11_steps X hW.1 h0 m_3_62 dX11_can_1 ?_
  refine lv_iload_n hx hb dX11_can_4 rfl (lv_at hl 1 rfl) ?_
  obtain ⟨hi1, h⟩ := ckI_el h
  refine rg_lget X ⟨hW.1, hW.S⟩ (kv_1001 G) hi1 m_3_100 (by decide) rfl (Nat.le_of_ble_eq_true rfl) hl.1 dX11_can_5 ?_
  have khi1 := kv_step hW.1 hi1
  refine rg_cast X hW.1 khi1 m_3_114 dX11_can_8 ?_
  refine lv_astore (lv' := [(4, .ref (ga G (1005 + 4 * (v1).toNatClampNeg))), (0, .ref (ga G (v0))), (1, .int (v1)), (2, .int (v2)), (3, .ref (ga G (v3)))]) hx hb dX11_can_11 hl (by decide) rfl ?_
  clear hl; intro ls hl
  refine lv_aload_n hx hb dX11_can_13 rfl (lv_at hl 1 rfl) ?_
  refine gg_X11_state X hW.1 h0 m_3_68 dX11_can_14 ?_
  refine lv_if_ne (tgt := 57) hx hb dX11_can_17 (by decide) (fun hc => ?_) (fun hc => ?_)
  · replace h := if_f hc h
    exact bl_X11_can_b57 X hret v3 h3 (1005 + 4 * (v1).toNatClampNeg) khi1 h _ _ _ hW (lv_sub hl [4, 0] rfl)
  · replace h := if_t hc h
    refine lv_iload_n hx hb dX11_can_20 rfl (lv_at hl 3 rfl) ?_
    refine lv_iload_n hx hb dX11_can_21 rfl (lv_at hl 2 rfl) ?_
    refine w_ishr hx hb dX11_can_22 ?_
    refine lv_iconst (v := 1) hx hb dX11_can_23 (by decide) ?_
    refine lv_iand hx hb dX11_can_24 ?_
    refine lv_if_ne (tgt := 57) hx hb dX11_can_25 (by decide) (fun hc => ?_) (fun hc => ?_)
    · replace h := if_f hc h
      exact bl_X11_can_b57 X hret v3 h3 (1005 + 4 * (v1).toNatClampNeg) khi1 h _ _ _ hW (lv_sub hl [4, 0] rfl)
    · replace h := if_t hc h
      refine lv_aload hx hb dX11_can_28 (lv_at hl 0 rfl) ?_
      refine gg_X12_fails X hW.1 khi1 m_5_120 dX11_can_30 ?_
      refine lv_aload hx hb dX11_can_33 (lv_at hl 0 rfl) ?_
      refine gg_X12_limit X hW.1 khi1 m_5_118 dX11_can_35 ?_
      refine lv_icmp_ge (tgt := 57) hx hb dX11_can_38 (by decide) (fun hc => ?_) (fun hc => ?_)
      · replace h := if_t hc h
        exact bl_X11_can_b57 X hret v3 h3 (1005 + 4 * (v1).toNatClampNeg) khi1 h _ _ _ hW (lv_sub hl [4, 0] rfl)
      · replace h := if_f hc h
        refine lv_aload hx hb dX11_can_41 (lv_at hl 0 rfl) ?_
        refine gg_X12_after X hW.1 khi1 m_5_121 dX11_can_43 ?_
        refine lv_iload_n hx hb dX11_can_46 rfl (lv_at hl 3 rfl) ?_
        refine lv_iconst (v := (-1)) hx hb dX11_can_47 (by decide) ?_
        refine lv_ixor hx hb dX11_can_48 ?_
        refine lv_iand hx hb dX11_can_49 ?_
        refine lv_if_ne (tgt := 57) hx hb dX11_can_50 (by decide) (fun hc => ?_) (fun hc => ?_)
        · replace h := if_f hc h
          exact bl_X11_can_b57 X hret v3 h3 (1005 + 4 * (v1).toNatClampNeg) khi1 h _ _ _ hW (lv_sub hl [4, 0] rfl)
        · replace h := if_t hc h
          refine lv_iconst (v := 1) hx hb dX11_can_53 (by decide) ?_
          refine lv_goto (tgt := 58) hx hb dX11_can_54 (by decide) ?_
          exact bl_X11_can_b58 X hret v3 h3 (1005 + 4 * (v1).toNatClampNeg) khi1 1 h _ _ _ hW (lv_sub hl [4, 0] rfl)
set_option maxRecDepth 20000 in
set_option maxHeartbeats 4000000 in
theorem bl_X11_canStillBe_b71 {rc : Nat → Int32 → St → Option (Int32)} {σ : St} {hr : Nat} (hB : 5 ≤ hr) (hrc : ∀ {a0 : Nat} (_ : kv G a0 = 20) {a1 : Int32} {τ : St} {w : Int32} (_ : rc a0 a1 τ = some w), CtR G l yX11_canStillBe cX11_canStillBe 5 (some .boolean) hr [.ref (ga G a0), .int (a1)] τ (some (.int w))) (X : Cx (gB G) p R s m args c cells slots cX11_canStillBe 5 RX11 (hr + 1)) {r : Int32} (hret : R_Zr G p l e R s m args below meth c cells slots Q cX11_canStillBe r σ) {k41 : Nat → Int32 → Nat → Int32 → Int32 → (Option (Int32))}
    (hk41 : ∀ (v0 : Nat) (h0 : kv G v0 = 20) (v1 : Int32) (v2 : Nat) (h2 : kv G v2 = 25) (v3 : Int32) (v4 : Int32) (_ : k41 v0 v1 v2 v3 v4 = some r) (H : Heap) (locs : List Loc) (ls : Array Slot) (_ : GR G σ s H locs) (_ : lv_has ls 5 [(0, .ref (ga G (v0))), (1, .int (v1)), (2, .ref (ga G (v2))), (3, .int (v3)), (4, .int (v4))]), W p l e R s m args below meth c H locs cells slots Q (F0 m 41 ls [])) :
    ∀ (v0 : Nat) (h0 : kv G v0 = 20) (v1 : Int32) (v2 : Nat) (h2 : kv G v2 = 25) (v3 : Int32) (v4 : Int32) (_ : pf_X11_canStillBe_b71 rc σ k41 v0 v1 v2 v3 v4 = some r) (H : Heap) (locs : List Loc) (ls : Array Slot) (_ : GR G σ s H locs) (_ : lv_has ls 5 [(0, .ref (ga G (v0))), (1, .int (v1)), (2, .ref (ga G (v2))), (3, .int (v3)), (4, .int (v4))]), W p l e R s m args below meth c H locs cells slots Q (F0 m 71 ls []) := by
  have hx := X.1.1
  have hb := X.1.2.1
  intro v0 h0 v1 v2 h2 v3 v4 h H locs ls hW hl
  unfold pf_X11_canStillBe_b71 at h
  refine w_iinc (v := 1) (lv' := fun y => [(4, .int (y)), (0, .ref (ga G (v0))), (1, .int (v1)), (2, .ref (ga G (v2))), (3, .int (v3))]) hx hb dX11_canStillBe_71 hl (k := 4) rfl (by decide) (by decide) (fun _ => rfl) h ?_
  clear h hl; intro v4_1 h ls hl
  refine lv_goto (tgt := 41) hx hb dX11_canStillBe_74 (by decide) ?_
  exact hk41 v0 h0 v1 v2 h2 v3 v4_1 h _ _ _ hW (lv_sub hl [1, 2, 3, 4, 0] rfl)
set_option maxRecDepth 20000 in
set_option maxHeartbeats 4000000 in
theorem bl_X11_canStillBe_L41 {rc : Nat → Int32 → St → Option (Int32)} {σ : St} {hr : Nat} (hB : 5 ≤ hr) (hrc : ∀ {a0 : Nat} (_ : kv G a0 = 20) {a1 : Int32} {τ : St} {w : Int32} (_ : rc a0 a1 τ = some w), CtR G l yX11_canStillBe cX11_canStillBe 5 (some .boolean) hr [.ref (ga G a0), .int (a1)] τ (some (.int w))) (X : Cx (gB G) p R s m args c cells slots cX11_canStillBe 5 RX11 (hr + 1)) {r : Int32} (hret : R_Zr G p l e R s m args below meth c cells slots Q cX11_canStillBe r σ) :
    ∀ (n : Nat), ∀ (v0 : Nat) (h0 : kv G v0 = 20) (v1 : Int32) (v2 : Nat) (h2 : kv G v2 = 25) (v3 : Int32) (v4 : Int32) (_ : pf_X11_canStillBe_L41 rc σ n v0 v1 v2 v3 v4 = some r) (H : Heap) (locs : List Loc) (ls : Array Slot) (_ : GR G σ s H locs) (_ : lv_has ls 5 [(0, .ref (ga G (v0))), (1, .int (v1)), (2, .ref (ga G (v2))), (3, .int (v3)), (4, .int (v4))]), W p l e R s m args below meth c H locs cells slots Q (F0 m 41 ls []) := by
  have hx := X.1.1
  have hb := X.1.2.1
  intro n
  induction n with
  | zero => intro v0 h0 v1 v2 h2 v3 v4 h H locs ls hW hl; cases h
  | succ n ih =>
    intro v0 h0 v1 v2 h2 v3 v4 h H locs ls hW hl
    rw [pf_X11_canStillBe_L41.eq_2] at h
    refine lv_iload hx hb dX11_canStillBe_41 (lv_at hl 4 rfl) ?_
    refine lv_iload_n hx hb dX11_canStillBe_43 rfl (lv_at hl 1 rfl) ?_
    refine lv_icmp_ge (tgt := 77) hx hb dX11_canStillBe_44 (by decide) (fun hc => ?_) (fun hc => ?_)
    · replace h := if_t hc h
      refine lv_iload_n hx hb dX11_canStillBe_77 rfl (lv_at hl 3 rfl) ?_
      obtain ⟨hz, h⟩ := ckZ_el h
      exact rz_r hret h hz dX11_canStillBe_78 hW
    · replace h := if_f hc h
      refine lv_iload_n hx hb dX11_canStillBe_47 rfl (lv_at hl 3 rfl) ?_
      refine lv_if_eq (tgt := 77) hx hb dX11_canStillBe_48 (by decide) (fun hc => ?_) (fun hc => ?_)
      · replace h := if_t hc h
        refine lv_iload_n hx hb dX11_canStillBe_77 rfl (lv_at hl 3 rfl) ?_
        obtain ⟨hz, h⟩ := ckZ_el h
        exact rz_r hret h hz dX11_canStillBe_78 hW
      · replace h := if_f hc h
        refine lv_aload_n hx hb dX11_canStillBe_51 rfl (lv_at hl 2 rfl) ?_
        refine gg_X12_after X hW.1 h2 m_5_121 dX11_canStillBe_52 ?_
        refine lv_iload hx hb dX11_canStillBe_55 (lv_at hl 4 rfl) ?_
        refine w_ishr hx hb dX11_canStillBe_57 ?_
        refine lv_iconst (v := 1) hx hb dX11_canStillBe_58 (by decide) ?_
        refine lv_iand hx hb dX11_canStillBe_59 ?_
        refine lv_iconst (v := 1) hx hb dX11_canStillBe_60 (by decide) ?_
        refine lv_icmp_ne (tgt := 71) hx hb dX11_canStillBe_61 (by decide) (fun hc => ?_) (fun hc => ?_)
        · replace h := if_f hc h
          exact bl_X11_canStillBe_b71 hB hrc X hret ih v0 h0 v1 v2 h2 v3 v4 h _ _ _ hW (lv_sub hl [0, 1, 2, 3, 4] rfl)
        · replace h := if_t hc h
          refine lv_aload_n hx hb dX11_canStillBe_64 rfl (lv_at hl 0 rfl) ?_
          refine lv_iload hx hb dX11_canStillBe_65 (lv_at hl 4 rfl) ?_
          obtain ⟨r_1, hcl, h⟩ := bind_el h
          refine callr_V X ⟨hW.1, hW.S⟩ h0 m_3_134 m_3_136 m_0_8 mv_X11_canStillBe (hrc h0 hcl) (by omega) rfl rfl (Nat.le_of_ble_eq_true rfl) hl.1 dX11_canStillBe_67 ?_
          clear hcl
          refine lv_istore_n (lv' := [(3, .int (r_1)), (0, .ref (ga G (v0))), (1, .int (v1)), (2, .ref (ga G (v2))), (4, .int (v4))]) hx hb dX11_canStillBe_70 rfl hl (by decide) rfl ?_
          clear hl; intro ls hl
          exact bl_X11_canStillBe_b71 hB hrc X hret ih v0 h0 v1 v2 h2 r_1 v4 h _ _ _ hW (lv_sub hl [1, 2, 3, 0, 4] rfl)
set_option maxRecDepth 20000 in
set_option maxHeartbeats 4000000 in
theorem bl_X11_canStillBe_b37 {rc : Nat → Int32 → St → Option (Int32)} {σ : St} {hr : Nat} (hB : 5 ≤ hr) (hrc : ∀ {a0 : Nat} (_ : kv G a0 = 20) {a1 : Int32} {τ : St} {w : Int32} (_ : rc a0 a1 τ = some w), CtR G l yX11_canStillBe cX11_canStillBe 5 (some .boolean) hr [.ref (ga G a0), .int (a1)] τ (some (.int w))) (X : Cx (gB G) p R s m args c cells slots cX11_canStillBe 5 RX11 (hr + 1)) {r : Int32} (hret : R_Zr G p l e R s m args below meth c cells slots Q cX11_canStillBe r σ) :
    ∀ (v0 : Nat) (h0 : kv G v0 = 20) (v1 : Int32) (v2 : Nat) (h2 : kv G v2 = 25) (s0 : Int32) (_ : pf_X11_canStillBe_b37 rc σ v0 v1 v2 s0 = some r) (H : Heap) (locs : List Loc) (ls : Array Slot) (_ : GR G σ s H locs) (_ : lv_has ls 5 [(0, .ref (ga G (v0))), (1, .int (v1)), (2, .ref (ga G (v2)))]), W p l e R s m args below meth c H locs cells slots Q (F0 m 37 ls [.int (s0)]) := by
  have hx := X.1.1
  have hb := X.1.2.1
  intro v0 h0 v1 v2 h2 s0 h H locs ls hW hl
  unfold pf_X11_canStillBe_b37 at h
  refine lv_istore_n (lv' := [(3, .int (s0)), (0, .ref (ga G (v0))), (1, .int (v1)), (2, .ref (ga G (v2)))]) hx hb dX11_canStillBe_37 rfl hl (by decide) rfl ?_
  clear hl; intro ls hl
  refine lv_iconst (v := 0) hx hb dX11_canStillBe_38 (by decide) ?_
  refine lv_istore (lv' := [(4, .int (0)), (3, .int (s0)), (0, .ref (ga G (v0))), (1, .int (v1)), (2, .ref (ga G (v2)))]) hx hb dX11_canStillBe_39 hl (by decide) rfl ?_
  clear hl; intro ls hl
  exact bl_X11_canStillBe_L41 hB hrc X hret FU v0 h0 v1 v2 h2 s0 0 h _ _ _ hW (lv_sub hl [2, 3, 4, 1, 0] rfl)
set_option maxRecDepth 20000 in
set_option maxHeartbeats 4000000 in
theorem cr_X11_canStillBe_B {G : Gm} {l : Launch} {rc : Nat → Int32 → St → Option (Int32)} {hr : Nat} (hB : 5 ≤ hr) (hrc : ∀ {a0 : Nat} (_ : kv G a0 = 20) {a1 : Int32} {τ : St} {w : Int32} (_ : rc a0 a1 τ = some w), CtR G l yX11_canStillBe cX11_canStillBe 5 (some .boolean) hr [.ref (ga G a0), .int (a1)] τ (some (.int w))) {v0 : Nat} (h0 : kv G v0 = 20) {v1 : Int32} {σ : St} {r : Int32} (hf : pf_X11_canStillBe_B rc v0 v1 σ = some r) : CtR G l yX11_canStillBe cX11_canStillBe 5 (some .boolean) (hr + 1) [.ref (ga G (v0)), .int (v1)] σ (some (.int r)) := by
  refine met_zr (by decide +kernel) (Nat.le_of_ble_eq_true rfl) rfl ?_
  intro p e s m args below meth c Q ls X hW hret hl
  have hx := X.1.1
  have hb := X.1.2.1
  have hl : lv_has ls 5 [(0, .ref (ga G (v0))), (1, .int (v1))] := hl
  have h := hf
  clear hf
  unfold pf_X11_canStillBe_B at h
  refine lv_aload_n hx hb dX11_canStillBe_0 rfl (lv_at hl 0 rfl) ?_
  refine gg_X11_steps X hW.1 h0 m_3_62 dX11_canStillBe_1 ?_
  refine lv_iload_n hx hb dX11_canStillBe_4 rfl (lv_at hl 1 rfl) ?_
  obtain ⟨hi1, h⟩ := ckI_el h
  refine rg_lget X ⟨hW.1, hW.S⟩ (kv_1001 G) hi1 m_3_100 (by omega) rfl (Nat.le_of_ble_eq_true rfl) hl.1 dX11_canStillBe_5 ?_
  have khi1 := kv_step hW.1 hi1
  refine rg_cast X hW.1 khi1 m_3_114 dX11_canStillBe_8 ?_
  refine lv_astore_n (lv' := [(2, .ref (ga G (1005 + 4 * (v1).toNatClampNeg))), (0, .ref (ga G (v0))), (1, .int (v1))]) hx hb dX11_canStillBe_11 rfl hl (by decide) rfl ?_
  clear hl; intro ls hl
  refine lv_aload_n hx hb dX11_canStillBe_12 rfl (lv_at hl 0 rfl) ?_
  refine gg_X12_isDone X hW.1 khi1 m_5_125 dX11_canStillBe_13 ?_
  refine lv_if_eq (tgt := 21) hx hb dX11_canStillBe_16 (by decide) (fun hc => ?_) (fun hc => ?_)
  · replace h := if_t hc h
    refine lv_aload_n hx hb dX11_canStillBe_21 rfl (lv_at hl 0 rfl) ?_
    refine gg_X12_fails X hW.1 khi1 m_5_120 dX11_canStillBe_22 ?_
    refine lv_aload_n hx hb dX11_canStillBe_25 rfl (lv_at hl 0 rfl) ?_
    refine gg_X12_limit X hW.1 khi1 m_5_118 dX11_canStillBe_26 ?_
    refine lv_icmp_ge (tgt := 36) hx hb dX11_canStillBe_29 (by decide) (fun hc => ?_) (fun hc => ?_)
    · replace h := if_t hc h
      refine lv_iconst (v := 0) hx hb dX11_canStillBe_36 (by decide) ?_
      exact bl_X11_canStillBe_b37 hB hrc X hret v0 h0 v1 (1005 + 4 * (v1).toNatClampNeg) khi1 0 h _ _ _ hW (lv_sub hl [1, 2, 0] rfl)
    · replace h := if_f hc h
      refine lv_iconst (v := 1) hx hb dX11_canStillBe_32 (by decide) ?_
      refine lv_goto (tgt := 37) hx hb dX11_canStillBe_33 (by decide) ?_
      exact bl_X11_canStillBe_b37 hB hrc X hret v0 h0 v1 (1005 + 4 * (v1).toNatClampNeg) khi1 1 h _ _ _ hW (lv_sub hl [1, 2, 0] rfl)
  · replace h := if_f hc h
    refine lv_iconst (v := 1) hx hb dX11_canStillBe_19 (by decide) ?_
    exact rz_r hret h (by decide) dX11_canStillBe_20 hW
theorem cr_X11_canStillBe {G : Gm} {l : Launch} : ∀ (d : Nat) {v0 : Nat} (h0 : kv G v0 = 20) {v1 : Int32} {σ : St} {r : Int32} (_ : pf_X11_canStillBe d v0 v1 σ = some r), CtR G l yX11_canStillBe cX11_canStillBe 5 (some .boolean) (hRec 5 1 d) [.ref (ga G (v0)), .int (v1)] σ (some (.int r)) := by
  intro d
  induction d with
  | zero => intro v0 h0 v1 σ r hf; cases hf
  | succ d ih =>
    intro v0 h0 v1 σ r hf
    exact cr_X11_canStillBe_B (hr := hRec 5 1 d) (hRec_le _ _ _) ih h0 hf
set_option maxRecDepth 20000 in
set_option maxHeartbeats 4000000 in
theorem bl_X11_attempt_b168 (X : Cx (gB G) p R s m args c cells slots cX11_attempt 8 RX11 14) {r : Int32} {σ' : St} (hret : R_Iw G p l e R s m args below meth c cells slots Q cX11_attempt r σ') :
    ∀ (v0 : Nat) (h0 : kv G v0 = 20) (v3 : Nat) (h3 : kv G v3 = 25) (σ : St) (_ : pf_X11_attempt_b168 v0 v3 σ = some (r, σ')) (H : Heap) (locs : List Loc) (ls : Array Slot) (_ : GWw G σ s H locs) (_ : lv_has ls 8 [(0, .ref (ga G (v0))), (3, .ref (ga G (v3)))]), W p l e R s m args below meth c H locs cells slots Q (F0 m 168 ls []) := by
  have hx := X.1.1
  have hb := X.1.2.1
  intro v0 h0 v3 h3 σ h H locs ls hW hl
  unfold pf_X11_attempt_b168 at h
  refine lv_aload_n hx hb dX11_attempt_168 rfl (lv_at hl 1 rfl) ?_
  refine lv_iconst (v := 1) hx hb dX11_attempt_169 (by decide) ?_
  refine sg_X12_isDone X hW (by decide) h3 m_5_125 dX11_attempt_170 ?_
  clear hW; intro H locs hW
  refine nm_sw hW h ?_
  clear hW h; intro σ_1 hW h
  refine lv_aload_n hx hb dX11_attempt_173 rfl (lv_at hl 0 rfl) ?_
  refine lv_aload_n hx hb dX11_attempt_174 rfl (lv_at hl 0 rfl) ?_
  obtain ⟨r_2, hcl, h⟩ := bind_el h
  refine callr_V X hW h0 m_3_115 m_3_116 m_3_117 mv_X11_done (cr_X11_done h0 hcl) (by decide) rfl rfl (Nat.le_of_ble_eq_true rfl) hl.1 dX11_attempt_175 ?_
  clear hcl
  obtain ⟨r_3, hcl, h⟩ := bind_el h
  refine callr_V X hW h0 m_3_129 m_3_130 m_3_131 mv_X11_holds (cr_X11_holds h0 hcl) (by decide) rfl rfl (Nat.le_of_ble_eq_true rfl) hl.1 dX11_attempt_178 ?_
  clear hcl
  refine lv_if_ne (tgt := 186) hx hb dX11_attempt_181 (by decide) (fun hc => ?_) (fun hc => ?_)
  · replace h := if_f hc h
    refine lv_aload_n hx hb dX11_attempt_186 rfl (lv_at hl 0 rfl) ?_
    refine lv_iconst (v := 1) hx hb dX11_attempt_187 (by decide) ?_
    refine sg_X11_state X hW h0 m_3_68 dX11_attempt_188 ?_
    clear hW; intro H locs hW
    refine nm_sw hW h ?_
    clear hW h; intro σ_4 hW h
    refine lv_aload_n hx hb dX11_attempt_191 rfl (lv_at hl 0 rfl) ?_
    refine gg_X11_stock X hW.1 h0 m_3_64 dX11_attempt_192 ?_
    refine lv_iconst (v := 1) hx hb dX11_attempt_195 (by decide) ?_
    refine lv_dup2_11 hx hb dX11_attempt_196 rfl rfl ?_
    obtain ⟨hi5, h⟩ := ckI_el h
    refine rg_iald X hW.1 (kv_1002 G) hi5 dX11_attempt_197 ?_
    refine lv_bipush (v := 7) hx hb dX11_attempt_198 (by decide) ?_
    refine lv_iadd hx hb dX11_attempt_200 ?_
    obtain ⟨hi6, h⟩ := ckI_el h
    refine rg_iast X hW (kv_1002 G) hi6 dX11_attempt_201 ?_
    clear hW; intro H locs hW
    refine nm_sw hW h ?_
    clear hW h; intro σ_7 hW h
    refine lv_iconst (v := 2) hx hb dX11_attempt_202 (by decide) ?_
    exact ri_w hret h dX11_attempt_203 hW
  · replace h := if_t hc h
    refine lv_iconst (v := 1) hx hb dX11_attempt_184 (by decide) ?_
    exact ri_w hret h dX11_attempt_185 hW
set_option maxRecDepth 20000 in
set_option maxHeartbeats 4000000 in
theorem bl_X11_attempt_L139 (X : Cx (gB G) p R s m args c cells slots cX11_attempt 8 RX11 14) {r : Int32} {σ' : St} (hret : R_Iw G p l e R s m args below meth c cells slots Q cX11_attempt r σ') {k168 : Nat → Nat → St → (Option (Int32 × St))}
    (hk168 : ∀ (v0 : Nat) (h0 : kv G v0 = 20) (v3 : Nat) (h3 : kv G v3 = 25) (σ : St) (_ : k168 v0 v3 σ = some (r, σ')) (H : Heap) (locs : List Loc) (ls : Array Slot) (_ : GWw G σ s H locs) (_ : lv_has ls 8 [(0, .ref (ga G (v0))), (3, .ref (ga G (v3)))]), W p l e R s m args below meth c H locs cells slots Q (F0 m 168 ls [])) :
    ∀ (n : Nat), ∀ (v0 : Nat) (h0 : kv G v0 = 20) (v3 : Nat) (h3 : kv G v3 = 25) (v6 : Int32) (σ : St) (_ : pf_X11_attempt_L139 k168 n v0 v3 v6 σ = some (r, σ')) (H : Heap) (locs : List Loc) (ls : Array Slot) (_ : GWw G σ s H locs) (_ : lv_has ls 8 [(0, .ref (ga G (v0))), (3, .ref (ga G (v3))), (6, .int (v6))]), W p l e R s m args below meth c H locs cells slots Q (F0 m 139 ls []) := by
  have hx := X.1.1
  have hb := X.1.2.1
  intro n
  induction n with
  | zero => intro v0 h0 v3 h3 v6 σ h H locs ls hW hl; cases h
  | succ n ih =>
    intro v0 h0 v3 h3 v6 σ h H locs ls hW hl
    rw [pf_X11_attempt_L139.eq_2] at h
    refine lv_iload hx hb dX11_attempt_139 (lv_at hl 2 rfl) ?_
    refine lv_iconst (v := 3) hx hb dX11_attempt_141 (by decide) ?_
    refine lv_icmp_ge (tgt := 168) hx hb dX11_attempt_142 (by decide) (fun hc => ?_) (fun hc => ?_)
    · replace h := if_t hc h
      exact hk168 v0 h0 v3 h3 σ h _ _ _ hW (lv_sub hl [0, 1] rfl)
    · replace h := if_f hc h
      refine lv_aload_n hx hb dX11_attempt_145 rfl (lv_at hl 0 rfl) ?_
      refine gg_X11_stock X hW.1 h0 m_3_64 dX11_attempt_146 ?_
      refine lv_iload hx hb dX11_attempt_149 (lv_at hl 2 rfl) ?_
      refine lv_dup2_11 hx hb dX11_attempt_151 rfl rfl ?_
      obtain ⟨hi1, h⟩ := ckI_el h
      refine rg_iald X hW.1 (kv_1002 G) hi1 dX11_attempt_152 ?_
      refine lv_aload_n hx hb dX11_attempt_153 rfl (lv_at hl 1 rfl) ?_
      refine gg_X12_gives X hW.1 h3 m_5_133 dX11_attempt_154 ?_
      refine lv_iload hx hb dX11_attempt_157 (lv_at hl 2 rfl) ?_
      obtain ⟨hi2, h⟩ := ckI_el h
      refine rg_iald X hW.1 (kv_s3 h3) hi2 dX11_attempt_159 ?_
      refine lv_iadd hx hb dX11_attempt_160 ?_
      obtain ⟨hi3, h⟩ := ckI_el h
      refine rg_iast X hW (kv_1002 G) hi3 dX11_attempt_161 ?_
      clear hW; intro H locs hW
      refine nm_sw hW h ?_
      clear hW h; intro σ_4 hW h
      refine w_iinc (v := 1) (lv' := fun y => [(6, .int (y)), (0, .ref (ga G (v0))), (3, .ref (ga G (v3)))]) hx hb dX11_attempt_162 hl (k := 2) rfl (by decide) (by decide) (fun _ => rfl) h ?_
      clear h hl; intro v6_5 h ls hl
      refine lv_goto (tgt := 139) hx hb dX11_attempt_165 (by decide) ?_
      exact ih v0 h0 v3 h3 v6_5 σ_4 h _ _ _ hW (lv_sub hl [1, 2, 0] rfl)
set_option maxRecDepth 20000 in
set_option maxHeartbeats 4000000 in
theorem bl_X11_attempt_b251 (X : Cx (gB G) p R s m args c cells slots cX11_attempt 8 RX11 14) {r : Int32} {σ' : St} (hret : R_Iw G p l e R s m args below meth c cells slots Q cX11_attempt r σ') {k220 : Nat → Int32 → Int32 → St → (Option (Int32 × St))}
    (hk220 : ∀ (v0 : Nat) (h0 : kv G v0 = 20) (v6 : Int32) (v7 : Int32) (σ : St) (_ : k220 v0 v6 v7 σ = some (r, σ')) (H : Heap) (locs : List Loc) (ls : Array Slot) (_ : GWw G σ s H locs) (_ : lv_has ls 8 [(0, .ref (ga G (v0))), (6, .int (v6)), (7, .int (v7))]), W p l e R s m args below meth c H locs cells slots Q (F0 m 220 ls [])) :
    ∀ (v0 : Nat) (h0 : kv G v0 = 20) (v7 : Int32) (s0 : Int32) (s1 : Int32) (σ : St) (_ : pf_X11_attempt_b251 k220 v0 v7 s0 s1 σ = some (r, σ')) (H : Heap) (locs : List Loc) (ls : Array Slot) (_ : GWw G σ s H locs) (_ : lv_has ls 8 [(0, .ref (ga G (v0))), (7, .int (v7))]), W p l e R s m args below meth c H locs cells slots Q (F0 m 251 ls [.int (s1), .int (s0)]) := by
  have hx := X.1.1
  have hb := X.1.2.1
  intro v0 h0 v7 s0 s1 σ h H locs ls hW hl
  unfold pf_X11_attempt_b251 at h
  refine lv_ior hx hb dX11_attempt_251 ?_
  refine nm_i h ?_
  clear h; intro v6_1 h
  refine lv_istore (lv' := [(6, .int (v6_1)), (0, .ref (ga G (v0))), (7, .int (v7))]) hx hb dX11_attempt_252 hl (by decide) rfl ?_
  clear hl; intro ls hl
  refine w_iinc (v := 1) (lv' := fun y => [(7, .int (y)), (6, .int (v6_1)), (0, .ref (ga G (v0)))]) hx hb dX11_attempt_254 hl (k := 2) rfl (by decide) (by decide) (fun _ => rfl) h ?_
  clear h hl; intro v7_2 h ls hl
  refine lv_goto (tgt := 220) hx hb dX11_attempt_257 (by decide) ?_
  exact hk220 v0 h0 v6_1 v7_2 σ h _ _ _ hW (lv_sub hl [2, 1, 0] rfl)
set_option maxRecDepth 20000 in
set_option maxHeartbeats 4000000 in
theorem bl_X11_attempt_b260 (X : Cx (gB G) p R s m args c cells slots cX11_attempt 8 RX11 14) {r : Int32} {σ' : St} (hret : R_Iw G p l e R s m args below meth c cells slots Q cX11_attempt r σ') :
    ∀ (v0 : Nat) (h0 : kv G v0 = 20) (v6 : Int32) (σ : St) (_ : pf_X11_attempt_b260 v0 v6 σ = some (r, σ')) (H : Heap) (locs : List Loc) (ls : Array Slot) (_ : GWw G σ s H locs) (_ : lv_has ls 8 [(0, .ref (ga G (v0))), (6, .int (v6))]), W p l e R s m args below meth c H locs cells slots Q (F0 m 260 ls []) := by
  have hx := X.1.1
  have hb := X.1.2.1
  intro v0 h0 v6 σ h H locs ls hW hl
  unfold pf_X11_attempt_b260 at h
  refine lv_aload_n hx hb dX11_attempt_260 rfl (lv_at hl 0 rfl) ?_
  refine lv_iload hx hb dX11_attempt_261 (lv_at hl 1 rfl) ?_
  obtain ⟨r_1, hcl, h⟩ := bind_el h
  refine callr_V X hW h0 m_3_129 m_3_130 m_3_131 mv_X11_holds (cr_X11_holds h0 hcl) (by decide) rfl rfl (Nat.le_of_ble_eq_true rfl) hl.1 dX11_attempt_263 ?_
  clear hcl
  refine lv_if_eq (tgt := 271) hx hb dX11_attempt_266 (by decide) (fun hc => ?_) (fun hc => ?_)
  · replace h := if_t hc h
    refine lv_aload_n hx hb dX11_attempt_271 rfl (lv_at hl 0 rfl) ?_
    refine lv_iconst (v := 2) hx hb dX11_attempt_272 (by decide) ?_
    refine sg_X11_state X hW h0 m_3_68 dX11_attempt_273 ?_
    clear hW; intro H locs hW
    refine nm_sw hW h ?_
    clear hW h; intro σ_2 hW h
    refine lv_iconst (v := 3) hx hb dX11_attempt_276 (by decide) ?_
    exact ri_w hret h dX11_attempt_277 hW
  · replace h := if_f hc h
    refine lv_iconst (v := 0) hx hb dX11_attempt_269 (by decide) ?_
    exact ri_w hret h dX11_attempt_270 hW
set_option maxRecDepth 20000 in
set_option maxHeartbeats 4000000 in
theorem bl_X11_attempt_L220 (X : Cx (gB G) p R s m args c cells slots cX11_attempt 8 RX11 14) {r : Int32} {σ' : St} (hret : R_Iw G p l e R s m args below meth c cells slots Q cX11_attempt r σ') {k260 : Nat → Int32 → St → (Option (Int32 × St))}
    (hk260 : ∀ (v0 : Nat) (h0 : kv G v0 = 20) (v6 : Int32) (σ : St) (_ : k260 v0 v6 σ = some (r, σ')) (H : Heap) (locs : List Loc) (ls : Array Slot) (_ : GWw G σ s H locs) (_ : lv_has ls 8 [(0, .ref (ga G (v0))), (6, .int (v6))]), W p l e R s m args below meth c H locs cells slots Q (F0 m 260 ls [])) :
    ∀ (n : Nat), ∀ (v0 : Nat) (h0 : kv G v0 = 20) (v6 : Int32) (v7 : Int32) (σ : St) (_ : pf_X11_attempt_L220 k260 n v0 v6 v7 σ = some (r, σ')) (H : Heap) (locs : List Loc) (ls : Array Slot) (_ : GWw G σ s H locs) (_ : lv_has ls 8 [(0, .ref (ga G (v0))), (6, .int (v6)), (7, .int (v7))]), W p l e R s m args below meth c H locs cells slots Q (F0 m 220 ls []) := by
  have hx := X.1.1
  have hb := X.1.2.1
  intro n
  induction n with
  | zero => intro v0 h0 v6 v7 σ h H locs ls hW hl; cases h
  | succ n ih =>
    intro v0 h0 v6 v7 σ h H locs ls hW hl
    rw [pf_X11_attempt_L220.eq_2] at h
    refine lv_iload hx hb dX11_attempt_220 (lv_at hl 2 rfl) ?_
    refine lv_aload_n hx hb dX11_attempt_222 rfl (lv_at hl 0 rfl) ?_
    refine gg_X11_steps X hW.1 h0 m_3_62 dX11_attempt_223 ?_
    refine rg_lsize X hW (kv_1001 G) m_3_119 (by decide) rfl (Nat.le_of_ble_eq_true rfl) hl.1 dX11_attempt_226 ?_
    refine lv_icmp_ge (tgt := 260) hx hb dX11_attempt_229 (by decide) (fun hc => ?_) (fun hc => ?_)
    · replace h := if_t hc h
      exact hk260 v0 h0 v6 σ h _ _ _ hW (lv_sub hl [0, 1] rfl)
    · replace h := if_f hc h
      refine lv_iload hx hb dX11_attempt_232 (lv_at hl 1 rfl) ?_
      refine lv_aload_n hx hb dX11_attempt_234 rfl (lv_at hl 0 rfl) ?_
      refine lv_iload hx hb dX11_attempt_235 (lv_at hl 2 rfl) ?_
      obtain ⟨r_1, hcl, h⟩ := bind_el h
      refine callr_V X hW h0 m_3_134 m_3_136 m_0_8 mv_X11_canStillBe (cr_X11_canStillBe 8 h0 hcl) (by decide) rfl rfl (Nat.le_of_ble_eq_true rfl) hl.1 dX11_attempt_237 ?_
      clear hcl
      refine lv_if_eq (tgt := 250) hx hb dX11_attempt_240 (by decide) (fun hc => ?_) (fun hc => ?_)
      · replace h := if_t hc h
        refine lv_iconst (v := 0) hx hb dX11_attempt_250 (by decide) ?_
        exact bl_X11_attempt_b251 X hret ih v0 h0 v7 v6 0 σ h _ _ _ hW (lv_sub hl [0, 2] rfl)
      · replace h := if_f hc h
        refine lv_iconst (v := 1) hx hb dX11_attempt_243 (by decide) ?_
        refine lv_iload hx hb dX11_attempt_244 (lv_at hl 2 rfl) ?_
        refine w_ishl hx hb dX11_attempt_246 ?_
        refine lv_goto (tgt := 251) hx hb dX11_attempt_247 (by decide) ?_
        exact bl_X11_attempt_b251 X hret ih v0 h0 v7 v6 (ishl 1 v7) σ h _ _ _ hW (lv_sub hl [0, 2] rfl)
set_option maxRecDepth 20000 in
set_option maxHeartbeats 4000000 in
theorem bl_X11_attempt_b131 (X : Cx (gB G) p R s m args c cells slots cX11_attempt 8 RX11 14) {r : Int32} {σ' : St} (hret : R_Iw G p l e R s m args below meth c cells slots Q cX11_attempt r σ') :
    ∀ (v0 : Nat) (h0 : kv G v0 = 20) (v3 : Nat) (h3 : kv G v3 = 25) (v5 : Int32) (σ : St) (_ : pf_X11_attempt_b131 v0 v3 v5 σ = some (r, σ')) (H : Heap) (locs : List Loc) (ls : Array Slot) (_ : GWw G σ s H locs) (_ : lv_has ls 8 [(0, .ref (ga G (v0))), (3, .ref (ga G (v3))), (5, .int (v5))]), W p l e R s m args below meth c H locs cells slots Q (F0 m 131 ls []) := by
  have hx := X.1.1
  have hb := X.1.2.1
  intro v0 h0 v3 h3 v5 σ h H locs ls hW hl
  unfold pf_X11_attempt_b131 at h
  refine lv_iload hx hb dX11_attempt_131 (lv_at hl 2 rfl) ?_
  refine lv_if_eq (tgt := 204) hx hb dX11_attempt_133 (by decide) (fun hc => ?_) (fun hc => ?_)
  · replace h := if_t hc h
    refine lv_aload_n hx hb dX11_attempt_204 rfl (lv_at hl 1 rfl) ?_
    refine lv_dup hx hb dX11_attempt_205 rfl ?_
    refine gg_X12_fails X hW.1 h3 m_5_120 dX11_attempt_206 ?_
    refine lv_iconst (v := 1) hx hb dX11_attempt_209 (by decide) ?_
    refine lv_iadd hx hb dX11_attempt_210 ?_
    refine sg_X12_fails X hW h3 m_5_120 dX11_attempt_211 ?_
    clear hW; intro H locs hW
    refine nm_sw hW h ?_
    clear hW h; intro σ_1 hW h
    refine lv_iconst (v := 0) hx hb dX11_attempt_214 (by decide) ?_
    refine lv_istore (lv' := [(6, .int (0)), (0, .ref (ga G (v0))), (3, .ref (ga G (v3))), (5, .int (v5))]) hx hb dX11_attempt_215 hl (by decide) rfl ?_
    clear hl; intro ls hl
    refine lv_iconst (v := 0) hx hb dX11_attempt_217 (by decide) ?_
    refine lv_istore (lv' := [(7, .int (0)), (6, .int (0)), (0, .ref (ga G (v0))), (3, .ref (ga G (v3))), (5, .int (v5))]) hx hb dX11_attempt_218 hl (by decide) rfl ?_
    clear hl; intro ls hl
    exact bl_X11_attempt_L220 X hret (bl_X11_attempt_b260 X hret) FU v0 h0 0 0 σ_1 h _ _ _ hW (lv_sub hl [2, 1, 0] rfl)
  · replace h := if_f hc h
    refine lv_iconst (v := 0) hx hb dX11_attempt_136 (by decide) ?_
    refine lv_istore (lv' := [(6, .int (0)), (0, .ref (ga G (v0))), (3, .ref (ga G (v3))), (5, .int (v5))]) hx hb dX11_attempt_137 hl (by decide) rfl ?_
    clear hl; intro ls hl
    exact bl_X11_attempt_L139 X hret (bl_X11_attempt_b168 X hret) FU v0 h0 v3 h3 0 σ h _ _ _ hW (lv_sub hl [1, 2, 0] rfl)
set_option maxRecDepth 20000 in
set_option maxHeartbeats 4000000 in
theorem bl_X11_attempt_L102 (X : Cx (gB G) p R s m args c cells slots cX11_attempt 8 RX11 14) {r : Int32} {σ' : St} (hret : R_Iw G p l e R s m args below meth c cells slots Q cX11_attempt r σ') {k131 : Nat → Nat → Int32 → St → (Option (Int32 × St))}
    (hk131 : ∀ (v0 : Nat) (h0 : kv G v0 = 20) (v3 : Nat) (h3 : kv G v3 = 25) (v5 : Int32) (σ : St) (_ : k131 v0 v3 v5 σ = some (r, σ')) (H : Heap) (locs : List Loc) (ls : Array Slot) (_ : GWw G σ s H locs) (_ : lv_has ls 8 [(0, .ref (ga G (v0))), (3, .ref (ga G (v3))), (5, .int (v5))]), W p l e R s m args below meth c H locs cells slots Q (F0 m 131 ls [])) :
    ∀ (n : Nat), ∀ (v0 : Nat) (h0 : kv G v0 = 20) (v3 : Nat) (h3 : kv G v3 = 25) (v5 : Int32) (v6 : Int32) (σ : St) (_ : pf_X11_attempt_L102 k131 n v0 v3 v5 v6 σ = some (r, σ')) (H : Heap) (locs : List Loc) (ls : Array Slot) (_ : GWw G σ s H locs) (_ : lv_has ls 8 [(0, .ref (ga G (v0))), (3, .ref (ga G (v3))), (5, .int (v5)), (6, .int (v6))]), W p l e R s m args below meth c H locs cells slots Q (F0 m 102 ls []) := by
  have hx := X.1.1
  have hb := X.1.2.1
  intro n
  induction n with
  | zero => intro v0 h0 v3 h3 v5 v6 σ h H locs ls hW hl; cases h
  | succ n ih =>
    intro v0 h0 v3 h3 v5 v6 σ h H locs ls hW hl
    rw [pf_X11_attempt_L102.eq_2] at h
    refine lv_iload hx hb dX11_attempt_102 (lv_at hl 3 rfl) ?_
    refine lv_iconst (v := 3) hx hb dX11_attempt_104 (by decide) ?_
    refine lv_icmp_ge (tgt := 131) hx hb dX11_attempt_105 (by decide) (fun hc => ?_) (fun hc => ?_)
    · replace h := if_t hc h
      exact hk131 v0 h0 v3 h3 v5 σ h _ _ _ hW (lv_sub hl [0, 1, 2] rfl)
    · replace h := if_f hc h
      refine lv_aload_n hx hb dX11_attempt_108 rfl (lv_at hl 0 rfl) ?_
      refine gg_X11_stock X hW.1 h0 m_3_64 dX11_attempt_109 ?_
      refine lv_iload hx hb dX11_attempt_112 (lv_at hl 3 rfl) ?_
      refine lv_dup2_11 hx hb dX11_attempt_114 rfl rfl ?_
      obtain ⟨hi1, h⟩ := ckI_el h
      refine rg_iald X hW.1 (kv_1002 G) hi1 dX11_attempt_115 ?_
      refine lv_aload_n hx hb dX11_attempt_116 rfl (lv_at hl 1 rfl) ?_
      refine gg_X12_uses X hW.1 h3 m_5_127 dX11_attempt_117 ?_
      refine lv_iload hx hb dX11_attempt_120 (lv_at hl 3 rfl) ?_
      obtain ⟨hi2, h⟩ := ckI_el h
      refine rg_iald X hW.1 (kv_s1 h3) hi2 dX11_attempt_122 ?_
      refine lv_isub hx hb dX11_attempt_123 ?_
      obtain ⟨hi3, h⟩ := ckI_el h
      refine rg_iast X hW (kv_1002 G) hi3 dX11_attempt_124 ?_
      clear hW; intro H locs hW
      refine nm_sw hW h ?_
      clear hW h; intro σ_4 hW h
      refine w_iinc (v := 1) (lv' := fun y => [(6, .int (y)), (0, .ref (ga G (v0))), (3, .ref (ga G (v3))), (5, .int (v5))]) hx hb dX11_attempt_125 hl (k := 3) rfl (by decide) (by decide) (fun _ => rfl) h ?_
      clear h hl; intro v6_5 h ls hl
      refine lv_goto (tgt := 102) hx hb dX11_attempt_128 (by decide) ?_
      exact ih v0 h0 v3 h3 v5 v6_5 σ_4 h _ _ _ hW (lv_sub hl [1, 2, 3, 0] rfl)
set_option maxRecDepth 20000 in
set_option maxHeartbeats 4000000 in
theorem bl_X11_attempt_b99 (X : Cx (gB G) p R s m args c cells slots cX11_attempt 8 RX11 14) {r : Int32} {σ' : St} (hret : R_Iw G p l e R s m args below meth c cells slots Q cX11_attempt r σ') :
    ∀ (v0 : Nat) (h0 : kv G v0 = 20) (v3 : Nat) (h3 : kv G v3 = 25) (v5 : Int32) (σ : St) (_ : pf_X11_attempt_b99 v0 v3 v5 σ = some (r, σ')) (H : Heap) (locs : List Loc) (ls : Array Slot) (_ : GWw G σ s H locs) (_ : lv_has ls 8 [(0, .ref (ga G (v0))), (3, .ref (ga G (v3))), (5, .int (v5))]), W p l e R s m args below meth c H locs cells slots Q (F0 m 99 ls []) := by
  have hx := X.1.1
  have hb := X.1.2.1
  intro v0 h0 v3 h3 v5 σ h H locs ls hW hl
  unfold pf_X11_attempt_b99 at h
  refine lv_iconst (v := 0) hx hb dX11_attempt_99 (by decide) ?_
  refine lv_istore (lv' := [(6, .int (0)), (0, .ref (ga G (v0))), (3, .ref (ga G (v3))), (5, .int (v5))]) hx hb dX11_attempt_100 hl (by decide) rfl ?_
  clear hl; intro ls hl
  exact bl_X11_attempt_L102 X hret (bl_X11_attempt_b131 X hret) FU v0 h0 v3 h3 v5 0 σ h _ _ _ hW (lv_sub hl [1, 2, 3, 0] rfl)
set_option maxRecDepth 20000 in
set_option maxHeartbeats 4000000 in
theorem bl_X11_attempt_b85 (X : Cx (gB G) p R s m args c cells slots cX11_attempt 8 RX11 14) {r : Int32} {σ' : St} (hret : R_Iw G p l e R s m args below meth c cells slots Q cX11_attempt r σ') :
    ∀ (v0 : Nat) (h0 : kv G v0 = 20) (v3 : Nat) (h3 : kv G v3 = 25) (s0 : Int32) (σ : St) (_ : pf_X11_attempt_b85 v0 v3 s0 σ = some (r, σ')) (H : Heap) (locs : List Loc) (ls : Array Slot) (_ : GWw G σ s H locs) (_ : lv_has ls 8 [(0, .ref (ga G (v0))), (3, .ref (ga G (v3)))]), W p l e R s m args below meth c H locs cells slots Q (F0 m 85 ls [.int (s0)]) := by
  have hx := X.1.1
  have hb := X.1.2.1
  intro v0 h0 v3 h3 s0 σ h H locs ls hW hl
  unfold pf_X11_attempt_b85 at h
  refine lv_istore (lv' := [(5, .int (s0)), (0, .ref (ga G (v0))), (3, .ref (ga G (v3)))]) hx hb dX11_attempt_85 hl (by decide) rfl ?_
  clear hl; intro ls hl
  refine lv_iload hx hb dX11_attempt_87 (lv_at hl 0 rfl) ?_
  refine lv_if_ne (tgt := 99) hx hb dX11_attempt_89 (by decide) (fun hc => ?_) (fun hc => ?_)
  · replace h := if_f hc h
    exact bl_X11_attempt_b99 X hret v0 h0 v3 h3 s0 σ h _ _ _ hW (lv_sub hl [1, 2, 0] rfl)
  · replace h := if_t hc h
    refine lv_aload_n hx hb dX11_attempt_92 rfl (lv_at hl 2 rfl) ?_
    refine gg_X12_isCostly X hW.1 h3 m_5_123 dX11_attempt_93 ?_
    refine lv_if_eq (tgt := 131) hx hb dX11_attempt_96 (by decide) (fun hc => ?_) (fun hc => ?_)
    · replace h := if_t hc h
      exact bl_X11_attempt_b131 X hret v0 h0 v3 h3 s0 σ h _ _ _ hW (lv_sub hl [1, 2, 0] rfl)
    · replace h := if_f hc h
      exact bl_X11_attempt_b99 X hret v0 h0 v3 h3 s0 σ h _ _ _ hW (lv_sub hl [1, 2, 0] rfl)
set_option maxRecDepth 20000 in
set_option maxHeartbeats 4000000 in
theorem bl_X11_attempt_b71 (X : Cx (gB G) p R s m args c cells slots cX11_attempt 8 RX11 14) {r : Int32} {σ' : St} (hret : R_Iw G p l e R s m args below meth c cells slots Q cX11_attempt r σ') :
    ∀ (v0 : Nat) (h0 : kv G v0 = 20) (v3 : Nat) (h3 : kv G v3 = 25) (v4 : Int32) (σ : St) (_ : pf_X11_attempt_b71 v0 v3 v4 σ = some (r, σ')) (H : Heap) (locs : List Loc) (ls : Array Slot) (_ : GWw G σ s H locs) (_ : lv_has ls 8 [(0, .ref (ga G (v0))), (3, .ref (ga G (v3))), (4, .int (v4))]), W p l e R s m args below meth c H locs cells slots Q (F0 m 71 ls []) := by
  have hx := X.1.1
  have hb := X.1.2.1
  intro v0 h0 v3 h3 v4 σ h H locs ls hW hl
  unfold pf_X11_attempt_b71 at h
  refine lv_iload hx hb dX11_attempt_71 (lv_at hl 2 rfl) ?_
  refine lv_aload_n hx hb dX11_attempt_73 rfl (lv_at hl 1 rfl) ?_
  refine gg_X12_risk X hW.1 h3 m_5_116 dX11_attempt_74 ?_
  refine lv_icmp_lt (tgt := 84) hx hb dX11_attempt_77 (by decide) (fun hc => ?_) (fun hc => ?_)
  · replace h := if_t hc h
    refine lv_iconst (v := 0) hx hb dX11_attempt_84 (by decide) ?_
    exact bl_X11_attempt_b85 X hret v0 h0 v3 h3 0 σ h _ _ _ hW (lv_sub hl [0, 1] rfl)
  · replace h := if_f hc h
    refine lv_iconst (v := 1) hx hb dX11_attempt_80 (by decide) ?_
    refine lv_goto (tgt := 85) hx hb dX11_attempt_81 (by decide) ?_
    exact bl_X11_attempt_b85 X hret v0 h0 v3 h3 1 σ h _ _ _ hW (lv_sub hl [0, 1] rfl)
set_option maxRecDepth 20000 in
set_option maxHeartbeats 4000000 in
theorem cr_X11_attempt {G : Gm} {l : Launch} {v0 : Nat} (h0 : kv G v0 = 20) {v1 : Int32} {v2 : Int32} {σ : St} {r : Int32} {σ' : St} (hf : pf_X11_attempt v0 v1 v2 σ = some (r, σ')) : CtW G l yX11_attempt cX11_attempt 8 (some .int) 14 [.ref (ga G (v0)), .int (v1), .int (v2)] σ (some (.int r)) σ' := by
  refine met_iw (by decide +kernel) (Nat.le_of_ble_eq_true rfl) rfl ?_
  intro p e s m args below meth c Q ls X hW hret hl
  have hx := X.1.1
  have hb := X.1.2.1
  have hl : lv_has ls 8 [(0, .ref (ga G (v0))), (1, .int (v1)), (2, .int (v2))] := hl
  have h := hf
  clear hf
  unfold pf_X11_attempt at h
  refine lv_aload_n hx hb dX11_attempt_0 rfl (lv_at hl 0 rfl) ?_
  refine gg_X11_steps X hW.1 h0 m_3_62 dX11_attempt_1 ?_
  refine lv_iload_n hx hb dX11_attempt_4 rfl (lv_at hl 1 rfl) ?_
  obtain ⟨hi1, h⟩ := ckI_el h
  refine rg_lget X hW (kv_1001 G) hi1 m_3_100 (by decide) rfl (Nat.le_of_ble_eq_true rfl) hl.1 dX11_attempt_5 ?_
  have khi1 := kv_step hW.1 hi1
  refine rg_cast X hW.1 khi1 m_3_114 dX11_attempt_8 ?_
  refine lv_astore_n (lv' := [(3, .ref (ga G (1005 + 4 * (v1).toNatClampNeg))), (0, .ref (ga G (v0))), (1, .int (v1)), (2, .int (v2))]) hx hb dX11_attempt_11 rfl hl (by decide) rfl ?_
  clear hl; intro ls hl
  refine lv_aload_n hx hb dX11_attempt_12 rfl (lv_at hl 1 rfl) ?_
  refine lv_iload_n hx hb dX11_attempt_13 rfl (lv_at hl 2 rfl) ?_
  refine lv_aload_n hx hb dX11_attempt_14 rfl (lv_at hl 1 rfl) ?_
  obtain ⟨r_2, hcl, h⟩ := bind_el h
  refine callr_V X hW h0 m_3_115 m_3_116 m_3_117 mv_X11_done (cr_X11_done h0 hcl) (by decide) rfl rfl (Nat.le_of_ble_eq_true rfl) hl.1 dX11_attempt_15 ?_
  clear hcl
  refine lv_aload_n hx hb dX11_attempt_18 rfl (lv_at hl 1 rfl) ?_
  refine gg_X11_stock X hW.1 h0 m_3_64 dX11_attempt_19 ?_
  obtain ⟨r_3, hcl, h⟩ := bind_el h
  refine callr_V X hW h0 m_3_123 m_3_124 m_3_125 mv_X11_can (cr_X11_can h0 (kv_1002 G) hcl) (by decide) rfl rfl (Nat.le_of_ble_eq_true rfl) hl.1 dX11_attempt_22 ?_
  clear hcl
  refine lv_if_ne (tgt := 32) hx hb dX11_attempt_25 (by decide) (fun hc => ?_) (fun hc => ?_)
  · replace h := if_f hc h
    refine lv_iload_n hx hb dX11_attempt_32 rfl (lv_at hl 3 rfl) ?_
    refine lv_istore (lv' := [(4, .int (v2)), (3, .ref (ga G (1005 + 4 * (v1).toNatClampNeg))), (0, .ref (ga G (v0))), (1, .int (v1)), (2, .int (v2))]) hx hb dX11_attempt_33 hl (by decide) rfl ?_
    clear hl; intro ls hl
    refine lv_iload hx hb dX11_attempt_35 (lv_at hl 0 rfl) ?_
    refine lv_if_ge (tgt := 71) hx hb dX11_attempt_37 (by decide) (fun hc => ?_) (fun hc => ?_)
    · replace h := if_t hc h
      exact bl_X11_attempt_b71 X hret v0 h0 (1005 + 4 * (v1).toNatClampNeg) khi1 v2 σ h _ _ _ hW (lv_sub hl [2, 1, 0] rfl)
    · replace h := if_f hc h
      refine lv_aload_n hx hb dX11_attempt_40 rfl (lv_at hl 2 rfl) ?_
      refine lv_aload_n hx hb dX11_attempt_41 rfl (lv_at hl 2 rfl) ?_
      refine gg_X11_seed X hW.1 h0 m_3_67 dX11_attempt_42 ?_
      refine lv_ldc (v := 1103515245) hx hb X.1.2.2.2.1 (X.1.2.2.2.2 _ m_3_128) dX11_attempt_45 ?_
      refine lv_imul hx hb dX11_attempt_47 ?_
      refine lv_sipush (v := 12345) hx hb dX11_attempt_48 (by decide) ?_
      refine lv_iadd hx hb dX11_attempt_51 ?_
      refine sg_X11_seed X hW h0 m_3_67 dX11_attempt_52 ?_
      clear hW; intro H locs hW
      refine nm_sw hW h ?_
      clear hW h; intro σ_4 hW h
      refine lv_aload_n hx hb dX11_attempt_55 rfl (lv_at hl 2 rfl) ?_
      refine gg_X11_seed X hW.1 h0 m_3_67 dX11_attempt_56 ?_
      refine lv_bipush (v := 16) hx hb dX11_attempt_59 (by decide) ?_
      refine w_ishr hx hb dX11_attempt_61 ?_
      refine lv_sipush (v := 32767) hx hb dX11_attempt_62 (by decide) ?_
      refine lv_iand hx hb dX11_attempt_65 ?_
      refine lv_bipush (v := 100) hx hb dX11_attempt_66 (by decide) ?_
      refine w_irem hx hb dX11_attempt_68 (by decide) ?_
      refine nm_i h ?_
      clear h; intro v4_5 h
      refine lv_istore (lv' := [(4, .int (v4_5)), (3, .ref (ga G (1005 + 4 * (v1).toNatClampNeg))), (0, .ref (ga G (v0))), (1, .int (v1)), (2, .int (v2))]) hx hb dX11_attempt_69 hl (by decide) rfl ?_
      clear hl; intro ls hl
      exact bl_X11_attempt_b71 X hret v0 h0 (1005 + 4 * (v1).toNatClampNeg) khi1 v4_5 σ_4 h _ _ _ hW (lv_sub hl [2, 1, 0] rfl)
  · replace h := if_t hc h
    refine lv_sipush (v := (-1001)) hx hb dX11_attempt_28 (by decide) ?_
    exact ri_w hret h dX11_attempt_31 hW
end
